theorem wd_1356 : ((.methodLink "UnifyBenchModel$Reader" 3 y_Object_init) : Cond) ∈ GW := gw_6 157 (by decide +kernel) rfl
theorem wd_1357 : ((.classLink "UnifyBenchModel$Reader" 9 "java/lang/String") : Cond) ∈ GW := gw_6 158 (by decide +kernel) rfl
theorem wd_1358 : ((.arrayOver (.object "java/lang/String")) : Cond) ∈ NWL := nwl_in (gt_6 159 (by decide +kernel)) rfl
theorem tx_at_MoReader_63 : (tx_at R_MoReader 63 "java/lang/IllegalStateException").all (fun w => decide (w ∈ tables_1) && (goodWord w || ((isNest w && w.onTables) || tx_isS w))) = true := by decide +kernel
theorem wd_1359 : ((.initialized "java/lang/IllegalStateException") : Cond) ∈ GW := gw_1 27 (by decide +kernel) rfl
theorem sd_eq (ka : Nat → Nat) : va_up (va_up (va_up (va_up (va_up (va_up (va_up (va_up (va_up (va_up (va_up (va_up (va_up (va_up (va_up (va_up (va_up (va_up (va_up (va_up (fun _ => none) 0 (some (ka (200 + 2)))) 1 (some (ka (200 + 3)))) 2 (some (ka (200 + 4)))) 3 (some (ka (200 + 5)))) 4 (some (ka (200 + 6)))) 5 (some (ka (200 + 7)))) 6 (some (ka (200 + 8)))) 7 (some (ka (200 + 9)))) 8 (some (ka (200 + 10)))) 9 (some (ka (200 + 11)))) 10 (some (ka (200 + 12)))) 11 (some (ka (200 + 13)))) 12 (some (ka (200 + 14)))) 13 (some (ka (200 + 15)))) 14 (some (ka (200 + 16)))) 15 (some (ka (200 + 17)))) 16 (some (ka (200 + 18)))) 17 (some (ka (200 + 19)))) 18 (some (ka (200 + 20)))) 19 (some (ka (200 + 21))) = sdf ka := by
  funext k
  by_cases h : k < 20
  · rcases (show k = 0 ∨ k = 1 ∨ k = 2 ∨ k = 3 ∨ k = 4 ∨ k = 5 ∨ k = 6 ∨ k = 7 ∨ k = 8 ∨ k = 9 ∨ k = 10 ∨ k = 11 ∨ k = 12 ∨ k = 13 ∨ k = 14 ∨ k = 15 ∨ k = 16 ∨ k = 17 ∨ k = 18 ∨ k = 19 by omega) with rfl | rfl | rfl | rfl | rfl | rfl | rfl | rfl | rfl | rfl | rfl | rfl | rfl | rfl | rfl | rfl | rfl | rfl | rfl | rfl <;> rfl
  · simp only [va_up, sdf, if_neg h]
    repeat rw [if_neg (by omega)]
theorem d_MoReader_init_0 : decode b_MoReader_init 0 = .ok (.aload_n 0, 1) := by decide +kernel
theorem d_MoReader_init_1 : decode b_MoReader_init 1 = .ok (.invokespecial 3, 3) := by decide +kernel
theorem d_MoReader_init_4 : decode b_MoReader_init 4 = .ok (.aload_n 0, 1) := by decide +kernel
theorem d_MoReader_init_5 : decode b_MoReader_init 5 = .ok (.bipush 20, 2) := by decide +kernel
theorem d_MoReader_init_7 : decode b_MoReader_init 7 = .ok (.anewarray 9, 3) := by decide +kernel
theorem d_MoReader_init_10 : decode b_MoReader_init 10 = .ok (.dup, 1) := by decide +kernel
theorem d_MoReader_init_11 : decode b_MoReader_init 11 = .ok (.iconst 0, 1) := by decide +kernel
theorem d_MoReader_init_12 : decode b_MoReader_init 12 = .ok (.ldc 11, 2) := by decide +kernel
theorem d_MoReader_init_14 : decode b_MoReader_init 14 = .ok (.aastore, 1) := by decide +kernel
theorem d_MoReader_init_15 : decode b_MoReader_init 15 = .ok (.dup, 1) := by decide +kernel
theorem d_MoReader_init_16 : decode b_MoReader_init 16 = .ok (.iconst 1, 1) := by decide +kernel
theorem d_MoReader_init_17 : decode b_MoReader_init 17 = .ok (.ldc 13, 2) := by decide +kernel
theorem d_MoReader_init_19 : decode b_MoReader_init 19 = .ok (.aastore, 1) := by decide +kernel
theorem d_MoReader_init_20 : decode b_MoReader_init 20 = .ok (.dup, 1) := by decide +kernel
theorem d_MoReader_init_21 : decode b_MoReader_init 21 = .ok (.iconst 2, 1) := by decide +kernel
theorem d_MoReader_init_22 : decode b_MoReader_init 22 = .ok (.ldc 15, 2) := by decide +kernel
theorem d_MoReader_init_24 : decode b_MoReader_init 24 = .ok (.aastore, 1) := by decide +kernel
theorem d_MoReader_init_25 : decode b_MoReader_init 25 = .ok (.dup, 1) := by decide +kernel
theorem d_MoReader_init_26 : decode b_MoReader_init 26 = .ok (.iconst 3, 1) := by decide +kernel
theorem d_MoReader_init_27 : decode b_MoReader_init 27 = .ok (.ldc 17, 2) := by decide +kernel
theorem d_MoReader_init_29 : decode b_MoReader_init 29 = .ok (.aastore, 1) := by decide +kernel
theorem d_MoReader_init_30 : decode b_MoReader_init 30 = .ok (.dup, 1) := by decide +kernel
theorem d_MoReader_init_31 : decode b_MoReader_init 31 = .ok (.iconst 4, 1) := by decide +kernel
theorem d_MoReader_init_32 : decode b_MoReader_init 32 = .ok (.ldc 19, 2) := by decide +kernel
theorem d_MoReader_init_34 : decode b_MoReader_init 34 = .ok (.aastore, 1) := by decide +kernel
theorem d_MoReader_init_35 : decode b_MoReader_init 35 = .ok (.dup, 1) := by decide +kernel
theorem d_MoReader_init_36 : decode b_MoReader_init 36 = .ok (.iconst 5, 1) := by decide +kernel
theorem d_MoReader_init_37 : decode b_MoReader_init 37 = .ok (.ldc 21, 2) := by decide +kernel
theorem d_MoReader_init_39 : decode b_MoReader_init 39 = .ok (.aastore, 1) := by decide +kernel
theorem d_MoReader_init_40 : decode b_MoReader_init 40 = .ok (.dup, 1) := by decide +kernel
theorem d_MoReader_init_41 : decode b_MoReader_init 41 = .ok (.bipush 6, 2) := by decide +kernel
theorem d_MoReader_init_43 : decode b_MoReader_init 43 = .ok (.ldc 23, 2) := by decide +kernel
theorem d_MoReader_init_45 : decode b_MoReader_init 45 = .ok (.aastore, 1) := by decide +kernel
theorem d_MoReader_init_46 : decode b_MoReader_init 46 = .ok (.dup, 1) := by decide +kernel
theorem d_MoReader_init_47 : decode b_MoReader_init 47 = .ok (.bipush 7, 2) := by decide +kernel
theorem d_MoReader_init_49 : decode b_MoReader_init 49 = .ok (.ldc 25, 2) := by decide +kernel
theorem d_MoReader_init_51 : decode b_MoReader_init 51 = .ok (.aastore, 1) := by decide +kernel
theorem d_MoReader_init_52 : decode b_MoReader_init 52 = .ok (.dup, 1) := by decide +kernel
theorem d_MoReader_init_53 : decode b_MoReader_init 53 = .ok (.bipush 8, 2) := by decide +kernel
theorem d_MoReader_init_55 : decode b_MoReader_init 55 = .ok (.ldc 27, 2) := by decide +kernel
theorem d_MoReader_init_57 : decode b_MoReader_init 57 = .ok (.aastore, 1) := by decide +kernel
theorem d_MoReader_init_58 : decode b_MoReader_init 58 = .ok (.dup, 1) := by decide +kernel
theorem d_MoReader_init_59 : decode b_MoReader_init 59 = .ok (.bipush 9, 2) := by decide +kernel
theorem d_MoReader_init_61 : decode b_MoReader_init 61 = .ok (.ldc 29, 2) := by decide +kernel
theorem d_MoReader_init_63 : decode b_MoReader_init 63 = .ok (.aastore, 1) := by decide +kernel
theorem d_MoReader_init_64 : decode b_MoReader_init 64 = .ok (.dup, 1) := by decide +kernel
theorem d_MoReader_init_65 : decode b_MoReader_init 65 = .ok (.bipush 10, 2) := by decide +kernel
theorem d_MoReader_init_67 : decode b_MoReader_init 67 = .ok (.ldc 31, 2) := by decide +kernel
theorem d_MoReader_init_69 : decode b_MoReader_init 69 = .ok (.aastore, 1) := by decide +kernel
theorem d_MoReader_init_70 : decode b_MoReader_init 70 = .ok (.dup, 1) := by decide +kernel
theorem d_MoReader_init_71 : decode b_MoReader_init 71 = .ok (.bipush 11, 2) := by decide +kernel
theorem d_MoReader_init_73 : decode b_MoReader_init 73 = .ok (.ldc 33, 2) := by decide +kernel
theorem d_MoReader_init_75 : decode b_MoReader_init 75 = .ok (.aastore, 1) := by decide +kernel
theorem d_MoReader_init_76 : decode b_MoReader_init 76 = .ok (.dup, 1) := by decide +kernel
theorem d_MoReader_init_77 : decode b_MoReader_init 77 = .ok (.bipush 12, 2) := by decide +kernel
theorem d_MoReader_init_79 : decode b_MoReader_init 79 = .ok (.ldc 35, 2) := by decide +kernel
theorem d_MoReader_init_81 : decode b_MoReader_init 81 = .ok (.aastore, 1) := by decide +kernel
theorem d_MoReader_init_82 : decode b_MoReader_init 82 = .ok (.dup, 1) := by decide +kernel
theorem d_MoReader_init_83 : decode b_MoReader_init 83 = .ok (.bipush 13, 2) := by decide +kernel
theorem d_MoReader_init_85 : decode b_MoReader_init 85 = .ok (.ldc 37, 2) := by decide +kernel
theorem d_MoReader_init_87 : decode b_MoReader_init 87 = .ok (.aastore, 1) := by decide +kernel
theorem d_MoReader_init_88 : decode b_MoReader_init 88 = .ok (.dup, 1) := by decide +kernel
theorem d_MoReader_init_89 : decode b_MoReader_init 89 = .ok (.bipush 14, 2) := by decide +kernel
theorem d_MoReader_init_91 : decode b_MoReader_init 91 = .ok (.ldc 39, 2) := by decide +kernel
theorem d_MoReader_init_93 : decode b_MoReader_init 93 = .ok (.aastore, 1) := by decide +kernel
theorem d_MoReader_init_94 : decode b_MoReader_init 94 = .ok (.dup, 1) := by decide +kernel
theorem d_MoReader_init_95 : decode b_MoReader_init 95 = .ok (.bipush 15, 2) := by decide +kernel
theorem d_MoReader_init_97 : decode b_MoReader_init 97 = .ok (.ldc 41, 2) := by decide +kernel
theorem d_MoReader_init_99 : decode b_MoReader_init 99 = .ok (.aastore, 1) := by decide +kernel
theorem d_MoReader_init_100 : decode b_MoReader_init 100 = .ok (.dup, 1) := by decide +kernel
theorem d_MoReader_init_101 : decode b_MoReader_init 101 = .ok (.bipush 16, 2) := by decide +kernel
theorem d_MoReader_init_103 : decode b_MoReader_init 103 = .ok (.ldc 43, 2) := by decide +kernel
theorem d_MoReader_init_105 : decode b_MoReader_init 105 = .ok (.aastore, 1) := by decide +kernel
theorem d_MoReader_init_106 : decode b_MoReader_init 106 = .ok (.dup, 1) := by decide +kernel
theorem d_MoReader_init_107 : decode b_MoReader_init 107 = .ok (.bipush 17, 2) := by decide +kernel
theorem d_MoReader_init_109 : decode b_MoReader_init 109 = .ok (.ldc 45, 2) := by decide +kernel
theorem d_MoReader_init_111 : decode b_MoReader_init 111 = .ok (.aastore, 1) := by decide +kernel
theorem d_MoReader_init_112 : decode b_MoReader_init 112 = .ok (.dup, 1) := by decide +kernel
theorem d_MoReader_init_113 : decode b_MoReader_init 113 = .ok (.bipush 18, 2) := by decide +kernel
theorem d_MoReader_init_115 : decode b_MoReader_init 115 = .ok (.ldc 47, 2) := by decide +kernel
theorem d_MoReader_init_117 : decode b_MoReader_init 117 = .ok (.aastore, 1) := by decide +kernel
theorem d_MoReader_init_118 : decode b_MoReader_init 118 = .ok (.dup, 1) := by decide +kernel
theorem d_MoReader_init_119 : decode b_MoReader_init 119 = .ok (.bipush 19, 2) := by decide +kernel
theorem d_MoReader_init_121 : decode b_MoReader_init 121 = .ok (.ldc 49, 2) := by decide +kernel
theorem d_MoReader_init_123 : decode b_MoReader_init 123 = .ok (.aastore, 1) := by decide +kernel
theorem d_MoReader_init_124 : decode b_MoReader_init 124 = .ok (.putfield 51, 3) := by decide +kernel
theorem d_MoReader_init_127 : decode b_MoReader_init 127 = .ok (.aload_n 0, 1) := by decide +kernel
theorem d_MoReader_init_128 : decode b_MoReader_init 128 = .ok (.bipush 20, 2) := by decide +kernel
theorem d_MoReader_init_130 : decode b_MoReader_init 130 = .ok (.newarray .int, 2) := by decide +kernel
theorem d_MoReader_init_132 : decode b_MoReader_init 132 = .ok (.dup, 1) := by decide +kernel
theorem d_MoReader_init_133 : decode b_MoReader_init 133 = .ok (.iconst 0, 1) := by decide +kernel
theorem d_MoReader_init_134 : decode b_MoReader_init 134 = .ok (.sipush 1200, 3) := by decide +kernel
theorem d_MoReader_init_137 : decode b_MoReader_init 137 = .ok (.iastore, 1) := by decide +kernel
theorem d_MoReader_init_138 : decode b_MoReader_init 138 = .ok (.dup, 1) := by decide +kernel
theorem d_MoReader_init_139 : decode b_MoReader_init 139 = .ok (.iconst 1, 1) := by decide +kernel
theorem d_MoReader_init_140 : decode b_MoReader_init 140 = .ok (.sipush 1100, 3) := by decide +kernel
theorem d_MoReader_init_143 : decode b_MoReader_init 143 = .ok (.iastore, 1) := by decide +kernel
theorem d_MoReader_init_144 : decode b_MoReader_init 144 = .ok (.dup, 1) := by decide +kernel
theorem d_MoReader_init_145 : decode b_MoReader_init 145 = .ok (.iconst 2, 1) := by decide +kernel
theorem d_MoReader_init_146 : decode b_MoReader_init 146 = .ok (.sipush 1050, 3) := by decide +kernel
theorem d_MoReader_init_149 : decode b_MoReader_init 149 = .ok (.iastore, 1) := by decide +kernel
theorem d_MoReader_init_150 : decode b_MoReader_init 150 = .ok (.dup, 1) := by decide +kernel
theorem d_MoReader_init_151 : decode b_MoReader_init 151 = .ok (.iconst 3, 1) := by decide +kernel
theorem d_MoReader_init_152 : decode b_MoReader_init 152 = .ok (.sipush 700, 3) := by decide +kernel
theorem d_MoReader_init_155 : decode b_MoReader_init 155 = .ok (.iastore, 1) := by decide +kernel
theorem d_MoReader_init_156 : decode b_MoReader_init 156 = .ok (.dup, 1) := by decide +kernel
theorem d_MoReader_init_157 : decode b_MoReader_init 157 = .ok (.iconst 4, 1) := by decide +kernel
theorem d_MoReader_init_158 : decode b_MoReader_init 158 = .ok (.sipush 700, 3) := by decide +kernel
theorem d_MoReader_init_161 : decode b_MoReader_init 161 = .ok (.iastore, 1) := by decide +kernel
theorem d_MoReader_init_162 : decode b_MoReader_init 162 = .ok (.dup, 1) := by decide +kernel
theorem d_MoReader_init_163 : decode b_MoReader_init 163 = .ok (.iconst 5, 1) := by decide +kernel
theorem d_MoReader_init_164 : decode b_MoReader_init 164 = .ok (.sipush 700, 3) := by decide +kernel
theorem d_MoReader_init_167 : decode b_MoReader_init 167 = .ok (.iastore, 1) := by decide +kernel
theorem d_MoReader_init_168 : decode b_MoReader_init 168 = .ok (.dup, 1) := by decide +kernel
theorem d_MoReader_init_169 : decode b_MoReader_init 169 = .ok (.bipush 6, 2) := by decide +kernel
theorem d_MoReader_init_171 : decode b_MoReader_init 171 = .ok (.sipush 700, 3) := by decide +kernel
theorem d_MoReader_init_174 : decode b_MoReader_init 174 = .ok (.iastore, 1) := by decide +kernel
theorem d_MoReader_init_175 : decode b_MoReader_init 175 = .ok (.dup, 1) := by decide +kernel
theorem d_MoReader_init_176 : decode b_MoReader_init 176 = .ok (.bipush 7, 2) := by decide +kernel
theorem d_MoReader_init_178 : decode b_MoReader_init 178 = .ok (.sipush 700, 3) := by decide +kernel
theorem d_MoReader_init_181 : decode b_MoReader_init 181 = .ok (.iastore, 1) := by decide +kernel
theorem d_MoReader_init_182 : decode b_MoReader_init 182 = .ok (.dup, 1) := by decide +kernel
theorem d_MoReader_init_183 : decode b_MoReader_init 183 = .ok (.bipush 8, 2) := by decide +kernel
theorem d_MoReader_init_185 : decode b_MoReader_init 185 = .ok (.sipush 700, 3) := by decide +kernel
theorem d_MoReader_init_188 : decode b_MoReader_init 188 = .ok (.iastore, 1) := by decide +kernel
theorem d_MoReader_init_189 : decode b_MoReader_init 189 = .ok (.dup, 1) := by decide +kernel
theorem d_MoReader_init_190 : decode b_MoReader_init 190 = .ok (.bipush 9, 2) := by decide +kernel
theorem d_MoReader_init_192 : decode b_MoReader_init 192 = .ok (.sipush 700, 3) := by decide +kernel
theorem d_MoReader_init_195 : decode b_MoReader_init 195 = .ok (.iastore, 1) := by decide +kernel
theorem d_MoReader_init_196 : decode b_MoReader_init 196 = .ok (.dup, 1) := by decide +kernel
theorem d_MoReader_init_197 : decode b_MoReader_init 197 = .ok (.bipush 10, 2) := by decide +kernel
theorem d_MoReader_init_199 : decode b_MoReader_init 199 = .ok (.sipush 700, 3) := by decide +kernel
theorem d_MoReader_init_202 : decode b_MoReader_init 202 = .ok (.iastore, 1) := by decide +kernel
theorem d_MoReader_init_203 : decode b_MoReader_init 203 = .ok (.dup, 1) := by decide +kernel
theorem d_MoReader_init_204 : decode b_MoReader_init 204 = .ok (.bipush 11, 2) := by decide +kernel
theorem d_MoReader_init_206 : decode b_MoReader_init 206 = .ok (.sipush 700, 3) := by decide +kernel
theorem d_MoReader_init_209 : decode b_MoReader_init 209 = .ok (.iastore, 1) := by decide +kernel
theorem d_MoReader_init_210 : decode b_MoReader_init 210 = .ok (.dup, 1) := by decide +kernel
theorem d_MoReader_init_211 : decode b_MoReader_init 211 = .ok (.bipush 12, 2) := by decide +kernel
theorem d_MoReader_init_213 : decode b_MoReader_init 213 = .ok (.sipush 700, 3) := by decide +kernel
theorem d_MoReader_init_216 : decode b_MoReader_init 216 = .ok (.iastore, 1) := by decide +kernel
theorem d_MoReader_init_217 : decode b_MoReader_init 217 = .ok (.dup, 1) := by decide +kernel
theorem d_MoReader_init_218 : decode b_MoReader_init 218 = .ok (.bipush 13, 2) := by decide +kernel
theorem d_MoReader_init_220 : decode b_MoReader_init 220 = .ok (.sipush 700, 3) := by decide +kernel
theorem d_MoReader_init_223 : decode b_MoReader_init 223 = .ok (.iastore, 1) := by decide +kernel
theorem d_MoReader_init_224 : decode b_MoReader_init 224 = .ok (.dup, 1) := by decide +kernel
theorem d_MoReader_init_225 : decode b_MoReader_init 225 = .ok (.bipush 14, 2) := by decide +kernel
theorem d_MoReader_init_227 : decode b_MoReader_init 227 = .ok (.sipush 500, 3) := by decide +kernel
theorem d_MoReader_init_230 : decode b_MoReader_init 230 = .ok (.iastore, 1) := by decide +kernel
theorem d_MoReader_init_231 : decode b_MoReader_init 231 = .ok (.dup, 1) := by decide +kernel
theorem d_MoReader_init_232 : decode b_MoReader_init 232 = .ok (.bipush 15, 2) := by decide +kernel
theorem d_MoReader_init_234 : decode b_MoReader_init 234 = .ok (.sipush 500, 3) := by decide +kernel
theorem d_MoReader_init_237 : decode b_MoReader_init 237 = .ok (.iastore, 1) := by decide +kernel
theorem d_MoReader_init_238 : decode b_MoReader_init 238 = .ok (.dup, 1) := by decide +kernel
theorem d_MoReader_init_239 : decode b_MoReader_init 239 = .ok (.bipush 16, 2) := by decide +kernel
theorem d_MoReader_init_241 : decode b_MoReader_init 241 = .ok (.sipush 400, 3) := by decide +kernel
theorem d_MoReader_init_244 : decode b_MoReader_init 244 = .ok (.iastore, 1) := by decide +kernel
theorem d_MoReader_init_245 : decode b_MoReader_init 245 = .ok (.dup, 1) := by decide +kernel
theorem d_MoReader_init_246 : decode b_MoReader_init 246 = .ok (.bipush 17, 2) := by decide +kernel
theorem d_MoReader_init_248 : decode b_MoReader_init 248 = .ok (.sipush 400, 3) := by decide +kernel
theorem d_MoReader_init_251 : decode b_MoReader_init 251 = .ok (.iastore, 1) := by decide +kernel
theorem d_MoReader_init_252 : decode b_MoReader_init 252 = .ok (.dup, 1) := by decide +kernel
theorem d_MoReader_init_253 : decode b_MoReader_init 253 = .ok (.bipush 18, 2) := by decide +kernel
theorem d_MoReader_init_255 : decode b_MoReader_init 255 = .ok (.sipush 400, 3) := by decide +kernel
theorem d_MoReader_init_258 : decode b_MoReader_init 258 = .ok (.iastore, 1) := by decide +kernel
theorem d_MoReader_init_259 : decode b_MoReader_init 259 = .ok (.dup, 1) := by decide +kernel
theorem d_MoReader_init_260 : decode b_MoReader_init 260 = .ok (.bipush 19, 2) := by decide +kernel
theorem d_MoReader_init_262 : decode b_MoReader_init 262 = .ok (.sipush 400, 3) := by decide +kernel
theorem d_MoReader_init_265 : decode b_MoReader_init 265 = .ok (.iastore, 1) := by decide +kernel
theorem d_MoReader_init_266 : decode b_MoReader_init 266 = .ok (.putfield 57, 3) := by decide +kernel
theorem d_MoReader_init_269 : decode b_MoReader_init 269 = .ok (.aload_n 0, 1) := by decide +kernel
theorem d_MoReader_init_270 : decode b_MoReader_init 270 = .ok (.new 61, 3) := by decide +kernel
theorem d_MoReader_init_273 : decode b_MoReader_init 273 = .ok (.dup, 1) := by decide +kernel
theorem d_MoReader_init_274 : decode b_MoReader_init 274 = .ok (.invokespecial 63, 3) := by decide +kernel
theorem d_MoReader_init_277 : decode b_MoReader_init 277 = .ok (.putfield 64, 3) := by decide +kernel
theorem d_MoReader_init_280 : decode b_MoReader_init 280 = .ok (.aload_n 0, 1) := by decide +kernel
theorem d_MoReader_init_281 : decode b_MoReader_init 281 = .ok (.sipush 4096, 3) := by decide +kernel
theorem d_MoReader_init_284 : decode b_MoReader_init 284 = .ok (.newarray .byte, 2) := by decide +kernel
theorem d_MoReader_init_286 : decode b_MoReader_init 286 = .ok (.putfield 68, 3) := by decide +kernel
theorem d_MoReader_init_289 : decode b_MoReader_init 289 = .ok (.aload_n 0, 1) := by decide +kernel
theorem d_MoReader_init_290 : decode b_MoReader_init 290 = .ok (.sipush 4200, 3) := by decide +kernel
theorem d_MoReader_init_293 : decode b_MoReader_init 293 = .ok (.newarray .int, 2) := by decide +kernel
theorem d_MoReader_init_295 : decode b_MoReader_init 295 = .ok (.putfield 72, 3) := by decide +kernel
theorem d_MoReader_init_298 : decode b_MoReader_init 298 = .ok (.aload_n 0, 1) := by decide +kernel
theorem d_MoReader_init_299 : decode b_MoReader_init 299 = .ok (.sipush 4200, 3) := by decide +kernel
theorem d_MoReader_init_302 : decode b_MoReader_init 302 = .ok (.newarray .int, 2) := by decide +kernel
theorem d_MoReader_init_304 : decode b_MoReader_init 304 = .ok (.putfield 75, 3) := by decide +kernel
theorem d_MoReader_init_307 : decode b_MoReader_init 307 = .ok (.aload_n 0, 1) := by decide +kernel
theorem d_MoReader_init_308 : decode b_MoReader_init 308 = .ok (.sipush 4096, 3) := by decide +kernel
theorem d_MoReader_init_311 : decode b_MoReader_init 311 = .ok (.newarray .byte, 2) := by decide +kernel
theorem d_MoReader_init_313 : decode b_MoReader_init 313 = .ok (.putfield 78, 3) := by decide +kernel
theorem d_MoReader_init_316 : decode b_MoReader_init 316 = .ok (.aload_n 0, 1) := by decide +kernel
theorem d_MoReader_init_317 : decode b_MoReader_init 317 = .ok (.aload_n 1, 1) := by decide +kernel
theorem d_MoReader_init_318 : decode b_MoReader_init 318 = .ok (.putfield 81, 3) := by decide +kernel
theorem d_MoReader_init_321 : decode b_MoReader_init 321 = .ok (.aload_n 0, 1) := by decide +kernel
theorem d_MoReader_init_322 : decode b_MoReader_init 322 = .ok (.aload_n 2, 1) := by decide +kernel
theorem d_MoReader_init_323 : decode b_MoReader_init 323 = .ok (.putfield 85, 3) := by decide +kernel
theorem d_MoReader_init_326 : decode b_MoReader_init 326 = .ok (.return_, 1) := by decide +kernel
def p_MoReader_init : Option ((Int32 × Int32 × Int32 × Int32 × Int32 × Int64 × Int32 × Int32 × Int32 × Int32 × Int32 × Int32 × Nat × (Nat → Int32) × Nat × (Nat → Int32) × Nat × (Nat → Int32) × Nat × (Nat → Int32) × Nat × (Nat → Int32)) × Nat × Nat) := al 1 20 (al 1 20 (ck (ixb 0 20) (ck (ixb 1 20) (ck (ixb 2 20) (ck (ixb 3 20) (ck (ixb 4 20) (ck (ixb 5 20) (ck (ixb 6 20) (ck (ixb 7 20) (ck (ixb 8 20) (ck (ixb 9 20) (ck (ixb 10 20) (ck (ixb 11 20) (ck (ixb 12 20) (ck (ixb 13 20) (ck (ixb 14 20) (ck (ixb 15 20) (ck (ixb 16 20) (ck (ixb 17 20) (ck (ixb 18 20) (ck (ixb 19 20) (al 1 6 (al 1 4096 (al 1 4200 (al 1 4200 (al 1 4096 (some (((0 : Int32), (0 : Int32), (0 : Int32), (0 : Int32), (0 : Int32), (0 : Int64), (0 : Int32), (0 : Int32), (0 : Int32), (0 : Int32), (0 : Int32), (0 : Int32), 20, upd (upd (upd (upd (upd (upd (upd (upd (upd (upd (upd (upd (upd (upd (upd (upd (upd (upd (upd (upd (fun _ => 0) (0 : Int32).toNatClampNeg 1200) (1 : Int32).toNatClampNeg 1100) (2 : Int32).toNatClampNeg 1050) (3 : Int32).toNatClampNeg 700) (4 : Int32).toNatClampNeg 700) (5 : Int32).toNatClampNeg 700) (6 : Int32).toNatClampNeg 700) (7 : Int32).toNatClampNeg 700) (8 : Int32).toNatClampNeg 700) (9 : Int32).toNatClampNeg 700) (10 : Int32).toNatClampNeg 700) (11 : Int32).toNatClampNeg 700) (12 : Int32).toNatClampNeg 700) (13 : Int32).toNatClampNeg 700) (14 : Int32).toNatClampNeg 500) (15 : Int32).toNatClampNeg 500) (16 : Int32).toNatClampNeg 400) (17 : Int32).toNatClampNeg 400) (18 : Int32).toNatClampNeg 400) (19 : Int32).toNatClampNeg 400, 4096, (fun _ => 0 : Nat → Int32), 4200, (fun _ => 0 : Nat → Int32), 4200, (fun _ => 0 : Nat → Int32), 4096, (fun _ => 0 : Nat → Int32)), 0, 0))))))))))))))))))))))))))))
set_option maxHeartbeats 40000000 in
set_option maxRecDepth 100000 in
theorem c_MoReader_init (l : Launch) (g : va_G) (cs : Nat → ClassId) (ka : Nat → Nat) (hfl : l.flags = pinnedFlags ++ [noTraceFlag]) (a_terms : Nat) (a_names : Nat) (a : Nat) (sz : Nat) (o_a_n : Int32) (o_a_at : Int32) (o_a_behind : Int32) (o_a_token : Int32) (o_a_open : Int32) (o_a_number : Int64) (o_a_letters : Int32) (o_a_top : Int32) (o_a_place : Int32) (o_a_variabled : Int32) (o_a_known : Int32) (o_a_rank : Int32) (o_a_ranks_n : Nat) (o_a_ranks_f : Nat → Int32) (o_a_word_n : Nat) (o_a_word_f : Nat → Int32) (o_a_stack_n : Nat) (o_a_stack_f : Nat → Int32) (o_a_variables_n : Nat) (o_a_variables_f : Nat → Int32) (o_a_kept_n : Nat) (o_a_kept_f : Nat → Int32) (mc ms : Nat) (hok : p_MoReader_init = some ((o_a_n, o_a_at, o_a_behind, o_a_token, o_a_open, o_a_number, o_a_letters, o_a_top, o_a_place, o_a_variabled, o_a_known, o_a_rank, o_a_ranks_n, o_a_ranks_f, o_a_word_n, o_a_word_f, o_a_stack_n, o_a_stack_f, o_a_variables_n, o_a_variables_f, o_a_kept_n, o_a_kept_f), mc, ms)) : Met l y_MoReader_init (.code y_MoReader_init b_MoReader_init 3 none :: GW) { frames := 6, cells := mc, slots := ms, locals := 90 } (va_Pc [.ref a, .ref a_terms, .ref a_names] (gP g cs ka [(a, .inr (12, [.null, .null, .null, .null, .null, .null, .int 0, .int 0, .int 0, .int 0, .int 0, .long 0, .null, .int 0, .null, .int 0, .int 0, .null, .int 0, .int 0, .int 0, .null]))] sz)) (va_Qv (fun _ : Unit => True) (fun _ t => ∃ b_a_sides b_a_ranks b_a_stop b_a_word b_a_stack b_a_variables b_a_kept : Nat, va_P g classes [(a, .inr (12, [.ref b_a_sides, .ref b_a_ranks, .ref b_a_stop, .ref a_terms, .ref a_names, .null, .int o_a_n, .int o_a_at, .int o_a_behind, .int o_a_token, .int o_a_open, .long o_a_number, .ref b_a_word, .int o_a_letters, .ref b_a_stack, .int o_a_top, .int o_a_place, .ref b_a_variables, .int o_a_variabled, .int o_a_known, .int o_a_rank, .ref b_a_kept])), (b_a_sides, .inl (cs 4, 20, .inr (.inr (.inr (.inr (sdf ka)))))), (b_a_ranks, .inl (cs 0, o_a_ranks_n, .inl o_a_ranks_f)), (b_a_stop, .inr (15, [])), (b_a_word, .inl (cs 1, o_a_word_n, .inl o_a_word_f)), (b_a_stack, .inl (cs 0, o_a_stack_n, .inl o_a_stack_f)), (b_a_variables, .inl (cs 0, o_a_variables_n, .inl o_a_variables_f)), (b_a_kept, .inl (cs 1, o_a_kept_n, .inl o_a_kept_f))] t.heap ∧ va_D (va_A [(a, .inr (12, [.null, .null, .null, .null, .null, .null, .int 0, .int 0, .int 0, .int 0, .int 0, .long 0, .null, .int 0, .null, .int 0, .int 0, .null, .int 0, .int 0, .int 0, .null]))] sz) [(a, .inr (12, [.ref b_a_sides, .ref b_a_ranks, .ref b_a_stop, .ref a_terms, .ref a_names, .null, .int o_a_n, .int o_a_at, .int o_a_behind, .int o_a_token, .int o_a_open, .long o_a_number, .ref b_a_word, .int o_a_letters, .ref b_a_stack, .int o_a_top, .int o_a_place, .ref b_a_variables, .int o_a_variabled, .int o_a_known, .int o_a_rank, .ref b_a_kept])), (b_a_sides, .inl (cs 4, 20, .inr (.inr (.inr (.inr (sdf ka)))))), (b_a_ranks, .inl (cs 0, o_a_ranks_n, .inl o_a_ranks_f)), (b_a_stop, .inr (15, [])), (b_a_word, .inl (cs 1, o_a_word_n, .inl o_a_word_f)), (b_a_stack, .inl (cs 0, o_a_stack_n, .inl o_a_stack_f)), (b_a_variables, .inl (cs 0, o_a_variables_n, .inl o_a_variables_f)), (b_a_kept, .inl (cs 1, o_a_kept_n, .inl o_a_kept_f))]) (va_A [(a, .inr (12, [.null, .null, .null, .null, .null, .null, .int 0, .int 0, .int 0, .int 0, .int 0, .long 0, .null, .int 0, .null, .int 0, .int 0, .null, .int 0, .int 0, .int 0, .null]))] sz)) mc ms (va_A [(a, .inr (12, [.null, .null, .null, .null, .null, .null, .int 0, .int 0, .int 0, .int 0, .int 0, .long 0, .null, .int 0, .null, .int 0, .int 0, .null, .int 0, .int 0, .int 0, .null]))] sz) := by
  sorry