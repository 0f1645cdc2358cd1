theorem d_La_law_0 : decode code 0 = .ok (.new 8, 3) := by decide +kernel
theorem d_La_law_3 : decode code 3 = .ok (.dup, 1) := by decide +kernel
theorem d_La_law_4 : decode code 4 = .ok (.aload_n 0, 1) := by decide +kernel
theorem d_La_law_5 : decode code 5 = .ok (.iconst 0, 1) := by decide +kernel
theorem d_La_law_6 : decode code 6 = .ok (.invokestatic 78, 3) := by decide +kernel
theorem d_La_law_9 : decode code 9 = .ok (.invokespecial 84, 3) := by decide +kernel
theorem d_La_law_12 : decode code 12 = .ok (.astore_n 1, 1) := by decide +kernel
theorem d_La_law_13 : decode code 13 = .ok (.new 86, 3) := by decide +kernel
theorem d_La_law_16 : decode code 16 = .ok (.dup, 1) := by decide +kernel
theorem d_La_law_17 : decode code 17 = .ok (.aload_n 0, 1) := by decide +kernel
theorem d_La_law_18 : decode code 18 = .ok (.iconst 0, 1) := by decide +kernel
theorem d_La_law_19 : decode code 19 = .ok (.invokestatic 78, 3) := by decide +kernel
theorem d_La_law_22 : decode code 22 = .ok (.invokespecial 88, 3) := by decide +kernel
theorem d_La_law_25 : decode code 25 = .ok (.astore_n 2, 1) := by decide +kernel
theorem d_La_law_26 : decode code 26 = .ok (.iconst 1, 1) := by decide +kernel
theorem d_La_law_27 : decode code 27 = .ok (.newarray .long, 2) := by decide +kernel
theorem d_La_law_29 : decode code 29 = .ok (.astore_n 3, 1) := by decide +kernel
theorem d_La_law_30 : decode code 30 = .ok (.iconst 1, 1) := by decide +kernel
theorem d_La_law_31 : decode code 31 = .ok (.istore 4, 2) := by decide +kernel
theorem d_La_law_33 : decode code 33 = .ok (.iload 4, 2) := by decide +kernel
theorem d_La_law_35 : decode code 35 = .ok (.aload_n 0, 1) := by decide +kernel
theorem d_La_law_36 : decode code 36 = .ok (.arraylength, 1) := by decide +kernel
theorem d_La_law_37 : decode code 37 = .ok (.bipush 6, 2) := by decide +kernel
theorem d_La_law_39 : decode code 39 = .ok (.isub, 1) := by decide +kernel
theorem d_La_law_40 : decode code 40 = .ok (.if_icmp .gt 1211, 3) := by decide +kernel
theorem d_La_law_43 : decode code 43 = .ok (.aload_n 0, 1) := by decide +kernel
theorem d_La_law_44 : decode code 44 = .ok (.iload 4, 2) := by decide +kernel
theorem d_La_law_46 : decode code 46 = .ok (.iaload, 1) := by decide +kernel
theorem d_La_law_47 : decode code 47 = .ok (.bipush 31, 2) := by decide +kernel
theorem d_La_law_49 : decode code 49 = .ok (.iand, 1) := by decide +kernel
theorem d_La_law_50 : decode code 50 = .ok (.tableswitch 1195 0 23 #[110, 178, 290, 346, 357, 368, 392, 487, 530, 573, 636, 715, 728, 772, 827, 870, 883, 919, 932, 945, 989, 1113, 1126, 1182], 110) := by decide +kernel
theorem d_La_law_160 : decode code 160 = .ok (.aload_n 1, 1) := by decide +kernel
theorem d_La_law_161 : decode code 161 = .ok (.aload_n 0, 1) := by decide +kernel
theorem d_La_law_162 : decode code 162 = .ok (.iload 4, 2) := by decide +kernel
theorem d_La_law_164 : decode code 164 = .ok (.iconst 1, 1) := by decide +kernel
theorem d_La_law_165 : decode code 165 = .ok (.iadd, 1) := by decide +kernel
theorem d_La_law_166 : decode code 166 = .ok (.iaload, 1) := by decide +kernel
theorem d_La_law_167 : decode code 167 = .ok (.i2l, 1) := by decide +kernel
theorem d_La_law_168 : decode code 168 = .ok (.bipush 32, 2) := by decide +kernel
theorem d_La_law_170 : decode code 170 = .ok (.lshl, 1) := by decide +kernel
theorem d_La_law_171 : decode code 171 = .ok (.aload_n 0, 1) := by decide +kernel
theorem d_La_law_172 : decode code 172 = .ok (.iload 4, 2) := by decide +kernel
theorem d_La_law_174 : decode code 174 = .ok (.iconst 2, 1) := by decide +kernel
theorem d_La_law_175 : decode code 175 = .ok (.iadd, 1) := by decide +kernel
theorem d_La_law_176 : decode code 176 = .ok (.iaload, 1) := by decide +kernel
theorem d_La_law_177 : decode code 177 = .ok (.i2l, 1) := by decide +kernel
theorem d_La_law_178 : decode code 178 = .ok (.ldc2_w 89, 3) := by decide +kernel
theorem d_La_law_181 : decode code 181 = .ok (.land, 1) := by decide +kernel
theorem d_La_law_182 : decode code 182 = .ok (.lor, 1) := by decide +kernel
theorem d_La_law_183 : decode code 183 = .ok (.invokestatic 91, 3) := by decide +kernel
theorem d_La_law_186 : decode code 186 = .ok (.istore 5, 2) := by decide +kernel
theorem d_La_law_188 : decode code 188 = .ok (.aload_n 2, 1) := by decide +kernel
theorem d_La_law_189 : decode code 189 = .ok (.aload_n 0, 1) := by decide +kernel
theorem d_La_law_190 : decode code 190 = .ok (.iload 4, 2) := by decide +kernel
theorem d_La_law_192 : decode code 192 = .ok (.iconst 1, 1) := by decide +kernel
theorem d_La_law_193 : decode code 193 = .ok (.iadd, 1) := by decide +kernel
theorem d_La_law_194 : decode code 194 = .ok (.iaload, 1) := by decide +kernel
theorem d_La_law_195 : decode code 195 = .ok (.i2l, 1) := by decide +kernel
theorem d_La_law_196 : decode code 196 = .ok (.bipush 32, 2) := by decide +kernel
theorem d_La_law_198 : decode code 198 = .ok (.lshl, 1) := by decide +kernel
theorem d_La_law_199 : decode code 199 = .ok (.aload_n 0, 1) := by decide +kernel
theorem d_La_law_200 : decode code 200 = .ok (.iload 4, 2) := by decide +kernel
theorem d_La_law_202 : decode code 202 = .ok (.iconst 2, 1) := by decide +kernel
theorem d_La_law_203 : decode code 203 = .ok (.iadd, 1) := by decide +kernel
theorem d_La_law_204 : decode code 204 = .ok (.iaload, 1) := by decide +kernel
theorem d_La_law_205 : decode code 205 = .ok (.i2l, 1) := by decide +kernel
theorem d_La_law_206 : decode code 206 = .ok (.ldc2_w 89, 3) := by decide +kernel
theorem d_La_law_209 : decode code 209 = .ok (.land, 1) := by decide +kernel
theorem d_La_law_210 : decode code 210 = .ok (.lor, 1) := by decide +kernel
theorem d_La_law_211 : decode code 211 = .ok (.invokevirtual 94, 3) := by decide +kernel
theorem d_La_law_214 : decode code 214 = .ok (.aload_n 2, 1) := by decide +kernel
theorem d_La_law_215 : decode code 215 = .ok (.invokevirtual 95, 3) := by decide +kernel
theorem d_La_law_218 : decode code 218 = .ok (.iload 5, 2) := by decide +kernel
theorem d_La_law_220 : decode code 220 = .ok (.if_icmp .eq 5, 3) := by decide +kernel
theorem d_La_law_223 : decode code 223 = .ok (.iconst 0, 1) := by decide +kernel
theorem d_La_law_224 : decode code 224 = .ok (.ireturn, 1) := by decide +kernel
theorem d_La_law_225 : decode code 225 = .ok (.goto 1020, 3) := by decide +kernel
theorem d_La_law_228 : decode code 228 = .ok (.aload_n 1, 1) := by decide +kernel
theorem d_La_law_229 : decode code 229 = .ok (.aload_n 0, 1) := by decide +kernel
theorem d_La_law_230 : decode code 230 = .ok (.iload 4, 2) := by decide +kernel
theorem d_La_law_232 : decode code 232 = .ok (.iconst 1, 1) := by decide +kernel
theorem d_La_law_233 : decode code 233 = .ok (.iadd, 1) := by decide +kernel
theorem d_La_law_234 : decode code 234 = .ok (.iaload, 1) := by decide +kernel
theorem d_La_law_235 : decode code 235 = .ok (.i2l, 1) := by decide +kernel
theorem d_La_law_236 : decode code 236 = .ok (.bipush 32, 2) := by decide +kernel
theorem d_La_law_238 : decode code 238 = .ok (.lshl, 1) := by decide +kernel
theorem d_La_law_239 : decode code 239 = .ok (.aload_n 0, 1) := by decide +kernel
theorem d_La_law_240 : decode code 240 = .ok (.iload 4, 2) := by decide +kernel
theorem d_La_law_242 : decode code 242 = .ok (.iconst 2, 1) := by decide +kernel
theorem d_La_law_243 : decode code 243 = .ok (.iadd, 1) := by decide +kernel
theorem d_La_law_244 : decode code 244 = .ok (.iaload, 1) := by decide +kernel
theorem d_La_law_245 : decode code 245 = .ok (.i2l, 1) := by decide +kernel
theorem d_La_law_246 : decode code 246 = .ok (.ldc2_w 89, 3) := by decide +kernel
theorem d_La_law_249 : decode code 249 = .ok (.land, 1) := by decide +kernel
theorem d_La_law_250 : decode code 250 = .ok (.lor, 1) := by decide +kernel
theorem d_La_law_251 : decode code 251 = .ok (.aload_n 0, 1) := by decide +kernel
theorem d_La_law_252 : decode code 252 = .ok (.iload 4, 2) := by decide +kernel
theorem d_La_law_254 : decode code 254 = .ok (.iconst 3, 1) := by decide +kernel
theorem d_La_law_255 : decode code 255 = .ok (.iadd, 1) := by decide +kernel
theorem d_La_law_256 : decode code 256 = .ok (.iaload, 1) := by decide +kernel
theorem d_La_law_257 : decode code 257 = .ok (.i2l, 1) := by decide +kernel
theorem d_La_law_258 : decode code 258 = .ok (.bipush 32, 2) := by decide +kernel
theorem d_La_law_260 : decode code 260 = .ok (.lshl, 1) := by decide +kernel
theorem d_La_law_261 : decode code 261 = .ok (.aload_n 0, 1) := by decide +kernel
theorem d_La_law_262 : decode code 262 = .ok (.iload 4, 2) := by decide +kernel
theorem d_La_law_264 : decode code 264 = .ok (.iconst 4, 1) := by decide +kernel
theorem d_La_law_265 : decode code 265 = .ok (.iadd, 1) := by decide +kernel
theorem d_La_law_266 : decode code 266 = .ok (.iaload, 1) := by decide +kernel
theorem d_La_law_267 : decode code 267 = .ok (.i2l, 1) := by decide +kernel
theorem d_La_law_268 : decode code 268 = .ok (.ldc2_w 89, 3) := by decide +kernel
theorem d_La_law_271 : decode code 271 = .ok (.land, 1) := by decide +kernel
theorem d_La_law_272 : decode code 272 = .ok (.lor, 1) := by decide +kernel
theorem d_La_law_273 : decode code 273 = .ok (.invokestatic 98, 3) := by decide +kernel
theorem d_La_law_276 : decode code 276 = .ok (.istore 5, 2) := by decide +kernel
theorem d_La_law_278 : decode code 278 = .ok (.aload_n 2, 1) := by decide +kernel
theorem d_La_law_279 : decode code 279 = .ok (.aload_n 0, 1) := by decide +kernel
theorem d_La_law_280 : decode code 280 = .ok (.iload 4, 2) := by decide +kernel
theorem d_La_law_282 : decode code 282 = .ok (.iconst 1, 1) := by decide +kernel
theorem d_La_law_283 : decode code 283 = .ok (.iadd, 1) := by decide +kernel
theorem d_La_law_284 : decode code 284 = .ok (.iaload, 1) := by decide +kernel
