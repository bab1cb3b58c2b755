theorem dX12_joinLine_125 : decode cX12_joinLine 125 = .ok (.iload_n 3, 1) := by decide +kernel
theorem dX12_joinLine_126 : decode cX12_joinLine 126 = .ok (.invokevirtual 270, 3) := by decide +kernel
theorem dX12_joinLine_129 : decode cX12_joinLine 129 = .ok (.iconst 1, 1) := by decide +kernel
theorem dX12_joinLine_130 : decode cX12_joinLine 130 = .ok (.invokevirtual 251, 3) := by decide +kernel
theorem dX12_joinLine_133 : decode cX12_joinLine 133 = .ok (.aload_n 0, 1) := by decide +kernel
theorem dX12_joinLine_134 : decode cX12_joinLine 134 = .ok (.iload_n 1, 1) := by decide +kernel
theorem dX12_joinLine_135 : decode cX12_joinLine 135 = .ok (.aload_n 0, 1) := by decide +kernel
theorem dX12_joinLine_136 : decode cX12_joinLine 136 = .ok (.iload_n 2, 1) := by decide +kernel
theorem dX12_joinLine_137 : decode cX12_joinLine 137 = .ok (.iconst 1, 1) := by decide +kernel
theorem dX12_joinLine_138 : decode cX12_joinLine 138 = .ok (.invokevirtual 267, 3) := by decide +kernel
theorem dX12_joinLine_141 : decode cX12_joinLine 141 = .ok (.invokevirtual 265, 3) := by decide +kernel
theorem dX12_joinLine_144 : decode cX12_joinLine 144 = .ok (.invokevirtual 255, 3) := by decide +kernel
theorem dX12_joinLine_147 : decode cX12_joinLine 147 = .ok (.return_, 1) := by decide +kernel
theorem dX12_joinLine_148 : decode cX12_joinLine 148 = .ok (.aload_n 0, 1) := by decide +kernel
theorem dX12_joinLine_149 : decode cX12_joinLine 149 = .ok (.aload_n 0, 1) := by decide +kernel
theorem dX12_joinLine_150 : decode cX12_joinLine 150 = .ok (.aload_n 0, 1) := by decide +kernel
theorem dX12_joinLine_151 : decode cX12_joinLine 151 = .ok (.aload_n 0, 1) := by decide +kernel
theorem dX12_joinLine_152 : decode cX12_joinLine 152 = .ok (.iload_n 1, 1) := by decide +kernel
theorem dX12_joinLine_153 : decode cX12_joinLine 153 = .ok (.aload_n 0, 1) := by decide +kernel
theorem dX12_joinLine_154 : decode cX12_joinLine 154 = .ok (.iload_n 2, 1) := by decide +kernel
theorem dX12_joinLine_155 : decode cX12_joinLine 155 = .ok (.iconst 0, 1) := by decide +kernel
theorem dX12_joinLine_156 : decode cX12_joinLine 156 = .ok (.invokevirtual 267, 3) := by decide +kernel
theorem dX12_joinLine_159 : decode cX12_joinLine 159 = .ok (.invokevirtual 265, 3) := by decide +kernel
theorem dX12_joinLine_162 : decode cX12_joinLine 162 = .ok (.invokevirtual 270, 3) := by decide +kernel
theorem dX12_joinLine_165 : decode cX12_joinLine 165 = .ok (.iload 4, 2) := by decide +kernel
theorem dX12_joinLine_167 : decode cX12_joinLine 167 = .ok (.iconst 3, 1) := by decide +kernel
theorem dX12_joinLine_168 : decode cX12_joinLine 168 = .ok (.isub, 1) := by decide +kernel
theorem dX12_joinLine_169 : decode cX12_joinLine 169 = .ok (.invokevirtual 251, 3) := by decide +kernel
theorem dX12_joinLine_172 : decode cX12_joinLine 172 = .ok (.iload_n 3, 1) := by decide +kernel
theorem dX12_joinLine_173 : decode cX12_joinLine 173 = .ok (.invokevirtual 255, 3) := by decide +kernel
theorem dX12_joinLine_176 : decode cX12_joinLine 176 = .ok (.return_, 1) := by decide +kernel
theorem dX12_joinLine_177 : decode cX12_joinLine 177 = .ok (.aload_n 0, 1) := by decide +kernel
theorem dX12_joinLine_178 : decode cX12_joinLine 178 = .ok (.iload_n 3, 1) := by decide +kernel
theorem dX12_joinLine_179 : decode cX12_joinLine 179 = .ok (.aload_n 0, 1) := by decide +kernel
theorem dX12_joinLine_180 : decode cX12_joinLine 180 = .ok (.iload_n 1, 1) := by decide +kernel
theorem dX12_joinLine_181 : decode cX12_joinLine 181 = .ok (.aload_n 0, 1) := by decide +kernel
theorem dX12_joinLine_182 : decode cX12_joinLine 182 = .ok (.iload_n 2, 1) := by decide +kernel
theorem dX12_joinLine_183 : decode cX12_joinLine 183 = .ok (.iconst 1, 1) := by decide +kernel
theorem dX12_joinLine_184 : decode cX12_joinLine 184 = .ok (.invokevirtual 267, 3) := by decide +kernel
theorem dX12_joinLine_187 : decode cX12_joinLine 187 = .ok (.invokevirtual 265, 3) := by decide +kernel
theorem dX12_joinLine_190 : decode cX12_joinLine 190 = .ok (.invokevirtual 255, 3) := by decide +kernel
theorem dX12_joinLine_193 : decode cX12_joinLine 193 = .ok (.aload_n 0, 1) := by decide +kernel
theorem dX12_joinLine_194 : decode cX12_joinLine 194 = .ok (.iload_n 3, 1) := by decide +kernel
theorem dX12_joinLine_195 : decode cX12_joinLine 195 = .ok (.aload_n 0, 1) := by decide +kernel
theorem dX12_joinLine_196 : decode cX12_joinLine 196 = .ok (.iload_n 1, 1) := by decide +kernel
theorem dX12_joinLine_197 : decode cX12_joinLine 197 = .ok (.aload_n 0, 1) := by decide +kernel
theorem dX12_joinLine_198 : decode cX12_joinLine 198 = .ok (.iload_n 2, 1) := by decide +kernel
theorem dX12_joinLine_199 : decode cX12_joinLine 199 = .ok (.iconst 2, 1) := by decide +kernel
theorem dX12_joinLine_200 : decode cX12_joinLine 200 = .ok (.invokevirtual 267, 3) := by decide +kernel
theorem dX12_joinLine_203 : decode cX12_joinLine 203 = .ok (.invokevirtual 265, 3) := by decide +kernel
theorem dX12_joinLine_206 : decode cX12_joinLine 206 = .ok (.invokevirtual 255, 3) := by decide +kernel
theorem dX12_joinLine_209 : decode cX12_joinLine 209 = .ok (.return_, 1) := by decide +kernel
theorem dX12_joinLine_210 : decode cX12_joinLine 210 = .ok (.aload_n 0, 1) := by decide +kernel
theorem dX12_joinLine_211 : decode cX12_joinLine 211 = .ok (.getfield 98, 3) := by decide +kernel
theorem dX12_joinLine_214 : decode cX12_joinLine 214 = .ok (.bipush 42, 2) := by decide +kernel
theorem dX12_joinLine_216 : decode cX12_joinLine 216 = .ok (.iload_n 2, 1) := by decide +kernel
theorem dX12_joinLine_217 : decode cX12_joinLine 217 = .ok (.iadd, 1) := by decide +kernel
theorem dX12_joinLine_218 : decode cX12_joinLine 218 = .ok (.iaload, 1) := by decide +kernel
theorem dX12_joinLine_219 : decode cX12_joinLine 219 = .ok (.istore 5, 2) := by decide +kernel
theorem dX12_joinLine_221 : decode cX12_joinLine 221 = .ok (.iload 4, 2) := by decide +kernel
theorem dX12_joinLine_223 : decode cX12_joinLine 223 = .ok (.bipush 8, 2) := by decide +kernel
theorem dX12_joinLine_225 : decode cX12_joinLine 225 = .ok (.if_icmp .ne 7, 3) := by decide +kernel
theorem dX12_joinLine_228 : decode cX12_joinLine 228 = .ok (.iconst 0, 1) := by decide +kernel
theorem dX12_joinLine_229 : decode cX12_joinLine 229 = .ok (.goto 4, 3) := by decide +kernel
theorem dX12_joinLine_232 : decode cX12_joinLine 232 = .ok (.iconst 1, 1) := by decide +kernel
theorem dX12_joinLine_233 : decode cX12_joinLine 233 = .ok (.istore 6, 2) := by decide +kernel
theorem dX12_joinLine_235 : decode cX12_joinLine 235 = .ok (.iconst 0, 1) := by decide +kernel
theorem dX12_joinLine_236 : decode cX12_joinLine 236 = .ok (.istore 7, 2) := by decide +kernel
theorem dX12_joinLine_238 : decode cX12_joinLine 238 = .ok (.iload 7, 2) := by decide +kernel
theorem dX12_joinLine_240 : decode cX12_joinLine 240 = .ok (.aload_n 0, 1) := by decide +kernel
theorem dX12_joinLine_241 : decode cX12_joinLine 241 = .ok (.getfield 98, 3) := by decide +kernel
theorem dX12_joinLine_244 : decode cX12_joinLine 244 = .ok (.iconst 3, 1) := by decide +kernel
theorem dX12_joinLine_245 : decode cX12_joinLine 245 = .ok (.iload 5, 2) := by decide +kernel
theorem dX12_joinLine_247 : decode cX12_joinLine 247 = .ok (.iadd, 1) := by decide +kernel
theorem dX12_joinLine_248 : decode cX12_joinLine 248 = .ok (.iaload, 1) := by decide +kernel
theorem dX12_joinLine_249 : decode cX12_joinLine 249 = .ok (.if_icmp .ge 36, 3) := by decide +kernel
theorem dX12_joinLine_252 : decode cX12_joinLine 252 = .ok (.aload_n 0, 1) := by decide +kernel
theorem dX12_joinLine_253 : decode cX12_joinLine 253 = .ok (.aload_n 0, 1) := by decide +kernel
theorem dX12_joinLine_254 : decode cX12_joinLine 254 = .ok (.iload_n 1, 1) := by decide +kernel
theorem dX12_joinLine_255 : decode cX12_joinLine 255 = .ok (.aload_n 0, 1) := by decide +kernel
theorem dX12_joinLine_256 : decode cX12_joinLine 256 = .ok (.iload_n 2, 1) := by decide +kernel
theorem dX12_joinLine_257 : decode cX12_joinLine 257 = .ok (.iload 6, 2) := by decide +kernel
theorem dX12_joinLine_259 : decode cX12_joinLine 259 = .ok (.iload 7, 2) := by decide +kernel
theorem dX12_joinLine_261 : decode cX12_joinLine 261 = .ok (.iadd, 1) := by decide +kernel
theorem dX12_joinLine_262 : decode cX12_joinLine 262 = .ok (.invokevirtual 267, 3) := by decide +kernel
theorem dX12_joinLine_265 : decode cX12_joinLine 265 = .ok (.invokevirtual 265, 3) := by decide +kernel
theorem dX12_joinLine_268 : decode cX12_joinLine 268 = .ok (.aload_n 0, 1) := by decide +kernel
theorem dX12_joinLine_269 : decode cX12_joinLine 269 = .ok (.iload 5, 2) := by decide +kernel
theorem dX12_joinLine_271 : decode cX12_joinLine 271 = .ok (.iload 7, 2) := by decide +kernel
theorem dX12_joinLine_273 : decode cX12_joinLine 273 = .ok (.invokevirtual 265, 3) := by decide +kernel
theorem dX12_joinLine_276 : decode cX12_joinLine 276 = .ok (.invokevirtual 255, 3) := by decide +kernel
theorem dX12_joinLine_279 : decode cX12_joinLine 279 = .ok (.iinc 7 1, 3) := by decide +kernel
theorem dX12_joinLine_282 : decode cX12_joinLine 282 = .ok (.goto (-44), 3) := by decide +kernel
theorem dX12_joinLine_285 : decode cX12_joinLine 285 = .ok (.aload_n 0, 1) := by decide +kernel
theorem dX12_joinLine_286 : decode cX12_joinLine 286 = .ok (.iload_n 3, 1) := by decide +kernel
theorem dX12_joinLine_287 : decode cX12_joinLine 287 = .ok (.aload_n 0, 1) := by decide +kernel
theorem dX12_joinLine_288 : decode cX12_joinLine 288 = .ok (.iload 5, 2) := by decide +kernel
theorem dX12_joinLine_290 : decode cX12_joinLine 290 = .ok (.aload_n 0, 1) := by decide +kernel
theorem dX12_joinLine_291 : decode cX12_joinLine 291 = .ok (.aload_n 0, 1) := by decide +kernel
theorem dX12_joinLine_292 : decode cX12_joinLine 292 = .ok (.getfield 98, 3) := by decide +kernel
theorem dX12_joinLine_295 : decode cX12_joinLine 295 = .ok (.iload 5, 2) := by decide +kernel
theorem dX12_joinLine_297 : decode cX12_joinLine 297 = .ok (.invokevirtual 193, 3) := by decide +kernel
theorem dX12_joinLine_300 : decode cX12_joinLine 300 = .ok (.iconst 1, 1) := by decide +kernel
theorem dX12_joinLine_301 : decode cX12_joinLine 301 = .ok (.isub, 1) := by decide +kernel
theorem dX12_joinLine_302 : decode cX12_joinLine 302 = .ok (.invokevirtual 265, 3) := by decide +kernel
theorem dX12_joinLine_305 : decode cX12_joinLine 305 = .ok (.invokevirtual 255, 3) := by decide +kernel
theorem dX12_joinLine_308 : decode cX12_joinLine 308 = .ok (.iload 4, 2) := by decide +kernel
theorem dX12_joinLine_310 : decode cX12_joinLine 310 = .ok (.bipush 9, 2) := by decide +kernel
theorem dX12_joinLine_312 : decode cX12_joinLine 312 = .ok (.if_icmp .ne 19, 3) := by decide +kernel
theorem dX12_joinLine_315 : decode cX12_joinLine 315 = .ok (.aload_n 0, 1) := by decide +kernel
theorem dX12_joinLine_316 : decode cX12_joinLine 316 = .ok (.iload_n 3, 1) := by decide +kernel
theorem dX12_joinLine_317 : decode cX12_joinLine 317 = .ok (.aload_n 0, 1) := by decide +kernel
theorem dX12_joinLine_318 : decode cX12_joinLine 318 = .ok (.iload_n 1, 1) := by decide +kernel
theorem dX12_joinLine_319 : decode cX12_joinLine 319 = .ok (.aload_n 0, 1) := by decide +kernel
theorem dX12_joinLine_320 : decode cX12_joinLine 320 = .ok (.iload_n 2, 1) := by decide +kernel
theorem dX12_joinLine_321 : decode cX12_joinLine 321 = .ok (.iconst 4, 1) := by decide +kernel
theorem dX12_joinLine_322 : decode cX12_joinLine 322 = .ok (.invokevirtual 267, 3) := by decide +kernel
theorem dX12_joinLine_325 : decode cX12_joinLine 325 = .ok (.invokevirtual 265, 3) := by decide +kernel
theorem dX12_joinLine_328 : decode cX12_joinLine 328 = .ok (.invokevirtual 255, 3) := by decide +kernel
theorem dX12_joinLine_331 : decode cX12_joinLine 331 = .ok (.return_, 1) := by decide +kernel
theorem dX12_joinLine_332 : decode cX12_joinLine 332 = .ok (.return_, 1) := by decide +kernel
theorem dX12_numberFrom_0 : decode cX12_numberFrom 0 = .ok (.aload_n 0, 1) := by decide +kernel
theorem dX12_numberFrom_1 : decode cX12_numberFrom 1 = .ok (.getfield 133, 3) := by decide +kernel
theorem dX12_numberFrom_4 : decode cX12_numberFrom 4 = .ok (.aload_n 0, 1) := by decide +kernel
theorem dX12_numberFrom_5 : decode cX12_numberFrom 5 = .ok (.iload_n 1, 1) := by decide +kernel
theorem dX12_numberFrom_6 : decode cX12_numberFrom 6 = .ok (.invokevirtual 248, 3) := by decide +kernel
theorem dX12_numberFrom_9 : decode cX12_numberFrom 9 = .ok (.iaload, 1) := by decide +kernel
theorem dX12_numberFrom_10 : decode cX12_numberFrom 10 = .ok (.istore_n 2, 1) := by decide +kernel
theorem dX12_numberFrom_11 : decode cX12_numberFrom 11 = .ok (.iload_n 2, 1) := by decide +kernel
theorem dX12_numberFrom_12 : decode cX12_numberFrom 12 = .ok (.iconst (-1), 1) := by decide +kernel
theorem dX12_numberFrom_13 : decode cX12_numberFrom 13 = .ok (.if_icmp .eq 13, 3) := by decide +kernel
theorem dX12_numberFrom_16 : decode cX12_numberFrom 16 = .ok (.aload_n 0, 1) := by decide +kernel
theorem dX12_numberFrom_17 : decode cX12_numberFrom 17 = .ok (.getfield 136, 3) := by decide +kernel
theorem dX12_numberFrom_20 : decode cX12_numberFrom 20 = .ok (.iload_n 2, 1) := by decide +kernel
theorem dX12_numberFrom_21 : decode cX12_numberFrom 21 = .ok (.iaload, 1) := by decide +kernel
theorem dX12_numberFrom_22 : decode cX12_numberFrom 22 = .ok (.iconst (-1), 1) := by decide +kernel
theorem dX12_numberFrom_23 : decode cX12_numberFrom 23 = .ok (.if_icmp .eq 4, 3) := by decide +kernel
theorem dX12_numberFrom_26 : decode cX12_numberFrom 26 = .ok (.return_, 1) := by decide +kernel
theorem dX12_numberFrom_27 : decode cX12_numberFrom 27 = .ok (.aload_n 0, 1) := by decide +kernel
theorem dX12_numberFrom_28 : decode cX12_numberFrom 28 = .ok (.getfield 136, 3) := by decide +kernel
theorem dX12_numberFrom_31 : decode cX12_numberFrom 31 = .ok (.iload_n 2, 1) := by decide +kernel
theorem dX12_numberFrom_32 : decode cX12_numberFrom 32 = .ok (.aload_n 0, 1) := by decide +kernel
theorem dX12_numberFrom_33 : decode cX12_numberFrom 33 = .ok (.getfield 98, 3) := by decide +kernel
theorem dX12_numberFrom_36 : decode cX12_numberFrom 36 = .ok (.iconst 2, 1) := by decide +kernel
theorem dX12_numberFrom_37 : decode cX12_numberFrom 37 = .ok (.iaload, 1) := by decide +kernel
theorem dX12_numberFrom_38 : decode cX12_numberFrom 38 = .ok (.iastore, 1) := by decide +kernel
theorem dX12_numberFrom_39 : decode cX12_numberFrom 39 = .ok (.aload_n 0, 1) := by decide +kernel
theorem dX12_numberFrom_40 : decode cX12_numberFrom 40 = .ok (.getfield 98, 3) := by decide +kernel
theorem dX12_numberFrom_43 : decode cX12_numberFrom 43 = .ok (.iconst 2, 1) := by decide +kernel
theorem dX12_numberFrom_44 : decode cX12_numberFrom 44 = .ok (.dup2, 1) := by decide +kernel
theorem dX12_numberFrom_45 : decode cX12_numberFrom 45 = .ok (.iaload, 1) := by decide +kernel
theorem dX12_numberFrom_46 : decode cX12_numberFrom 46 = .ok (.iconst 1, 1) := by decide +kernel
theorem dX12_numberFrom_47 : decode cX12_numberFrom 47 = .ok (.iadd, 1) := by decide +kernel
theorem dX12_numberFrom_48 : decode cX12_numberFrom 48 = .ok (.iastore, 1) := by decide +kernel
theorem dX12_numberFrom_49 : decode cX12_numberFrom 49 = .ok (.aload_n 0, 1) := by decide +kernel
theorem dX12_numberFrom_50 : decode cX12_numberFrom 50 = .ok (.aload_n 0, 1) := by decide +kernel
theorem dX12_numberFrom_51 : decode cX12_numberFrom 51 = .ok (.iload_n 2, 1) := by decide +kernel
theorem dX12_numberFrom_52 : decode cX12_numberFrom 52 = .ok (.iconst 0, 1) := by decide +kernel
theorem dX12_numberFrom_53 : decode cX12_numberFrom 53 = .ok (.invokevirtual 251, 3) := by decide +kernel
theorem dX12_numberFrom_56 : decode cX12_numberFrom 56 = .ok (.invokevirtual 273, 3) := by decide +kernel
theorem dX12_numberFrom_59 : decode cX12_numberFrom 59 = .ok (.aload_n 0, 1) := by decide +kernel
theorem dX12_numberFrom_60 : decode cX12_numberFrom 60 = .ok (.aload_n 0, 1) := by decide +kernel
theorem dX12_numberFrom_61 : decode cX12_numberFrom 61 = .ok (.iload_n 2, 1) := by decide +kernel
theorem dX12_numberFrom_62 : decode cX12_numberFrom 62 = .ok (.iconst 1, 1) := by decide +kernel
theorem dX12_numberFrom_63 : decode cX12_numberFrom 63 = .ok (.invokevirtual 251, 3) := by decide +kernel
theorem dX12_numberFrom_66 : decode cX12_numberFrom 66 = .ok (.invokevirtual 273, 3) := by decide +kernel
theorem dX12_numberFrom_69 : decode cX12_numberFrom 69 = .ok (.return_, 1) := by decide +kernel
theorem dX12_numbered_0 : decode cX12_numbered 0 = .ok (.aload_n 0, 1) := by decide +kernel
theorem dX12_numbered_1 : decode cX12_numbered 1 = .ok (.getfield 133, 3) := by decide +kernel
theorem dX12_numbered_4 : decode cX12_numbered 4 = .ok (.aload_n 0, 1) := by decide +kernel
theorem dX12_numbered_5 : decode cX12_numbered 5 = .ok (.iload_n 1, 1) := by decide +kernel
theorem dX12_numbered_6 : decode cX12_numbered 6 = .ok (.invokevirtual 248, 3) := by decide +kernel
theorem dX12_numbered_9 : decode cX12_numbered 9 = .ok (.iaload, 1) := by decide +kernel
theorem dX12_numbered_10 : decode cX12_numbered 10 = .ok (.istore_n 2, 1) := by decide +kernel
theorem dX12_numbered_11 : decode cX12_numbered 11 = .ok (.iload_n 2, 1) := by decide +kernel
theorem dX12_numbered_12 : decode cX12_numbered 12 = .ok (.iconst (-1), 1) := by decide +kernel
theorem dX12_numbered_13 : decode cX12_numbered 13 = .ok (.if_icmp .ne 7, 3) := by decide +kernel
theorem dX12_numbered_16 : decode cX12_numbered 16 = .ok (.iconst (-1), 1) := by decide +kernel
theorem dX12_numbered_17 : decode cX12_numbered 17 = .ok (.goto 9, 3) := by decide +kernel
theorem dX12_numbered_20 : decode cX12_numbered 20 = .ok (.aload_n 0, 1) := by decide +kernel
theorem dX12_numbered_21 : decode cX12_numbered 21 = .ok (.getfield 136, 3) := by decide +kernel
theorem dX12_numbered_24 : decode cX12_numbered 24 = .ok (.iload_n 2, 1) := by decide +kernel
theorem dX12_numbered_25 : decode cX12_numbered 25 = .ok (.iaload, 1) := by decide +kernel
theorem dX12_numbered_26 : decode cX12_numbered 26 = .ok (.ireturn, 1) := by decide +kernel
theorem dX12_reachFrom_0 : decode cX12_reachFrom 0 = .ok (.iload_n 1, 1) := by decide +kernel
theorem dX12_reachFrom_1 : decode cX12_reachFrom 1 = .ok (.iconst (-1), 1) := by decide +kernel
theorem dX12_reachFrom_2 : decode cX12_reachFrom 2 = .ok (.if_icmp .ne 7, 3) := by decide +kernel
theorem dX12_reachFrom_5 : decode cX12_reachFrom 5 = .ok (.iconst 0, 1) := by decide +kernel
theorem dX12_reachFrom_6 : decode cX12_reachFrom 6 = .ok (.goto 6, 3) := by decide +kernel
theorem dX12_reachFrom_9 : decode cX12_reachFrom 9 = .ok (.iconst 1, 1) := by decide +kernel
theorem dX12_reachFrom_10 : decode cX12_reachFrom 10 = .ok (.iload_n 1, 1) := by decide +kernel
theorem dX12_reachFrom_11 : decode cX12_reachFrom 11 = .ok (.ishl, 1) := by decide +kernel
theorem dX12_reachFrom_12 : decode cX12_reachFrom 12 = .ok (.istore_n 2, 1) := by decide +kernel
theorem dX12_reachFrom_13 : decode cX12_reachFrom 13 = .ok (.iconst 0, 1) := by decide +kernel
theorem dX12_reachFrom_14 : decode cX12_reachFrom 14 = .ok (.istore_n 3, 1) := by decide +kernel
theorem dX12_reachFrom_15 : decode cX12_reachFrom 15 = .ok (.iload_n 3, 1) := by decide +kernel
theorem dX12_reachFrom_16 : decode cX12_reachFrom 16 = .ok (.bipush 24, 2) := by decide +kernel
theorem dX12_reachFrom_18 : decode cX12_reachFrom 18 = .ok (.if_icmp .ge 89, 3) := by decide +kernel
theorem dX12_reachFrom_21 : decode cX12_reachFrom 21 = .ok (.iconst 0, 1) := by decide +kernel
theorem dX12_reachFrom_22 : decode cX12_reachFrom 22 = .ok (.istore 4, 2) := by decide +kernel
theorem dX12_reachFrom_24 : decode cX12_reachFrom 24 = .ok (.iload 4, 2) := by decide +kernel
theorem dX12_reachFrom_26 : decode cX12_reachFrom 26 = .ok (.aload_n 0, 1) := by decide +kernel
theorem dX12_reachFrom_27 : decode cX12_reachFrom 27 = .ok (.getfield 98, 3) := by decide +kernel
theorem dX12_reachFrom_30 : decode cX12_reachFrom 30 = .ok (.iconst 2, 1) := by decide +kernel
theorem dX12_reachFrom_31 : decode cX12_reachFrom 31 = .ok (.iaload, 1) := by decide +kernel
theorem dX12_reachFrom_32 : decode cX12_reachFrom 32 = .ok (.if_icmp .ge 69, 3) := by decide +kernel
theorem dX12_reachFrom_35 : decode cX12_reachFrom 35 = .ok (.iload_n 2, 1) := by decide +kernel
theorem dX12_reachFrom_36 : decode cX12_reachFrom 36 = .ok (.iload 4, 2) := by decide +kernel
theorem dX12_reachFrom_38 : decode cX12_reachFrom 38 = .ok (.invokestatic 276, 3) := by decide +kernel
theorem dX12_reachFrom_41 : decode cX12_reachFrom 41 = .ok (.ifCond .ne 6, 3) := by decide +kernel
theorem dX12_reachFrom_44 : decode cX12_reachFrom 44 = .ok (.goto 51, 3) := by decide +kernel
theorem dX12_reachFrom_47 : decode cX12_reachFrom 47 = .ok (.iconst 0, 1) := by decide +kernel
theorem dX12_reachFrom_48 : decode cX12_reachFrom 48 = .ok (.istore 5, 2) := by decide +kernel
theorem dX12_reachFrom_50 : decode cX12_reachFrom 50 = .ok (.iload 5, 2) := by decide +kernel
theorem dX12_reachFrom_52 : decode cX12_reachFrom 52 = .ok (.iconst 2, 1) := by decide +kernel
theorem dX12_reachFrom_53 : decode cX12_reachFrom 53 = .ok (.if_icmp .ge 42, 3) := by decide +kernel
theorem dX12_reachFrom_56 : decode cX12_reachFrom 56 = .ok (.aload_n 0, 1) := by decide +kernel
theorem dX12_reachFrom_57 : decode cX12_reachFrom 57 = .ok (.getfield 145, 3) := by decide +kernel
theorem dX12_reachFrom_60 : decode cX12_reachFrom 60 = .ok (.iconst 2, 1) := by decide +kernel
theorem dX12_reachFrom_61 : decode cX12_reachFrom 61 = .ok (.iload 4, 2) := by decide +kernel
theorem dX12_reachFrom_63 : decode cX12_reachFrom 63 = .ok (.imul, 1) := by decide +kernel
theorem dX12_reachFrom_64 : decode cX12_reachFrom 64 = .ok (.iload 5, 2) := by decide +kernel
theorem dX12_reachFrom_66 : decode cX12_reachFrom 66 = .ok (.iadd, 1) := by decide +kernel
theorem dX12_reachFrom_67 : decode cX12_reachFrom 67 = .ok (.iaload, 1) := by decide +kernel
theorem dX12_reachFrom_68 : decode cX12_reachFrom 68 = .ok (.iconst (-1), 1) := by decide +kernel
theorem dX12_reachFrom_69 : decode cX12_reachFrom 69 = .ok (.if_icmp .eq 20, 3) := by decide +kernel
theorem dX12_reachFrom_72 : decode cX12_reachFrom 72 = .ok (.iload_n 2, 1) := by decide +kernel
theorem dX12_reachFrom_73 : decode cX12_reachFrom 73 = .ok (.iconst 1, 1) := by decide +kernel
theorem dX12_reachFrom_74 : decode cX12_reachFrom 74 = .ok (.aload_n 0, 1) := by decide +kernel
theorem dX12_reachFrom_75 : decode cX12_reachFrom 75 = .ok (.getfield 145, 3) := by decide +kernel
theorem dX12_reachFrom_78 : decode cX12_reachFrom 78 = .ok (.iconst 2, 1) := by decide +kernel
theorem dX12_reachFrom_79 : decode cX12_reachFrom 79 = .ok (.iload 4, 2) := by decide +kernel
theorem dX12_reachFrom_81 : decode cX12_reachFrom 81 = .ok (.imul, 1) := by decide +kernel
theorem dX12_reachFrom_82 : decode cX12_reachFrom 82 = .ok (.iload 5, 2) := by decide +kernel
theorem dX12_reachFrom_84 : decode cX12_reachFrom 84 = .ok (.iadd, 1) := by decide +kernel
theorem dX12_reachFrom_85 : decode cX12_reachFrom 85 = .ok (.iaload, 1) := by decide +kernel
theorem dX12_reachFrom_86 : decode cX12_reachFrom 86 = .ok (.ishl, 1) := by decide +kernel
theorem dX12_reachFrom_87 : decode cX12_reachFrom 87 = .ok (.ior, 1) := by decide +kernel
theorem dX12_reachFrom_88 : decode cX12_reachFrom 88 = .ok (.istore_n 2, 1) := by decide +kernel
theorem dX12_reachFrom_89 : decode cX12_reachFrom 89 = .ok (.iinc 5 1, 3) := by decide +kernel
theorem dX12_reachFrom_92 : decode cX12_reachFrom 92 = .ok (.goto (-42), 3) := by decide +kernel
theorem dX12_reachFrom_95 : decode cX12_reachFrom 95 = .ok (.iinc 4 1, 3) := by decide +kernel
theorem dX12_reachFrom_98 : decode cX12_reachFrom 98 = .ok (.goto (-74), 3) := by decide +kernel
theorem dX12_reachFrom_101 : decode cX12_reachFrom 101 = .ok (.iinc 3 1, 3) := by decide +kernel
theorem dX12_reachFrom_104 : decode cX12_reachFrom 104 = .ok (.goto (-89), 3) := by decide +kernel
theorem dX12_reachFrom_107 : decode cX12_reachFrom 107 = .ok (.iload_n 2, 1) := by decide +kernel
theorem dX12_reachFrom_108 : decode cX12_reachFrom 108 = .ok (.ireturn, 1) := by decide +kernel
theorem dX12_reachIn_0 : decode cX12_reachIn 0 = .ok (.aload_n 0, 1) := by decide +kernel
theorem dX12_reachIn_1 : decode cX12_reachIn 1 = .ok (.getfield 142, 3) := by decide +kernel
theorem dX12_reachIn_4 : decode cX12_reachIn 4 = .ok (.aload_n 0, 1) := by decide +kernel
theorem dX12_reachIn_5 : decode cX12_reachIn 5 = .ok (.iload_n 1, 1) := by decide +kernel
theorem dX12_reachIn_6 : decode cX12_reachIn 6 = .ok (.aload_n 0, 1) := by decide +kernel
theorem dX12_reachIn_7 : decode cX12_reachIn 7 = .ok (.iload_n 1, 1) := by decide +kernel
theorem dX12_reachIn_8 : decode cX12_reachIn 8 = .ok (.iload_n 2, 1) := by decide +kernel
theorem dX12_reachIn_9 : decode cX12_reachIn 9 = .ok (.invokevirtual 262, 3) := by decide +kernel
theorem dX12_reachIn_12 : decode cX12_reachIn 12 = .ok (.invokevirtual 265, 3) := by decide +kernel
theorem dX12_reachIn_15 : decode cX12_reachIn 15 = .ok (.iaload, 1) := by decide +kernel
theorem dX12_reachIn_16 : decode cX12_reachIn 16 = .ok (.istore_n 3, 1) := by decide +kernel
theorem dX12_reachIn_17 : decode cX12_reachIn 17 = .ok (.iconst 0, 1) := by decide +kernel
theorem dX12_reachIn_18 : decode cX12_reachIn 18 = .ok (.istore 4, 2) := by decide +kernel
theorem dX12_reachIn_20 : decode cX12_reachIn 20 = .ok (.iload 4, 2) := by decide +kernel
theorem dX12_reachIn_22 : decode cX12_reachIn 22 = .ok (.iconst 5, 1) := by decide +kernel
theorem dX12_reachIn_23 : decode cX12_reachIn 23 = .ok (.if_icmp .ge 40, 3) := by decide +kernel
theorem dX12_reachIn_26 : decode cX12_reachIn 26 = .ok (.aload_n 0, 1) := by decide +kernel
theorem dX12_reachIn_27 : decode cX12_reachIn 27 = .ok (.iload_n 2, 1) := by decide +kernel
theorem dX12_reachIn_28 : decode cX12_reachIn 28 = .ok (.iload 4, 2) := by decide +kernel
theorem dX12_reachIn_30 : decode cX12_reachIn 30 = .ok (.invokevirtual 267, 3) := by decide +kernel
theorem dX12_reachIn_33 : decode cX12_reachIn 33 = .ok (.iconst (-1), 1) := by decide +kernel
theorem dX12_reachIn_34 : decode cX12_reachIn 34 = .ok (.if_icmp .eq 23, 3) := by decide +kernel
theorem dX12_reachIn_37 : decode cX12_reachIn 37 = .ok (.iload_n 3, 1) := by decide +kernel
theorem dX12_reachIn_38 : decode cX12_reachIn 38 = .ok (.aload_n 0, 1) := by decide +kernel
theorem dX12_reachIn_39 : decode cX12_reachIn 39 = .ok (.getfield 142, 3) := by decide +kernel
theorem dX12_reachIn_42 : decode cX12_reachIn 42 = .ok (.aload_n 0, 1) := by decide +kernel
theorem dX12_reachIn_43 : decode cX12_reachIn 43 = .ok (.iload_n 1, 1) := by decide +kernel
theorem dX12_reachIn_44 : decode cX12_reachIn 44 = .ok (.aload_n 0, 1) := by decide +kernel
theorem dX12_reachIn_45 : decode cX12_reachIn 45 = .ok (.iload_n 2, 1) := by decide +kernel
theorem dX12_reachIn_46 : decode cX12_reachIn 46 = .ok (.iload 4, 2) := by decide +kernel
theorem dX12_reachIn_48 : decode cX12_reachIn 48 = .ok (.invokevirtual 267, 3) := by decide +kernel
theorem dX12_reachIn_51 : decode cX12_reachIn 51 = .ok (.invokevirtual 265, 3) := by decide +kernel
theorem dX12_reachIn_54 : decode cX12_reachIn 54 = .ok (.iaload, 1) := by decide +kernel
theorem dX12_reachIn_55 : decode cX12_reachIn 55 = .ok (.ior, 1) := by decide +kernel
theorem dX12_reachIn_56 : decode cX12_reachIn 56 = .ok (.istore_n 3, 1) := by decide +kernel
theorem dX12_reachIn_57 : decode cX12_reachIn 57 = .ok (.iinc 4 1, 3) := by decide +kernel
theorem dX12_reachIn_60 : decode cX12_reachIn 60 = .ok (.goto (-40), 3) := by decide +kernel
theorem dX12_reachIn_63 : decode cX12_reachIn 63 = .ok (.iload_n 3, 1) := by decide +kernel
theorem dX12_reachIn_64 : decode cX12_reachIn 64 = .ok (.ireturn, 1) := by decide +kernel
theorem dX12_laySpans_0 : decode cX12_laySpans 0 = .ok (.iconst 0, 1) := by decide +kernel
theorem dX12_laySpans_1 : decode cX12_laySpans 1 = .ok (.istore_n 2, 1) := by decide +kernel
theorem dX12_laySpans_2 : decode cX12_laySpans 2 = .ok (.iload_n 2, 1) := by decide +kernel
theorem dX12_laySpans_3 : decode cX12_laySpans 3 = .ok (.bipush 24, 2) := by decide +kernel
theorem dX12_laySpans_5 : decode cX12_laySpans 5 = .ok (.if_icmp .ge 33, 3) := by decide +kernel
theorem dX12_laySpans_8 : decode cX12_laySpans 8 = .ok (.aload_n 0, 1) := by decide +kernel
theorem dX12_laySpans_9 : decode cX12_laySpans 9 = .ok (.getfield 154, 3) := by decide +kernel
theorem dX12_laySpans_12 : decode cX12_laySpans 12 = .ok (.bipush 24, 2) := by decide +kernel
theorem dX12_laySpans_14 : decode cX12_laySpans 14 = .ok (.iload_n 1, 1) := by decide +kernel
theorem dX12_laySpans_15 : decode cX12_laySpans 15 = .ok (.imul, 1) := by decide +kernel
theorem dX12_laySpans_16 : decode cX12_laySpans 16 = .ok (.iload_n 2, 1) := by decide +kernel
theorem dX12_laySpans_17 : decode cX12_laySpans 17 = .ok (.iadd, 1) := by decide +kernel
theorem dX12_laySpans_18 : decode cX12_laySpans 18 = .ok (.iconst (-1), 1) := by decide +kernel
theorem dX12_laySpans_19 : decode cX12_laySpans 19 = .ok (.iastore, 1) := by decide +kernel
theorem dX12_laySpans_20 : decode cX12_laySpans 20 = .ok (.aload_n 0, 1) := by decide +kernel
theorem dX12_laySpans_21 : decode cX12_laySpans 21 = .ok (.getfield 157, 3) := by decide +kernel
theorem dX12_laySpans_24 : decode cX12_laySpans 24 = .ok (.bipush 24, 2) := by decide +kernel
theorem dX12_laySpans_26 : decode cX12_laySpans 26 = .ok (.iload_n 1, 1) := by decide +kernel
theorem dX12_laySpans_27 : decode cX12_laySpans 27 = .ok (.imul, 1) := by decide +kernel
theorem dX12_laySpans_28 : decode cX12_laySpans 28 = .ok (.iload_n 2, 1) := by decide +kernel
theorem dX12_laySpans_29 : decode cX12_laySpans 29 = .ok (.iadd, 1) := by decide +kernel
theorem dX12_laySpans_30 : decode cX12_laySpans 30 = .ok (.iconst (-1), 1) := by decide +kernel
theorem dX12_laySpans_31 : decode cX12_laySpans 31 = .ok (.iastore, 1) := by decide +kernel
theorem dX12_laySpans_32 : decode cX12_laySpans 32 = .ok (.iinc 2 1, 3) := by decide +kernel
theorem dX12_laySpans_35 : decode cX12_laySpans 35 = .ok (.goto (-33), 3) := by decide +kernel
theorem dX12_laySpans_38 : decode cX12_laySpans 38 = .ok (.iconst 0, 1) := by decide +kernel
theorem dX12_laySpans_39 : decode cX12_laySpans 39 = .ok (.istore_n 2, 1) := by decide +kernel
theorem dX12_laySpans_40 : decode cX12_laySpans 40 = .ok (.iload_n 2, 1) := by decide +kernel
theorem dX12_laySpans_41 : decode cX12_laySpans 41 = .ok (.aload_n 0, 1) := by decide +kernel
theorem dX12_laySpans_42 : decode cX12_laySpans 42 = .ok (.getfield 98, 3) := by decide +kernel
theorem dX12_laySpans_45 : decode cX12_laySpans 45 = .ok (.bipush 13, 2) := by decide +kernel
theorem dX12_laySpans_47 : decode cX12_laySpans 47 = .ok (.iload_n 1, 1) := by decide +kernel
theorem dX12_laySpans_48 : decode cX12_laySpans 48 = .ok (.iadd, 1) := by decide +kernel
theorem dX12_laySpans_49 : decode cX12_laySpans 49 = .ok (.iaload, 1) := by decide +kernel
theorem dX12_laySpans_50 : decode cX12_laySpans 50 = .ok (.if_icmp .ge 107, 3) := by decide +kernel
theorem dX12_laySpans_53 : decode cX12_laySpans 53 = .ok (.aload_n 0, 1) := by decide +kernel
theorem dX12_laySpans_54 : decode cX12_laySpans 54 = .ok (.iload_n 1, 1) := by decide +kernel
theorem dX12_laySpans_55 : decode cX12_laySpans 55 = .ok (.aload_n 0, 1) := by decide +kernel
theorem dX12_laySpans_56 : decode cX12_laySpans 56 = .ok (.getfield 98, 3) := by decide +kernel
theorem dX12_laySpans_59 : decode cX12_laySpans 59 = .ok (.bipush 8, 2) := by decide +kernel
theorem dX12_laySpans_61 : decode cX12_laySpans 61 = .ok (.iload_n 1, 1) := by decide +kernel
theorem dX12_laySpans_62 : decode cX12_laySpans 62 = .ok (.iadd, 1) := by decide +kernel
theorem dX12_laySpans_63 : decode cX12_laySpans 63 = .ok (.iaload, 1) := by decide +kernel
theorem dX12_laySpans_64 : decode cX12_laySpans 64 = .ok (.iload_n 2, 1) := by decide +kernel
theorem dX12_laySpans_65 : decode cX12_laySpans 65 = .ok (.iadd, 1) := by decide +kernel
theorem dX12_laySpans_66 : decode cX12_laySpans 66 = .ok (.invokevirtual 279, 3) := by decide +kernel
theorem dX12_laySpans_69 : decode cX12_laySpans 69 = .ok (.aload_n 0, 1) := by decide +kernel
theorem dX12_laySpans_70 : decode cX12_laySpans 70 = .ok (.getfield 151, 3) := by decide +kernel
theorem dX12_laySpans_73 : decode cX12_laySpans 73 = .ok (.iload_n 1, 1) := by decide +kernel
theorem dX12_laySpans_74 : decode cX12_laySpans 74 = .ok (.iaload, 1) := by decide +kernel
theorem dX12_laySpans_75 : decode cX12_laySpans 75 = .ok (.iand, 1) := by decide +kernel
theorem dX12_laySpans_76 : decode cX12_laySpans 76 = .ok (.istore_n 3, 1) := by decide +kernel
theorem dX12_laySpans_77 : decode cX12_laySpans 77 = .ok (.iconst 0, 1) := by decide +kernel
theorem dX12_laySpans_78 : decode cX12_laySpans 78 = .ok (.istore 4, 2) := by decide +kernel
theorem dX12_laySpans_80 : decode cX12_laySpans 80 = .ok (.iload 4, 2) := by decide +kernel
theorem dX12_laySpans_82 : decode cX12_laySpans 82 = .ok (.aload_n 0, 1) := by decide +kernel
theorem dX12_laySpans_83 : decode cX12_laySpans 83 = .ok (.getfield 98, 3) := by decide +kernel
theorem dX12_laySpans_86 : decode cX12_laySpans 86 = .ok (.iconst 2, 1) := by decide +kernel
theorem dX12_laySpans_87 : decode cX12_laySpans 87 = .ok (.iaload, 1) := by decide +kernel
theorem dX12_laySpans_88 : decode cX12_laySpans 88 = .ok (.if_icmp .ge 63, 3) := by decide +kernel
theorem dX12_laySpans_91 : decode cX12_laySpans 91 = .ok (.iload_n 3, 1) := by decide +kernel
theorem dX12_laySpans_92 : decode cX12_laySpans 92 = .ok (.iload 4, 2) := by decide +kernel
theorem dX12_laySpans_94 : decode cX12_laySpans 94 = .ok (.invokestatic 276, 3) := by decide +kernel
theorem dX12_laySpans_97 : decode cX12_laySpans 97 = .ok (.ifCond .ne 6, 3) := by decide +kernel
theorem dX12_laySpans_100 : decode cX12_laySpans 100 = .ok (.goto 45, 3) := by decide +kernel
theorem dX12_laySpans_103 : decode cX12_laySpans 103 = .ok (.aload_n 0, 1) := by decide +kernel
theorem dX12_laySpans_104 : decode cX12_laySpans 104 = .ok (.getfield 154, 3) := by decide +kernel
theorem dX12_laySpans_107 : decode cX12_laySpans 107 = .ok (.bipush 24, 2) := by decide +kernel
theorem dX12_laySpans_109 : decode cX12_laySpans 109 = .ok (.iload_n 1, 1) := by decide +kernel
theorem dX12_laySpans_110 : decode cX12_laySpans 110 = .ok (.imul, 1) := by decide +kernel
theorem dX12_laySpans_111 : decode cX12_laySpans 111 = .ok (.iload 4, 2) := by decide +kernel
theorem dX12_laySpans_113 : decode cX12_laySpans 113 = .ok (.iadd, 1) := by decide +kernel
theorem dX12_laySpans_114 : decode cX12_laySpans 114 = .ok (.iaload, 1) := by decide +kernel
theorem dX12_laySpans_115 : decode cX12_laySpans 115 = .ok (.iconst (-1), 1) := by decide +kernel
theorem dX12_laySpans_116 : decode cX12_laySpans 116 = .ok (.if_icmp .ne 16, 3) := by decide +kernel
theorem dX12_laySpans_119 : decode cX12_laySpans 119 = .ok (.aload_n 0, 1) := by decide +kernel
theorem dX12_laySpans_120 : decode cX12_laySpans 120 = .ok (.getfield 154, 3) := by decide +kernel
theorem dX12_laySpans_123 : decode cX12_laySpans 123 = .ok (.bipush 24, 2) := by decide +kernel
theorem dX12_laySpans_125 : decode cX12_laySpans 125 = .ok (.iload_n 1, 1) := by decide +kernel
theorem dX12_laySpans_126 : decode cX12_laySpans 126 = .ok (.imul, 1) := by decide +kernel
theorem dX12_laySpans_127 : decode cX12_laySpans 127 = .ok (.iload 4, 2) := by decide +kernel
theorem dX12_laySpans_129 : decode cX12_laySpans 129 = .ok (.iadd, 1) := by decide +kernel
theorem dX12_laySpans_130 : decode cX12_laySpans 130 = .ok (.iload_n 2, 1) := by decide +kernel
theorem dX12_laySpans_131 : decode cX12_laySpans 131 = .ok (.iastore, 1) := by decide +kernel
theorem dX12_laySpans_132 : decode cX12_laySpans 132 = .ok (.aload_n 0, 1) := by decide +kernel
theorem dX12_laySpans_133 : decode cX12_laySpans 133 = .ok (.getfield 157, 3) := by decide +kernel
theorem dX12_laySpans_136 : decode cX12_laySpans 136 = .ok (.bipush 24, 2) := by decide +kernel
theorem dX12_laySpans_138 : decode cX12_laySpans 138 = .ok (.iload_n 1, 1) := by decide +kernel
theorem dX12_laySpans_139 : decode cX12_laySpans 139 = .ok (.imul, 1) := by decide +kernel
theorem dX12_laySpans_140 : decode cX12_laySpans 140 = .ok (.iload 4, 2) := by decide +kernel
theorem dX12_laySpans_142 : decode cX12_laySpans 142 = .ok (.iadd, 1) := by decide +kernel
theorem dX12_laySpans_143 : decode cX12_laySpans 143 = .ok (.iload_n 2, 1) := by decide +kernel
theorem dX12_laySpans_144 : decode cX12_laySpans 144 = .ok (.iastore, 1) := by decide +kernel
theorem dX12_laySpans_145 : decode cX12_laySpans 145 = .ok (.iinc 4 1, 3) := by decide +kernel
theorem dX12_laySpans_148 : decode cX12_laySpans 148 = .ok (.goto (-68), 3) := by decide +kernel
theorem dX12_laySpans_151 : decode cX12_laySpans 151 = .ok (.iinc 2 1, 3) := by decide +kernel
theorem dX12_laySpans_154 : decode cX12_laySpans 154 = .ok (.goto (-114), 3) := by decide +kernel
theorem dX12_laySpans_157 : decode cX12_laySpans 157 = .ok (.return_, 1) := by decide +kernel
theorem dX12_layFun_0 : decode cX12_layFun 0 = .ok (.iconst 0, 1) := by decide +kernel
theorem dX12_layFun_1 : decode cX12_layFun 1 = .ok (.istore_n 2, 1) := by decide +kernel
theorem dX12_layFun_2 : decode cX12_layFun 2 = .ok (.aload_n 0, 1) := by decide +kernel
theorem dX12_layFun_3 : decode cX12_layFun 3 = .ok (.aload_n 0, 1) := by decide +kernel
theorem dX12_layFun_4 : decode cX12_layFun 4 = .ok (.getfield 98, 3) := by decide +kernel
theorem dX12_layFun_7 : decode cX12_layFun 7 = .ok (.iload_n 1, 1) := by decide +kernel
theorem dX12_layFun_8 : decode cX12_layFun 8 = .ok (.invokevirtual 193, 3) := by decide +kernel
theorem dX12_layFun_11 : decode cX12_layFun 11 = .ok (.istore_n 3, 1) := by decide +kernel
theorem dX12_layFun_12 : decode cX12_layFun 12 = .ok (.aload_n 0, 1) := by decide +kernel
theorem dX12_layFun_13 : decode cX12_layFun 13 = .ok (.getfield 148, 3) := by decide +kernel
theorem dX12_layFun_16 : decode cX12_layFun 16 = .ok (.iload_n 1, 1) := by decide +kernel
theorem dX12_layFun_17 : decode cX12_layFun 17 = .ok (.iconst 0, 1) := by decide +kernel
theorem dX12_layFun_18 : decode cX12_layFun 18 = .ok (.iastore, 1) := by decide +kernel
theorem dX12_layFun_19 : decode cX12_layFun 19 = .ok (.iconst 0, 1) := by decide +kernel
theorem dX12_layFun_20 : decode cX12_layFun 20 = .ok (.istore 4, 2) := by decide +kernel
theorem dX12_layFun_22 : decode cX12_layFun 22 = .ok (.iload 4, 2) := by decide +kernel
theorem dX12_layFun_24 : decode cX12_layFun 24 = .ok (.iload_n 3, 1) := by decide +kernel
theorem dX12_layFun_25 : decode cX12_layFun 25 = .ok (.if_icmp .ge 66, 3) := by decide +kernel
theorem dX12_layFun_28 : decode cX12_layFun 28 = .ok (.iload_n 2, 1) := by decide +kernel
theorem dX12_layFun_29 : decode cX12_layFun 29 = .ok (.aload_n 0, 1) := by decide +kernel
theorem dX12_layFun_30 : decode cX12_layFun 30 = .ok (.getfield 142, 3) := by decide +kernel
theorem dX12_layFun_33 : decode cX12_layFun 33 = .ok (.aload_n 0, 1) := by decide +kernel
theorem dX12_layFun_34 : decode cX12_layFun 34 = .ok (.iload_n 1, 1) := by decide +kernel
theorem dX12_layFun_35 : decode cX12_layFun 35 = .ok (.iload 4, 2) := by decide +kernel
theorem dX12_layFun_37 : decode cX12_layFun 37 = .ok (.invokevirtual 265, 3) := by decide +kernel
theorem dX12_layFun_40 : decode cX12_layFun 40 = .ok (.iaload, 1) := by decide +kernel
theorem dX12_layFun_41 : decode cX12_layFun 41 = .ok (.ior, 1) := by decide +kernel
theorem dX12_layFun_42 : decode cX12_layFun 42 = .ok (.istore_n 2, 1) := by decide +kernel
theorem dX12_layFun_43 : decode cX12_layFun 43 = .ok (.iload 4, 2) := by decide +kernel
theorem dX12_layFun_45 : decode cX12_layFun 45 = .ok (.aload_n 0, 1) := by decide +kernel
theorem dX12_layFun_46 : decode cX12_layFun 46 = .ok (.getfield 98, 3) := by decide +kernel
theorem dX12_layFun_49 : decode cX12_layFun 49 = .ok (.iconst 3, 1) := by decide +kernel
theorem dX12_layFun_50 : decode cX12_layFun 50 = .ok (.iload_n 1, 1) := by decide +kernel
theorem dX12_layFun_51 : decode cX12_layFun 51 = .ok (.iadd, 1) := by decide +kernel
theorem dX12_layFun_52 : decode cX12_layFun 52 = .ok (.iaload, 1) := by decide +kernel
theorem dX12_layFun_53 : decode cX12_layFun 53 = .ok (.if_icmp .lt 11, 3) := by decide +kernel
theorem dX12_layFun_56 : decode cX12_layFun 56 = .ok (.iload 4, 2) := by decide +kernel
theorem dX12_layFun_58 : decode cX12_layFun 58 = .ok (.iload_n 3, 1) := by decide +kernel
theorem dX12_layFun_59 : decode cX12_layFun 59 = .ok (.iconst 1, 1) := by decide +kernel
theorem dX12_layFun_60 : decode cX12_layFun 60 = .ok (.isub, 1) := by decide +kernel
theorem dX12_layFun_61 : decode cX12_layFun 61 = .ok (.if_icmp .ne 24, 3) := by decide +kernel
theorem dX12_layFun_64 : decode cX12_layFun 64 = .ok (.aload_n 0, 1) := by decide +kernel
theorem dX12_layFun_65 : decode cX12_layFun 65 = .ok (.getfield 148, 3) := by decide +kernel
theorem dX12_layFun_68 : decode cX12_layFun 68 = .ok (.iload_n 1, 1) := by decide +kernel
theorem dX12_layFun_69 : decode cX12_layFun 69 = .ok (.dup2, 1) := by decide +kernel
theorem dX12_layFun_70 : decode cX12_layFun 70 = .ok (.iaload, 1) := by decide +kernel
theorem dX12_layFun_71 : decode cX12_layFun 71 = .ok (.aload_n 0, 1) := by decide +kernel
theorem dX12_layFun_72 : decode cX12_layFun 72 = .ok (.getfield 142, 3) := by decide +kernel
theorem dX12_layFun_75 : decode cX12_layFun 75 = .ok (.aload_n 0, 1) := by decide +kernel
theorem dX12_layFun_76 : decode cX12_layFun 76 = .ok (.iload_n 1, 1) := by decide +kernel
theorem dX12_layFun_77 : decode cX12_layFun 77 = .ok (.iload 4, 2) := by decide +kernel
theorem dX12_layFun_79 : decode cX12_layFun 79 = .ok (.invokevirtual 265, 3) := by decide +kernel
theorem dX12_layFun_82 : decode cX12_layFun 82 = .ok (.iaload, 1) := by decide +kernel
theorem dX12_layFun_83 : decode cX12_layFun 83 = .ok (.ior, 1) := by decide +kernel
theorem dX12_layFun_84 : decode cX12_layFun 84 = .ok (.iastore, 1) := by decide +kernel
theorem dX12_layFun_85 : decode cX12_layFun 85 = .ok (.iinc 4 1, 3) := by decide +kernel
theorem dX12_layFun_88 : decode cX12_layFun 88 = .ok (.goto (-66), 3) := by decide +kernel
theorem dX12_layFun_91 : decode cX12_layFun 91 = .ok (.aload_n 0, 1) := by decide +kernel
theorem dX12_layFun_92 : decode cX12_layFun 92 = .ok (.getfield 151, 3) := by decide +kernel
theorem dX12_layFun_95 : decode cX12_layFun 95 = .ok (.iload_n 1, 1) := by decide +kernel
theorem dX12_layFun_96 : decode cX12_layFun 96 = .ok (.iload_n 2, 1) := by decide +kernel
theorem dX12_layFun_97 : decode cX12_layFun 97 = .ok (.aload_n 0, 1) := by decide +kernel
theorem dX12_layFun_98 : decode cX12_layFun 98 = .ok (.getfield 148, 3) := by decide +kernel
theorem dX12_layFun_101 : decode cX12_layFun 101 = .ok (.iload_n 1, 1) := by decide +kernel
theorem dX12_layFun_102 : decode cX12_layFun 102 = .ok (.iaload, 1) := by decide +kernel
theorem dX12_layFun_103 : decode cX12_layFun 103 = .ok (.iconst (-1), 1) := by decide +kernel
theorem dX12_layFun_104 : decode cX12_layFun 104 = .ok (.ixor, 1) := by decide +kernel
theorem dX12_layFun_105 : decode cX12_layFun 105 = .ok (.iand, 1) := by decide +kernel
theorem dX12_layFun_106 : decode cX12_layFun 106 = .ok (.iastore, 1) := by decide +kernel
theorem dX12_layFun_107 : decode cX12_layFun 107 = .ok (.aload_n 0, 1) := by decide +kernel
theorem dX12_layFun_108 : decode cX12_layFun 108 = .ok (.iload_n 1, 1) := by decide +kernel
theorem dX12_layFun_109 : decode cX12_layFun 109 = .ok (.invokevirtual 282, 3) := by decide +kernel
theorem dX12_layFun_112 : decode cX12_layFun 112 = .ok (.iconst 0, 1) := by decide +kernel
theorem dX12_layFun_113 : decode cX12_layFun 113 = .ok (.istore 4, 2) := by decide +kernel
theorem dX12_layFun_115 : decode cX12_layFun 115 = .ok (.iload 4, 2) := by decide +kernel
theorem dX12_layFun_117 : decode cX12_layFun 117 = .ok (.aload_n 0, 1) := by decide +kernel
theorem dX12_layFun_118 : decode cX12_layFun 118 = .ok (.getfield 98, 3) := by decide +kernel
theorem dX12_layFun_121 : decode cX12_layFun 121 = .ok (.bipush 13, 2) := by decide +kernel
theorem dX12_layFun_123 : decode cX12_layFun 123 = .ok (.iload_n 1, 1) := by decide +kernel
theorem dX12_layFun_124 : decode cX12_layFun 124 = .ok (.iadd, 1) := by decide +kernel
theorem dX12_layFun_125 : decode cX12_layFun 125 = .ok (.iaload, 1) := by decide +kernel
theorem dX12_layFun_126 : decode cX12_layFun 126 = .ok (.if_icmp .ge 65, 3) := by decide +kernel
theorem dX12_layFun_129 : decode cX12_layFun 129 = .ok (.aload_n 0, 1) := by decide +kernel
theorem dX12_layFun_130 : decode cX12_layFun 130 = .ok (.getfield 98, 3) := by decide +kernel
theorem dX12_layFun_133 : decode cX12_layFun 133 = .ok (.bipush 8, 2) := by decide +kernel
theorem dX12_layFun_135 : decode cX12_layFun 135 = .ok (.iload_n 1, 1) := by decide +kernel
theorem dX12_layFun_136 : decode cX12_layFun 136 = .ok (.iadd, 1) := by decide +kernel
theorem dX12_layFun_137 : decode cX12_layFun 137 = .ok (.iaload, 1) := by decide +kernel
theorem dX12_layFun_138 : decode cX12_layFun 138 = .ok (.iload 4, 2) := by decide +kernel
theorem dX12_layFun_140 : decode cX12_layFun 140 = .ok (.iadd, 1) := by decide +kernel
theorem dX12_layFun_141 : decode cX12_layFun 141 = .ok (.istore 5, 2) := by decide +kernel
theorem dX12_layFun_143 : decode cX12_layFun 143 = .ok (.aload_n 0, 1) := by decide +kernel
theorem dX12_layFun_144 : decode cX12_layFun 144 = .ok (.getfield 98, 3) := by decide +kernel
theorem dX12_layFun_147 : decode cX12_layFun 147 = .ok (.bipush 18, 2) := by decide +kernel
theorem dX12_layFun_149 : decode cX12_layFun 149 = .ok (.iload 5, 2) := by decide +kernel
theorem dX12_layFun_151 : decode cX12_layFun 151 = .ok (.iadd, 1) := by decide +kernel
theorem dX12_layFun_152 : decode cX12_layFun 152 = .ok (.iaload, 1) := by decide +kernel
theorem dX12_layFun_153 : decode cX12_layFun 153 = .ok (.iconst 2, 1) := by decide +kernel
theorem dX12_layFun_154 : decode cX12_layFun 154 = .ok (.if_icmp .ne 31, 3) := by decide +kernel
theorem dX12_layFun_157 : decode cX12_layFun 157 = .ok (.aload_n 0, 1) := by decide +kernel
theorem dX12_layFun_158 : decode cX12_layFun 158 = .ok (.getfield 160, 3) := by decide +kernel
theorem dX12_layFun_161 : decode cX12_layFun 161 = .ok (.aload_n 0, 1) := by decide +kernel
theorem dX12_layFun_162 : decode cX12_layFun 162 = .ok (.getfield 139, 3) := by decide +kernel
theorem dX12_layFun_165 : decode cX12_layFun 165 = .ok (.aload_n 0, 1) := by decide +kernel
theorem dX12_layFun_166 : decode cX12_layFun 166 = .ok (.iload_n 1, 1) := by decide +kernel
theorem dX12_layFun_167 : decode cX12_layFun 167 = .ok (.aload_n 0, 1) := by decide +kernel
theorem dX12_layFun_168 : decode cX12_layFun 168 = .ok (.iload_n 1, 1) := by decide +kernel
theorem dX12_layFun_169 : decode cX12_layFun 169 = .ok (.iload 5, 2) := by decide +kernel
theorem dX12_layFun_171 : decode cX12_layFun 171 = .ok (.invokevirtual 262, 3) := by decide +kernel
theorem dX12_layFun_174 : decode cX12_layFun 174 = .ok (.invokevirtual 265, 3) := by decide +kernel
theorem dX12_layFun_177 : decode cX12_layFun 177 = .ok (.iaload, 1) := by decide +kernel
theorem dX12_layFun_178 : decode cX12_layFun 178 = .ok (.dup2, 1) := by decide +kernel
theorem dX12_layFun_179 : decode cX12_layFun 179 = .ok (.iaload, 1) := by decide +kernel
theorem dX12_layFun_180 : decode cX12_layFun 180 = .ok (.iconst 1, 1) := by decide +kernel
theorem dX12_layFun_181 : decode cX12_layFun 181 = .ok (.iload_n 1, 1) := by decide +kernel
theorem dX12_layFun_182 : decode cX12_layFun 182 = .ok (.ishl, 1) := by decide +kernel
theorem dX12_layFun_183 : decode cX12_layFun 183 = .ok (.ior, 1) := by decide +kernel
theorem dX12_layFun_184 : decode cX12_layFun 184 = .ok (.iastore, 1) := by decide +kernel
theorem dX12_layFun_185 : decode cX12_layFun 185 = .ok (.iinc 4 1, 3) := by decide +kernel
theorem dX12_layFun_188 : decode cX12_layFun 188 = .ok (.goto (-73), 3) := by decide +kernel
theorem dX12_layFun_191 : decode cX12_layFun 191 = .ok (.return_, 1) := by decide +kernel
theorem dX12_layRegions_0 : decode cX12_layRegions 0 = .ok (.aload_n 0, 1) := by decide +kernel
theorem dX12_layRegions_1 : decode cX12_layRegions 1 = .ok (.iconst 0, 1) := by decide +kernel
theorem dX12_layRegions_2 : decode cX12_layRegions 2 = .ok (.putfield 259, 3) := by decide +kernel
theorem dX12_layRegions_5 : decode cX12_layRegions 5 = .ok (.aload_n 0, 1) := by decide +kernel
theorem dX12_layRegions_6 : decode cX12_layRegions 6 = .ok (.getfield 98, 3) := by decide +kernel
theorem dX12_layRegions_9 : decode cX12_layRegions 9 = .ok (.iconst 2, 1) := by decide +kernel
theorem dX12_layRegions_10 : decode cX12_layRegions 10 = .ok (.iconst 0, 1) := by decide +kernel
theorem dX12_layRegions_11 : decode cX12_layRegions 11 = .ok (.iastore, 1) := by decide +kernel
theorem dX12_layRegions_12 : decode cX12_layRegions 12 = .ok (.iconst 0, 1) := by decide +kernel
theorem dX12_layRegions_13 : decode cX12_layRegions 13 = .ok (.istore_n 1, 1) := by decide +kernel
theorem dX12_layRegions_14 : decode cX12_layRegions 14 = .ok (.iload_n 1, 1) := by decide +kernel
theorem dX12_layRegions_15 : decode cX12_layRegions 15 = .ok (.sipush 183, 3) := by decide +kernel
theorem dX12_layRegions_18 : decode cX12_layRegions 18 = .ok (.if_icmp .ge 23, 3) := by decide +kernel
theorem dX12_layRegions_21 : decode cX12_layRegions 21 = .ok (.aload_n 0, 1) := by decide +kernel
theorem dX12_layRegions_22 : decode cX12_layRegions 22 = .ok (.getfield 130, 3) := by decide +kernel
theorem dX12_layRegions_25 : decode cX12_layRegions 25 = .ok (.iload_n 1, 1) := by decide +kernel
theorem dX12_layRegions_26 : decode cX12_layRegions 26 = .ok (.iload_n 1, 1) := by decide +kernel
theorem dX12_layRegions_27 : decode cX12_layRegions 27 = .ok (.iastore, 1) := by decide +kernel
theorem dX12_layRegions_28 : decode cX12_layRegions 28 = .ok (.aload_n 0, 1) := by decide +kernel
theorem dX12_layRegions_29 : decode cX12_layRegions 29 = .ok (.getfield 133, 3) := by decide +kernel
theorem dX12_layRegions_32 : decode cX12_layRegions 32 = .ok (.iload_n 1, 1) := by decide +kernel
theorem dX12_layRegions_33 : decode cX12_layRegions 33 = .ok (.iconst (-1), 1) := by decide +kernel
theorem dX12_layRegions_34 : decode cX12_layRegions 34 = .ok (.iastore, 1) := by decide +kernel
theorem dX12_layRegions_35 : decode cX12_layRegions 35 = .ok (.iinc 1 1, 3) := by decide +kernel
theorem dX12_layRegions_38 : decode cX12_layRegions 38 = .ok (.goto (-24), 3) := by decide +kernel
theorem dX12_layRegions_41 : decode cX12_layRegions 41 = .ok (.iconst 0, 1) := by decide +kernel
theorem dX12_layRegions_42 : decode cX12_layRegions 42 = .ok (.istore_n 1, 1) := by decide +kernel
theorem dX12_layRegions_43 : decode cX12_layRegions 43 = .ok (.iload_n 1, 1) := by decide +kernel
theorem dX12_layRegions_44 : decode cX12_layRegions 44 = .ok (.aload_n 0, 1) := by decide +kernel
theorem dX12_layRegions_45 : decode cX12_layRegions 45 = .ok (.getfield 98, 3) := by decide +kernel
theorem dX12_layRegions_48 : decode cX12_layRegions 48 = .ok (.iconst 0, 1) := by decide +kernel
theorem dX12_layRegions_49 : decode cX12_layRegions 49 = .ok (.iaload, 1) := by decide +kernel
theorem dX12_layRegions_50 : decode cX12_layRegions 50 = .ok (.if_icmp .ge 46, 3) := by decide +kernel
theorem dX12_layRegions_53 : decode cX12_layRegions 53 = .ok (.iconst 0, 1) := by decide +kernel
theorem dX12_layRegions_54 : decode cX12_layRegions 54 = .ok (.istore_n 2, 1) := by decide +kernel
theorem dX12_layRegions_55 : decode cX12_layRegions 55 = .ok (.iload_n 2, 1) := by decide +kernel
theorem dX12_layRegions_56 : decode cX12_layRegions 56 = .ok (.aload_n 0, 1) := by decide +kernel
theorem dX12_layRegions_57 : decode cX12_layRegions 57 = .ok (.getfield 98, 3) := by decide +kernel
theorem dX12_layRegions_60 : decode cX12_layRegions 60 = .ok (.bipush 13, 2) := by decide +kernel
theorem dX12_layRegions_62 : decode cX12_layRegions 62 = .ok (.iload_n 1, 1) := by decide +kernel
theorem dX12_layRegions_63 : decode cX12_layRegions 63 = .ok (.iadd, 1) := by decide +kernel
theorem dX12_layRegions_64 : decode cX12_layRegions 64 = .ok (.iaload, 1) := by decide +kernel
theorem dX12_layRegions_65 : decode cX12_layRegions 65 = .ok (.if_icmp .ge 25, 3) := by decide +kernel
theorem dX12_layRegions_68 : decode cX12_layRegions 68 = .ok (.aload_n 0, 1) := by decide +kernel
theorem dX12_layRegions_69 : decode cX12_layRegions 69 = .ok (.iload_n 1, 1) := by decide +kernel
theorem dX12_layRegions_70 : decode cX12_layRegions 70 = .ok (.aload_n 0, 1) := by decide +kernel
theorem dX12_layRegions_71 : decode cX12_layRegions 71 = .ok (.getfield 98, 3) := by decide +kernel
theorem dX12_layRegions_74 : decode cX12_layRegions 74 = .ok (.bipush 8, 2) := by decide +kernel
theorem dX12_layRegions_76 : decode cX12_layRegions 76 = .ok (.iload_n 1, 1) := by decide +kernel
theorem dX12_layRegions_77 : decode cX12_layRegions 77 = .ok (.iadd, 1) := by decide +kernel
theorem dX12_layRegions_78 : decode cX12_layRegions 78 = .ok (.iaload, 1) := by decide +kernel
theorem dX12_layRegions_79 : decode cX12_layRegions 79 = .ok (.iload_n 2, 1) := by decide +kernel
theorem dX12_layRegions_80 : decode cX12_layRegions 80 = .ok (.iadd, 1) := by decide +kernel
theorem dX12_layRegions_81 : decode cX12_layRegions 81 = .ok (.invokevirtual 285, 3) := by decide +kernel
theorem dX12_layRegions_84 : decode cX12_layRegions 84 = .ok (.iinc 2 1, 3) := by decide +kernel
theorem dX12_layRegions_87 : decode cX12_layRegions 87 = .ok (.goto (-32), 3) := by decide +kernel
theorem dX12_layRegions_90 : decode cX12_layRegions 90 = .ok (.iinc 1 1, 3) := by decide +kernel
theorem dX12_layRegions_93 : decode cX12_layRegions 93 = .ok (.goto (-50), 3) := by decide +kernel
theorem dX12_layRegions_96 : decode cX12_layRegions 96 = .ok (.iconst 0, 1) := by decide +kernel
theorem dX12_layRegions_97 : decode cX12_layRegions 97 = .ok (.istore_n 1, 1) := by decide +kernel
theorem dX12_layRegions_98 : decode cX12_layRegions 98 = .ok (.iload_n 1, 1) := by decide +kernel
theorem dX12_layRegions_99 : decode cX12_layRegions 99 = .ok (.bipush 24, 2) := by decide +kernel
theorem dX12_layRegions_101 : decode cX12_layRegions 101 = .ok (.if_icmp .ge 23, 3) := by decide +kernel
theorem dX12_layRegions_104 : decode cX12_layRegions 104 = .ok (.aload_n 0, 1) := by decide +kernel
theorem dX12_layRegions_105 : decode cX12_layRegions 105 = .ok (.getfield 136, 3) := by decide +kernel
theorem dX12_layRegions_108 : decode cX12_layRegions 108 = .ok (.iload_n 1, 1) := by decide +kernel
theorem dX12_layRegions_109 : decode cX12_layRegions 109 = .ok (.iconst (-1), 1) := by decide +kernel
theorem dX12_layRegions_110 : decode cX12_layRegions 110 = .ok (.iastore, 1) := by decide +kernel
theorem dX12_layRegions_111 : decode cX12_layRegions 111 = .ok (.aload_n 0, 1) := by decide +kernel
theorem dX12_layRegions_112 : decode cX12_layRegions 112 = .ok (.getfield 160, 3) := by decide +kernel
theorem dX12_layRegions_115 : decode cX12_layRegions 115 = .ok (.iload_n 1, 1) := by decide +kernel
theorem dX12_layRegions_116 : decode cX12_layRegions 116 = .ok (.iconst 0, 1) := by decide +kernel
theorem dX12_layRegions_117 : decode cX12_layRegions 117 = .ok (.iastore, 1) := by decide +kernel
theorem dX12_layRegions_118 : decode cX12_layRegions 118 = .ok (.iinc 1 1, 3) := by decide +kernel
theorem dX12_layRegions_121 : decode cX12_layRegions 121 = .ok (.goto (-23), 3) := by decide +kernel
theorem dX12_layRegions_124 : decode cX12_layRegions 124 = .ok (.iconst 0, 1) := by decide +kernel
theorem dX12_layRegions_125 : decode cX12_layRegions 125 = .ok (.istore_n 1, 1) := by decide +kernel
theorem dX12_layRegions_126 : decode cX12_layRegions 126 = .ok (.iload_n 1, 1) := by decide +kernel
theorem dX12_layRegions_127 : decode cX12_layRegions 127 = .ok (.aload_n 0, 1) := by decide +kernel
theorem dX12_layRegions_128 : decode cX12_layRegions 128 = .ok (.getfield 98, 3) := by decide +kernel
theorem dX12_layRegions_131 : decode cX12_layRegions 131 = .ok (.iconst 0, 1) := by decide +kernel
theorem dX12_layRegions_132 : decode cX12_layRegions 132 = .ok (.iaload, 1) := by decide +kernel
theorem dX12_layRegions_133 : decode cX12_layRegions 133 = .ok (.if_icmp .ge 40, 3) := by decide +kernel
theorem dX12_layRegions_136 : decode cX12_layRegions 136 = .ok (.iconst 0, 1) := by decide +kernel
theorem dX12_layRegions_137 : decode cX12_layRegions 137 = .ok (.istore_n 2, 1) := by decide +kernel
theorem dX12_layRegions_138 : decode cX12_layRegions 138 = .ok (.iload_n 2, 1) := by decide +kernel
theorem dX12_layRegions_139 : decode cX12_layRegions 139 = .ok (.aload_n 0, 1) := by decide +kernel
theorem dX12_layRegions_140 : decode cX12_layRegions 140 = .ok (.aload_n 0, 1) := by decide +kernel
theorem dX12_layRegions_141 : decode cX12_layRegions 141 = .ok (.getfield 98, 3) := by decide +kernel
theorem dX12_layRegions_144 : decode cX12_layRegions 144 = .ok (.iload_n 1, 1) := by decide +kernel
theorem dX12_layRegions_145 : decode cX12_layRegions 145 = .ok (.invokevirtual 193, 3) := by decide +kernel
theorem dX12_layRegions_148 : decode cX12_layRegions 148 = .ok (.if_icmp .ge 19, 3) := by decide +kernel
theorem dX12_layRegions_151 : decode cX12_layRegions 151 = .ok (.aload_n 0, 1) := by decide +kernel
theorem dX12_layRegions_152 : decode cX12_layRegions 152 = .ok (.aload_n 0, 1) := by decide +kernel
theorem dX12_layRegions_153 : decode cX12_layRegions 153 = .ok (.iload_n 1, 1) := by decide +kernel
theorem dX12_layRegions_154 : decode cX12_layRegions 154 = .ok (.iload_n 2, 1) := by decide +kernel
theorem dX12_layRegions_155 : decode cX12_layRegions 155 = .ok (.invokevirtual 265, 3) := by decide +kernel
theorem dX12_layRegions_158 : decode cX12_layRegions 158 = .ok (.invokevirtual 273, 3) := by decide +kernel
theorem dX12_layRegions_161 : decode cX12_layRegions 161 = .ok (.iinc 2 1, 3) := by decide +kernel
theorem dX12_layRegions_164 : decode cX12_layRegions 164 = .ok (.goto (-26), 3) := by decide +kernel
theorem dX12_layRegions_167 : decode cX12_layRegions 167 = .ok (.iinc 1 1, 3) := by decide +kernel
theorem dX12_layRegions_170 : decode cX12_layRegions 170 = .ok (.goto (-44), 3) := by decide +kernel
theorem dX12_layRegions_173 : decode cX12_layRegions 173 = .ok (.iconst 0, 1) := by decide +kernel
theorem dX12_layRegions_174 : decode cX12_layRegions 174 = .ok (.istore_n 1, 1) := by decide +kernel
theorem dX12_layRegions_175 : decode cX12_layRegions 175 = .ok (.iload_n 1, 1) := by decide +kernel
theorem dX12_layRegions_176 : decode cX12_layRegions 176 = .ok (.aload_n 0, 1) := by decide +kernel
theorem dX12_layRegions_177 : decode cX12_layRegions 177 = .ok (.getfield 259, 3) := by decide +kernel
theorem dX12_layRegions_180 : decode cX12_layRegions 180 = .ok (.if_icmp .ge 60, 3) := by decide +kernel
theorem dX12_layRegions_183 : decode cX12_layRegions 183 = .ok (.aload_n 0, 1) := by decide +kernel
theorem dX12_layRegions_184 : decode cX12_layRegions 184 = .ok (.getfield 136, 3) := by decide +kernel
theorem dX12_layRegions_187 : decode cX12_layRegions 187 = .ok (.iload_n 1, 1) := by decide +kernel
theorem dX12_layRegions_188 : decode cX12_layRegions 188 = .ok (.iaload, 1) := by decide +kernel
theorem dX12_layRegions_189 : decode cX12_layRegions 189 = .ok (.iconst (-1), 1) := by decide +kernel
theorem dX12_layRegions_190 : decode cX12_layRegions 190 = .ok (.if_icmp .ne 6, 3) := by decide +kernel
theorem dX12_layRegions_193 : decode cX12_layRegions 193 = .ok (.goto 41, 3) := by decide +kernel
theorem dX12_layRegions_196 : decode cX12_layRegions 196 = .ok (.iconst 0, 1) := by decide +kernel
theorem dX12_layRegions_197 : decode cX12_layRegions 197 = .ok (.istore_n 2, 1) := by decide +kernel
theorem dX12_layRegions_198 : decode cX12_layRegions 198 = .ok (.iload_n 2, 1) := by decide +kernel
theorem dX12_layRegions_199 : decode cX12_layRegions 199 = .ok (.iconst 2, 1) := by decide +kernel
theorem dX12_layRegions_200 : decode cX12_layRegions 200 = .ok (.if_icmp .ge 34, 3) := by decide +kernel
theorem dX12_layRegions_203 : decode cX12_layRegions 203 = .ok (.aload_n 0, 1) := by decide +kernel
theorem dX12_layRegions_204 : decode cX12_layRegions 204 = .ok (.getfield 145, 3) := by decide +kernel
theorem dX12_layRegions_207 : decode cX12_layRegions 207 = .ok (.iconst 2, 1) := by decide +kernel
theorem dX12_layRegions_208 : decode cX12_layRegions 208 = .ok (.aload_n 0, 1) := by decide +kernel
theorem dX12_layRegions_209 : decode cX12_layRegions 209 = .ok (.getfield 136, 3) := by decide +kernel
theorem dX12_layRegions_212 : decode cX12_layRegions 212 = .ok (.iload_n 1, 1) := by decide +kernel
theorem dX12_layRegions_213 : decode cX12_layRegions 213 = .ok (.iaload, 1) := by decide +kernel
theorem dX12_layRegions_214 : decode cX12_layRegions 214 = .ok (.imul, 1) := by decide +kernel
theorem dX12_layRegions_215 : decode cX12_layRegions 215 = .ok (.iload_n 2, 1) := by decide +kernel
theorem dX12_layRegions_216 : decode cX12_layRegions 216 = .ok (.iadd, 1) := by decide +kernel
theorem dX12_layRegions_217 : decode cX12_layRegions 217 = .ok (.aload_n 0, 1) := by decide +kernel
theorem dX12_layRegions_218 : decode cX12_layRegions 218 = .ok (.aload_n 0, 1) := by decide +kernel
theorem dX12_layRegions_219 : decode cX12_layRegions 219 = .ok (.iload_n 1, 1) := by decide +kernel
theorem dX12_layRegions_220 : decode cX12_layRegions 220 = .ok (.iload_n 2, 1) := by decide +kernel
theorem dX12_layRegions_221 : decode cX12_layRegions 221 = .ok (.invokevirtual 251, 3) := by decide +kernel
theorem dX12_layRegions_224 : decode cX12_layRegions 224 = .ok (.invokevirtual 288, 3) := by decide +kernel
theorem dX12_layRegions_227 : decode cX12_layRegions 227 = .ok (.iastore, 1) := by decide +kernel
theorem dX12_layRegions_228 : decode cX12_layRegions 228 = .ok (.iinc 2 1, 3) := by decide +kernel
theorem dX12_layRegions_231 : decode cX12_layRegions 231 = .ok (.goto (-33), 3) := by decide +kernel
theorem dX12_layRegions_234 : decode cX12_layRegions 234 = .ok (.iinc 1 1, 3) := by decide +kernel
theorem dX12_layRegions_237 : decode cX12_layRegions 237 = .ok (.goto (-62), 3) := by decide +kernel
theorem dX12_layRegions_240 : decode cX12_layRegions 240 = .ok (.iconst 0, 1) := by decide +kernel
theorem dX12_layRegions_241 : decode cX12_layRegions 241 = .ok (.istore_n 1, 1) := by decide +kernel
theorem dX12_layRegions_242 : decode cX12_layRegions 242 = .ok (.iload_n 1, 1) := by decide +kernel
theorem dX12_layRegions_243 : decode cX12_layRegions 243 = .ok (.aload_n 0, 1) := by decide +kernel
theorem dX12_layRegions_244 : decode cX12_layRegions 244 = .ok (.getfield 98, 3) := by decide +kernel
theorem dX12_layRegions_247 : decode cX12_layRegions 247 = .ok (.iconst 0, 1) := by decide +kernel
theorem dX12_layRegions_248 : decode cX12_layRegions 248 = .ok (.iaload, 1) := by decide +kernel
theorem dX12_layRegions_249 : decode cX12_layRegions 249 = .ok (.if_icmp .ge 77, 3) := by decide +kernel
theorem dX12_layRegions_252 : decode cX12_layRegions 252 = .ok (.iconst 0, 1) := by decide +kernel
theorem dX12_layRegions_253 : decode cX12_layRegions 253 = .ok (.istore_n 2, 1) := by decide +kernel
theorem dX12_layRegions_254 : decode cX12_layRegions 254 = .ok (.iload_n 2, 1) := by decide +kernel
theorem dX12_layRegions_255 : decode cX12_layRegions 255 = .ok (.aload_n 0, 1) := by decide +kernel
theorem dX12_layRegions_256 : decode cX12_layRegions 256 = .ok (.aload_n 0, 1) := by decide +kernel
theorem dX12_layRegions_257 : decode cX12_layRegions 257 = .ok (.getfield 98, 3) := by decide +kernel
theorem dX12_layRegions_260 : decode cX12_layRegions 260 = .ok (.iload_n 1, 1) := by decide +kernel
theorem dX12_layRegions_261 : decode cX12_layRegions 261 = .ok (.invokevirtual 193, 3) := by decide +kernel
theorem dX12_layRegions_264 : decode cX12_layRegions 264 = .ok (.if_icmp .ge 56, 3) := by decide +kernel
theorem dX12_layRegions_267 : decode cX12_layRegions 267 = .ok (.aload_n 0, 1) := by decide +kernel
theorem dX12_layRegions_268 : decode cX12_layRegions 268 = .ok (.getfield 139, 3) := by decide +kernel
theorem dX12_layRegions_271 : decode cX12_layRegions 271 = .ok (.aload_n 0, 1) := by decide +kernel
theorem dX12_layRegions_272 : decode cX12_layRegions 272 = .ok (.iload_n 1, 1) := by decide +kernel
theorem dX12_layRegions_273 : decode cX12_layRegions 273 = .ok (.iload_n 2, 1) := by decide +kernel
theorem dX12_layRegions_274 : decode cX12_layRegions 274 = .ok (.invokevirtual 265, 3) := by decide +kernel
theorem dX12_layRegions_277 : decode cX12_layRegions 277 = .ok (.aload_n 0, 1) := by decide +kernel
theorem dX12_layRegions_278 : decode cX12_layRegions 278 = .ok (.aload_n 0, 1) := by decide +kernel
theorem dX12_layRegions_279 : decode cX12_layRegions 279 = .ok (.iload_n 1, 1) := by decide +kernel
theorem dX12_layRegions_280 : decode cX12_layRegions 280 = .ok (.iload_n 2, 1) := by decide +kernel
theorem dX12_layRegions_281 : decode cX12_layRegions 281 = .ok (.invokevirtual 265, 3) := by decide +kernel
theorem dX12_layRegions_284 : decode cX12_layRegions 284 = .ok (.invokevirtual 288, 3) := by decide +kernel
theorem dX12_layRegions_287 : decode cX12_layRegions 287 = .ok (.iastore, 1) := by decide +kernel
theorem dX12_layRegions_288 : decode cX12_layRegions 288 = .ok (.aload_n 0, 1) := by decide +kernel
theorem dX12_layRegions_289 : decode cX12_layRegions 289 = .ok (.getfield 142, 3) := by decide +kernel
theorem dX12_layRegions_292 : decode cX12_layRegions 292 = .ok (.aload_n 0, 1) := by decide +kernel
theorem dX12_layRegions_293 : decode cX12_layRegions 293 = .ok (.iload_n 1, 1) := by decide +kernel
theorem dX12_layRegions_294 : decode cX12_layRegions 294 = .ok (.iload_n 2, 1) := by decide +kernel
theorem dX12_layRegions_295 : decode cX12_layRegions 295 = .ok (.invokevirtual 265, 3) := by decide +kernel
theorem dX12_layRegions_298 : decode cX12_layRegions 298 = .ok (.aload_n 0, 1) := by decide +kernel
theorem dX12_layRegions_299 : decode cX12_layRegions 299 = .ok (.aload_n 0, 1) := by decide +kernel
theorem dX12_layRegions_300 : decode cX12_layRegions 300 = .ok (.getfield 139, 3) := by decide +kernel
theorem dX12_layRegions_303 : decode cX12_layRegions 303 = .ok (.aload_n 0, 1) := by decide +kernel
theorem dX12_layRegions_304 : decode cX12_layRegions 304 = .ok (.iload_n 1, 1) := by decide +kernel
theorem dX12_layRegions_305 : decode cX12_layRegions 305 = .ok (.iload_n 2, 1) := by decide +kernel
theorem dX12_layRegions_306 : decode cX12_layRegions 306 = .ok (.invokevirtual 265, 3) := by decide +kernel
theorem dX12_layRegions_309 : decode cX12_layRegions 309 = .ok (.iaload, 1) := by decide +kernel
theorem dX12_layRegions_310 : decode cX12_layRegions 310 = .ok (.invokevirtual 291, 3) := by decide +kernel
theorem dX12_layRegions_313 : decode cX12_layRegions 313 = .ok (.iastore, 1) := by decide +kernel
theorem dX12_layRegions_314 : decode cX12_layRegions 314 = .ok (.iinc 2 1, 3) := by decide +kernel
theorem dX12_layRegions_317 : decode cX12_layRegions 317 = .ok (.goto (-63), 3) := by decide +kernel
theorem dX12_layRegions_320 : decode cX12_layRegions 320 = .ok (.iinc 1 1, 3) := by decide +kernel
theorem dX12_layRegions_323 : decode cX12_layRegions 323 = .ok (.goto (-81), 3) := by decide +kernel
theorem dX12_layRegions_326 : decode cX12_layRegions 326 = .ok (.iconst 0, 1) := by decide +kernel
theorem dX12_layRegions_327 : decode cX12_layRegions 327 = .ok (.istore_n 1, 1) := by decide +kernel
theorem dX12_layRegions_328 : decode cX12_layRegions 328 = .ok (.iload_n 1, 1) := by decide +kernel
theorem dX12_layRegions_329 : decode cX12_layRegions 329 = .ok (.aload_n 0, 1) := by decide +kernel
theorem dX12_layRegions_330 : decode cX12_layRegions 330 = .ok (.getfield 98, 3) := by decide +kernel
theorem dX12_layRegions_333 : decode cX12_layRegions 333 = .ok (.iconst 0, 1) := by decide +kernel
theorem dX12_layRegions_334 : decode cX12_layRegions 334 = .ok (.iaload, 1) := by decide +kernel
theorem dX12_layRegions_335 : decode cX12_layRegions 335 = .ok (.if_icmp .ge 14, 3) := by decide +kernel
theorem dX12_layRegions_338 : decode cX12_layRegions 338 = .ok (.aload_n 0, 1) := by decide +kernel
theorem dX12_layRegions_339 : decode cX12_layRegions 339 = .ok (.iload_n 1, 1) := by decide +kernel
theorem dX12_layRegions_340 : decode cX12_layRegions 340 = .ok (.invokevirtual 294, 3) := by decide +kernel
theorem dX12_layRegions_343 : decode cX12_layRegions 343 = .ok (.iinc 1 1, 3) := by decide +kernel
theorem dX12_layRegions_346 : decode cX12_layRegions 346 = .ok (.goto (-18), 3) := by decide +kernel
theorem dX12_layRegions_349 : decode cX12_layRegions 349 = .ok (.return_, 1) := by decide +kernel
theorem dX12_isFun_0 : decode cX12_isFun 0 = .ok (.iload_n 1, 1) := by decide +kernel
theorem dX12_isFun_1 : decode cX12_isFun 1 = .ok (.iconst 0, 1) := by decide +kernel
theorem dX12_isFun_2 : decode cX12_isFun 2 = .ok (.aload_n 0, 1) := by decide +kernel
theorem dX12_isFun_3 : decode cX12_isFun 3 = .ok (.getfield 98, 3) := by decide +kernel
theorem dX12_isFun_6 : decode cX12_isFun 6 = .ok (.iconst 0, 1) := by decide +kernel
theorem dX12_isFun_7 : decode cX12_isFun 7 = .ok (.iaload, 1) := by decide +kernel
theorem dX12_isFun_8 : decode cX12_isFun 8 = .ok (.iconst 1, 1) := by decide +kernel
theorem dX12_isFun_9 : decode cX12_isFun 9 = .ok (.isub, 1) := by decide +kernel
theorem dX12_isFun_10 : decode cX12_isFun 10 = .ok (.invokestatic 75, 3) := by decide +kernel
theorem dX12_isFun_13 : decode cX12_isFun 13 = .ok (.ireturn, 1) := by decide +kernel
theorem dX12_isRegion_0 : decode cX12_isRegion 0 = .ok (.iload_n 1, 1) := by decide +kernel
theorem dX12_isRegion_1 : decode cX12_isRegion 1 = .ok (.iconst 0, 1) := by decide +kernel
theorem dX12_isRegion_2 : decode cX12_isRegion 2 = .ok (.aload_n 0, 1) := by decide +kernel
theorem dX12_isRegion_3 : decode cX12_isRegion 3 = .ok (.getfield 98, 3) := by decide +kernel
theorem dX12_isRegion_6 : decode cX12_isRegion 6 = .ok (.iconst 2, 1) := by decide +kernel
theorem dX12_isRegion_7 : decode cX12_isRegion 7 = .ok (.iaload, 1) := by decide +kernel
theorem dX12_isRegion_8 : decode cX12_isRegion 8 = .ok (.iconst 1, 1) := by decide +kernel
theorem dX12_isRegion_9 : decode cX12_isRegion 9 = .ok (.isub, 1) := by decide +kernel
theorem dX12_isRegion_10 : decode cX12_isRegion 10 = .ok (.invokestatic 75, 3) := by decide +kernel
theorem dX12_isRegion_13 : decode cX12_isRegion 13 = .ok (.ireturn, 1) := by decide +kernel
theorem dX12_mainFun_0 : decode cX12_mainFun 0 = .ok (.aload_n 0, 1) := by decide +kernel
theorem dX12_mainFun_1 : decode cX12_mainFun 1 = .ok (.getfield 98, 3) := by decide +kernel
theorem dX12_mainFun_4 : decode cX12_mainFun 4 = .ok (.iconst 0, 1) := by decide +kernel
theorem dX12_mainFun_5 : decode cX12_mainFun 5 = .ok (.iaload, 1) := by decide +kernel
theorem dX12_mainFun_6 : decode cX12_mainFun 6 = .ok (.iconst 1, 1) := by decide +kernel
theorem dX12_mainFun_7 : decode cX12_mainFun 7 = .ok (.isub, 1) := by decide +kernel
theorem dX12_mainFun_8 : decode cX12_mainFun 8 = .ok (.ireturn, 1) := by decide +kernel
theorem dX12_ownersOf_0 : decode cX12_ownersOf 0 = .ok (.iconst 0, 1) := by decide +kernel
theorem dX12_ownersOf_1 : decode cX12_ownersOf 1 = .ok (.istore_n 2, 1) := by decide +kernel
theorem dX12_ownersOf_2 : decode cX12_ownersOf 2 = .ok (.iconst 0, 1) := by decide +kernel
theorem dX12_ownersOf_3 : decode cX12_ownersOf 3 = .ok (.istore_n 3, 1) := by decide +kernel
theorem dX12_ownersOf_4 : decode cX12_ownersOf 4 = .ok (.iload_n 3, 1) := by decide +kernel
theorem dX12_ownersOf_5 : decode cX12_ownersOf 5 = .ok (.aload_n 0, 1) := by decide +kernel
theorem dX12_ownersOf_6 : decode cX12_ownersOf 6 = .ok (.getfield 98, 3) := by decide +kernel
theorem dX12_ownersOf_9 : decode cX12_ownersOf 9 = .ok (.iconst 0, 1) := by decide +kernel
theorem dX12_ownersOf_10 : decode cX12_ownersOf 10 = .ok (.iaload, 1) := by decide +kernel
theorem dX12_ownersOf_11 : decode cX12_ownersOf 11 = .ok (.if_icmp .ge 28, 3) := by decide +kernel
theorem dX12_ownersOf_14 : decode cX12_ownersOf 14 = .ok (.aload_n 0, 1) := by decide +kernel
theorem dX12_ownersOf_15 : decode cX12_ownersOf 15 = .ok (.getfield 151, 3) := by decide +kernel
theorem dX12_ownersOf_18 : decode cX12_ownersOf 18 = .ok (.iload_n 3, 1) := by decide +kernel
theorem dX12_ownersOf_19 : decode cX12_ownersOf 19 = .ok (.iaload, 1) := by decide +kernel
theorem dX12_ownersOf_20 : decode cX12_ownersOf 20 = .ok (.iload_n 1, 1) := by decide +kernel
theorem dX12_ownersOf_21 : decode cX12_ownersOf 21 = .ok (.invokestatic 276, 3) := by decide +kernel
theorem dX12_ownersOf_24 : decode cX12_ownersOf 24 = .ok (.ifCond .eq 9, 3) := by decide +kernel
theorem dX12_ownersOf_27 : decode cX12_ownersOf 27 = .ok (.iload_n 2, 1) := by decide +kernel
theorem dX12_ownersOf_28 : decode cX12_ownersOf 28 = .ok (.iconst 1, 1) := by decide +kernel
theorem dX12_ownersOf_29 : decode cX12_ownersOf 29 = .ok (.iload_n 3, 1) := by decide +kernel
theorem dX12_ownersOf_30 : decode cX12_ownersOf 30 = .ok (.ishl, 1) := by decide +kernel
theorem dX12_ownersOf_31 : decode cX12_ownersOf 31 = .ok (.ior, 1) := by decide +kernel
theorem dX12_ownersOf_32 : decode cX12_ownersOf 32 = .ok (.istore_n 2, 1) := by decide +kernel
theorem dX12_ownersOf_33 : decode cX12_ownersOf 33 = .ok (.iinc 3 1, 3) := by decide +kernel
theorem dX12_ownersOf_36 : decode cX12_ownersOf 36 = .ok (.goto (-32), 3) := by decide +kernel
theorem dX12_ownersOf_39 : decode cX12_ownersOf 39 = .ok (.iload_n 2, 1) := by decide +kernel
theorem dX12_ownersOf_40 : decode cX12_ownersOf 40 = .ok (.ireturn, 1) := by decide +kernel
theorem dX12_isOuter_0 : decode cX12_isOuter 0 = .ok (.aload_n 0, 1) := by decide +kernel
theorem dX12_isOuter_1 : decode cX12_isOuter 1 = .ok (.getfield 148, 3) := by decide +kernel
theorem dX12_isOuter_4 : decode cX12_isOuter 4 = .ok (.aload_n 0, 1) := by decide +kernel
theorem dX12_isOuter_5 : decode cX12_isOuter 5 = .ok (.invokevirtual 297, 3) := by decide +kernel
theorem dX12_isOuter_8 : decode cX12_isOuter 8 = .ok (.iaload, 1) := by decide +kernel
theorem dX12_isOuter_9 : decode cX12_isOuter 9 = .ok (.iload_n 1, 1) := by decide +kernel
theorem dX12_isOuter_10 : decode cX12_isOuter 10 = .ok (.invokestatic 276, 3) := by decide +kernel
theorem dX12_isOuter_13 : decode cX12_isOuter 13 = .ok (.ireturn, 1) := by decide +kernel
theorem dX12_isFinite_0 : decode cX12_isFinite 0 = .ok (.aload_n 0, 1) := by decide +kernel
theorem dX12_isFinite_1 : decode cX12_isFinite 1 = .ok (.iload_n 1, 1) := by decide +kernel
theorem dX12_isFinite_2 : decode cX12_isFinite 2 = .ok (.invokevirtual 300, 3) := by decide +kernel
theorem dX12_isFinite_5 : decode cX12_isFinite 5 = .ok (.ifCond .ne 35, 3) := by decide +kernel
theorem dX12_isFinite_8 : decode cX12_isFinite 8 = .ok (.aload_n 0, 1) := by decide +kernel
theorem dX12_isFinite_9 : decode cX12_isFinite 9 = .ok (.getfield 160, 3) := by decide +kernel
theorem dX12_isFinite_12 : decode cX12_isFinite 12 = .ok (.iload_n 1, 1) := by decide +kernel
theorem dX12_isFinite_13 : decode cX12_isFinite 13 = .ok (.iaload, 1) := by decide +kernel
theorem dX12_isFinite_14 : decode cX12_isFinite 14 = .ok (.invokestatic 303, 3) := by decide +kernel
theorem dX12_isFinite_17 : decode cX12_isFinite 17 = .ok (.iconst 1, 1) := by decide +kernel
theorem dX12_isFinite_18 : decode cX12_isFinite 18 = .ok (.if_icmp .ne 22, 3) := by decide +kernel
theorem dX12_isFinite_21 : decode cX12_isFinite 21 = .ok (.aload_n 0, 1) := by decide +kernel
theorem dX12_isFinite_22 : decode cX12_isFinite 22 = .ok (.iload_n 1, 1) := by decide +kernel
theorem dX12_isFinite_23 : decode cX12_isFinite 23 = .ok (.invokevirtual 306, 3) := by decide +kernel
theorem dX12_isFinite_26 : decode cX12_isFinite 26 = .ok (.aload_n 0, 1) := by decide +kernel
theorem dX12_isFinite_27 : decode cX12_isFinite 27 = .ok (.getfield 160, 3) := by decide +kernel
theorem dX12_isFinite_30 : decode cX12_isFinite 30 = .ok (.iload_n 1, 1) := by decide +kernel
theorem dX12_isFinite_31 : decode cX12_isFinite 31 = .ok (.iaload, 1) := by decide +kernel
theorem dX12_isFinite_32 : decode cX12_isFinite 32 = .ok (.iand, 1) := by decide +kernel
theorem dX12_isFinite_33 : decode cX12_isFinite 33 = .ok (.ifCond .eq 7, 3) := by decide +kernel
theorem dX12_isFinite_36 : decode cX12_isFinite 36 = .ok (.iconst 1, 1) := by decide +kernel
theorem dX12_isFinite_37 : decode cX12_isFinite 37 = .ok (.goto 4, 3) := by decide +kernel
theorem dX12_isFinite_40 : decode cX12_isFinite 40 = .ok (.iconst 0, 1) := by decide +kernel
theorem dX12_isFinite_41 : decode cX12_isFinite 41 = .ok (.ireturn, 1) := by decide +kernel
theorem dX12_calledBy_0 : decode cX12_calledBy 0 = .ok (.iconst 0, 1) := by decide +kernel
theorem dX12_calledBy_1 : decode cX12_calledBy 1 = .ok (.istore_n 2, 1) := by decide +kernel
theorem dX12_calledBy_2 : decode cX12_calledBy 2 = .ok (.iconst 0, 1) := by decide +kernel
theorem dX12_calledBy_3 : decode cX12_calledBy 3 = .ok (.istore_n 3, 1) := by decide +kernel
theorem dX12_calledBy_4 : decode cX12_calledBy 4 = .ok (.iload_n 3, 1) := by decide +kernel
theorem dX12_calledBy_5 : decode cX12_calledBy 5 = .ok (.aload_n 0, 1) := by decide +kernel
theorem dX12_calledBy_6 : decode cX12_calledBy 6 = .ok (.getfield 98, 3) := by decide +kernel
theorem dX12_calledBy_9 : decode cX12_calledBy 9 = .ok (.bipush 13, 2) := by decide +kernel
theorem dX12_calledBy_11 : decode cX12_calledBy 11 = .ok (.iload_n 1, 1) := by decide +kernel
theorem dX12_calledBy_12 : decode cX12_calledBy 12 = .ok (.iadd, 1) := by decide +kernel
theorem dX12_calledBy_13 : decode cX12_calledBy 13 = .ok (.iaload, 1) := by decide +kernel
theorem dX12_calledBy_14 : decode cX12_calledBy 14 = .ok (.if_icmp .ge 57, 3) := by decide +kernel
theorem dX12_calledBy_17 : decode cX12_calledBy 17 = .ok (.aload_n 0, 1) := by decide +kernel
theorem dX12_calledBy_18 : decode cX12_calledBy 18 = .ok (.getfield 98, 3) := by decide +kernel
theorem dX12_calledBy_21 : decode cX12_calledBy 21 = .ok (.bipush 18, 2) := by decide +kernel
theorem dX12_calledBy_23 : decode cX12_calledBy 23 = .ok (.aload_n 0, 1) := by decide +kernel
theorem dX12_calledBy_24 : decode cX12_calledBy 24 = .ok (.getfield 98, 3) := by decide +kernel
theorem dX12_calledBy_27 : decode cX12_calledBy 27 = .ok (.bipush 8, 2) := by decide +kernel
theorem dX12_calledBy_29 : decode cX12_calledBy 29 = .ok (.iload_n 1, 1) := by decide +kernel
theorem dX12_calledBy_30 : decode cX12_calledBy 30 = .ok (.iadd, 1) := by decide +kernel
theorem dX12_calledBy_31 : decode cX12_calledBy 31 = .ok (.iaload, 1) := by decide +kernel
theorem dX12_calledBy_32 : decode cX12_calledBy 32 = .ok (.iadd, 1) := by decide +kernel
theorem dX12_calledBy_33 : decode cX12_calledBy 33 = .ok (.iload_n 3, 1) := by decide +kernel
theorem dX12_calledBy_34 : decode cX12_calledBy 34 = .ok (.iadd, 1) := by decide +kernel
theorem dX12_calledBy_35 : decode cX12_calledBy 35 = .ok (.iaload, 1) := by decide +kernel
theorem dX12_calledBy_36 : decode cX12_calledBy 36 = .ok (.bipush 8, 2) := by decide +kernel
theorem dX12_calledBy_38 : decode cX12_calledBy 38 = .ok (.if_icmp .lt 27, 3) := by decide +kernel
theorem dX12_calledBy_41 : decode cX12_calledBy 41 = .ok (.iload_n 2, 1) := by decide +kernel
theorem dX12_calledBy_42 : decode cX12_calledBy 42 = .ok (.iconst 1, 1) := by decide +kernel
theorem dX12_calledBy_43 : decode cX12_calledBy 43 = .ok (.aload_n 0, 1) := by decide +kernel
theorem dX12_calledBy_44 : decode cX12_calledBy 44 = .ok (.getfield 98, 3) := by decide +kernel
theorem dX12_calledBy_47 : decode cX12_calledBy 47 = .ok (.bipush 42, 2) := by decide +kernel
theorem dX12_calledBy_49 : decode cX12_calledBy 49 = .ok (.aload_n 0, 1) := by decide +kernel
theorem dX12_calledBy_50 : decode cX12_calledBy 50 = .ok (.getfield 98, 3) := by decide +kernel
theorem dX12_calledBy_53 : decode cX12_calledBy 53 = .ok (.bipush 8, 2) := by decide +kernel
theorem dX12_calledBy_55 : decode cX12_calledBy 55 = .ok (.iload_n 1, 1) := by decide +kernel
theorem dX12_calledBy_56 : decode cX12_calledBy 56 = .ok (.iadd, 1) := by decide +kernel
theorem dX12_calledBy_57 : decode cX12_calledBy 57 = .ok (.iaload, 1) := by decide +kernel
theorem dX12_calledBy_58 : decode cX12_calledBy 58 = .ok (.iadd, 1) := by decide +kernel
theorem dX12_calledBy_59 : decode cX12_calledBy 59 = .ok (.iload_n 3, 1) := by decide +kernel
theorem dX12_calledBy_60 : decode cX12_calledBy 60 = .ok (.iadd, 1) := by decide +kernel
theorem dX12_calledBy_61 : decode cX12_calledBy 61 = .ok (.iaload, 1) := by decide +kernel
theorem dX12_calledBy_62 : decode cX12_calledBy 62 = .ok (.ishl, 1) := by decide +kernel
theorem dX12_calledBy_63 : decode cX12_calledBy 63 = .ok (.ior, 1) := by decide +kernel
theorem dX12_calledBy_64 : decode cX12_calledBy 64 = .ok (.istore_n 2, 1) := by decide +kernel
theorem dX12_calledBy_65 : decode cX12_calledBy 65 = .ok (.iinc 3 1, 3) := by decide +kernel
theorem dX12_calledBy_68 : decode cX12_calledBy 68 = .ok (.goto (-64), 3) := by decide +kernel
theorem dX12_calledBy_71 : decode cX12_calledBy 71 = .ok (.iload_n 2, 1) := by decide +kernel
theorem dX12_calledBy_72 : decode cX12_calledBy 72 = .ok (.ireturn, 1) := by decide +kernel
theorem dX12_isLeft_0 : decode cX12_isLeft 0 = .ok (.aload_n 0, 1) := by decide +kernel
theorem dX12_isLeft_1 : decode cX12_isLeft 1 = .ok (.getfield 98, 3) := by decide +kernel
theorem dX12_isLeft_4 : decode cX12_isLeft 4 = .ok (.bipush 13, 2) := by decide +kernel
theorem dX12_isLeft_6 : decode cX12_isLeft 6 = .ok (.iload_n 1, 1) := by decide +kernel
theorem dX12_isLeft_7 : decode cX12_isLeft 7 = .ok (.iadd, 1) := by decide +kernel
theorem dX12_isLeft_8 : decode cX12_isLeft 8 = .ok (.iaload, 1) := by decide +kernel
theorem dX12_isLeft_9 : decode cX12_isLeft 9 = .ok (.iconst 1, 1) := by decide +kernel
theorem dX12_isLeft_10 : decode cX12_isLeft 10 = .ok (.isub, 1) := by decide +kernel
theorem dX12_isLeft_11 : decode cX12_isLeft 11 = .ok (.istore_n 2, 1) := by decide +kernel
theorem dX12_isLeft_12 : decode cX12_isLeft 12 = .ok (.aload_n 0, 1) := by decide +kernel
theorem dX12_isLeft_13 : decode cX12_isLeft 13 = .ok (.getfield 98, 3) := by decide +kernel
theorem dX12_isLeft_16 : decode cX12_isLeft 16 = .ok (.bipush 18, 2) := by decide +kernel
theorem dX12_isLeft_18 : decode cX12_isLeft 18 = .ok (.aload_n 0, 1) := by decide +kernel
theorem dX12_isLeft_19 : decode cX12_isLeft 19 = .ok (.getfield 98, 3) := by decide +kernel
theorem dX12_isLeft_22 : decode cX12_isLeft 22 = .ok (.bipush 8, 2) := by decide +kernel
theorem dX12_isLeft_24 : decode cX12_isLeft 24 = .ok (.iload_n 1, 1) := by decide +kernel
theorem dX12_isLeft_25 : decode cX12_isLeft 25 = .ok (.iadd, 1) := by decide +kernel
theorem dX12_isLeft_26 : decode cX12_isLeft 26 = .ok (.iaload, 1) := by decide +kernel
theorem dX12_isLeft_27 : decode cX12_isLeft 27 = .ok (.iadd, 1) := by decide +kernel
theorem dX12_isLeft_28 : decode cX12_isLeft 28 = .ok (.iload_n 2, 1) := by decide +kernel
theorem dX12_isLeft_29 : decode cX12_isLeft 29 = .ok (.iadd, 1) := by decide +kernel
theorem dX12_isLeft_30 : decode cX12_isLeft 30 = .ok (.iaload, 1) := by decide +kernel
theorem dX12_isLeft_31 : decode cX12_isLeft 31 = .ok (.bipush 8, 2) := by decide +kernel
theorem dX12_isLeft_33 : decode cX12_isLeft 33 = .ok (.if_icmp .ge 5, 3) := by decide +kernel
theorem dX12_isLeft_36 : decode cX12_isLeft 36 = .ok (.iconst 0, 1) := by decide +kernel
theorem dX12_isLeft_37 : decode cX12_isLeft 37 = .ok (.ireturn, 1) := by decide +kernel
theorem dX12_isLeft_38 : decode cX12_isLeft 38 = .ok (.iconst 0, 1) := by decide +kernel
theorem dX12_isLeft_39 : decode cX12_isLeft 39 = .ok (.istore_n 3, 1) := by decide +kernel
theorem dX12_isLeft_40 : decode cX12_isLeft 40 = .ok (.iload_n 3, 1) := by decide +kernel
theorem dX12_isLeft_41 : decode cX12_isLeft 41 = .ok (.aload_n 0, 1) := by decide +kernel
theorem dX12_isLeft_42 : decode cX12_isLeft 42 = .ok (.getfield 98, 3) := by decide +kernel
theorem dX12_isLeft_45 : decode cX12_isLeft 45 = .ok (.iconst 2, 1) := by decide +kernel
theorem dX12_isLeft_46 : decode cX12_isLeft 46 = .ok (.iaload, 1) := by decide +kernel
theorem dX12_isLeft_47 : decode cX12_isLeft 47 = .ok (.if_icmp .ge 26, 3) := by decide +kernel
theorem dX12_isLeft_50 : decode cX12_isLeft 50 = .ok (.aload_n 0, 1) := by decide +kernel
theorem dX12_isLeft_51 : decode cX12_isLeft 51 = .ok (.getfield 157, 3) := by decide +kernel
theorem dX12_isLeft_54 : decode cX12_isLeft 54 = .ok (.bipush 24, 2) := by decide +kernel
theorem dX12_isLeft_56 : decode cX12_isLeft 56 = .ok (.iload_n 1, 1) := by decide +kernel
theorem dX12_isLeft_57 : decode cX12_isLeft 57 = .ok (.imul, 1) := by decide +kernel
theorem dX12_isLeft_58 : decode cX12_isLeft 58 = .ok (.iload_n 3, 1) := by decide +kernel
theorem dX12_isLeft_59 : decode cX12_isLeft 59 = .ok (.iadd, 1) := by decide +kernel
theorem dX12_isLeft_60 : decode cX12_isLeft 60 = .ok (.iaload, 1) := by decide +kernel
theorem dX12_isLeft_61 : decode cX12_isLeft 61 = .ok (.iload_n 2, 1) := by decide +kernel
theorem dX12_isLeft_62 : decode cX12_isLeft 62 = .ok (.if_icmp .ne 5, 3) := by decide +kernel
theorem dX12_isLeft_65 : decode cX12_isLeft 65 = .ok (.iconst 0, 1) := by decide +kernel
theorem dX12_isLeft_66 : decode cX12_isLeft 66 = .ok (.ireturn, 1) := by decide +kernel
theorem dX12_isLeft_67 : decode cX12_isLeft 67 = .ok (.iinc 3 1, 3) := by decide +kernel
theorem dX12_isLeft_70 : decode cX12_isLeft 70 = .ok (.goto (-30), 3) := by decide +kernel
theorem dX12_isLeft_73 : decode cX12_isLeft 73 = .ok (.iconst 1, 1) := by decide +kernel
theorem dX12_isLeft_74 : decode cX12_isLeft 74 = .ok (.ireturn, 1) := by decide +kernel
theorem dX12_fun_0 : decode cX12_fun 0 = .ok (.aload_n 0, 1) := by decide +kernel
theorem dX12_fun_1 : decode cX12_fun 1 = .ok (.iconst 0, 1) := by decide +kernel
theorem dX12_fun_2 : decode cX12_fun 2 = .ok (.putfield 1, 3) := by decide +kernel
theorem dX12_fun_5 : decode cX12_fun 5 = .ok (.aload_n 0, 1) := by decide +kernel
theorem dX12_fun_6 : decode cX12_fun 6 = .ok (.iload_n 1, 1) := by decide +kernel
theorem dX12_fun_7 : decode cX12_fun 7 = .ok (.invokevirtual 309, 3) := by decide +kernel
theorem dX12_fun_10 : decode cX12_fun 10 = .ok (.ifCond .ne 8, 3) := by decide +kernel
theorem dX12_fun_13 : decode cX12_fun 13 = .ok (.aload_n 0, 1) := by decide +kernel
theorem dX12_fun_14 : decode cX12_fun 14 = .ok (.invokevirtual 312, 3) := by decide +kernel
theorem dX12_fun_17 : decode cX12_fun 17 = .ok (.ireturn, 1) := by decide +kernel
theorem dX12_fun_18 : decode cX12_fun 18 = .ok (.iload_n 2, 1) := by decide +kernel
theorem dX12_fun_19 : decode cX12_fun 19 = .ok (.tableswitch 90 0 5 #[37, 46, 56, 62, 69, 76], 37) := by decide +kernel
theorem dX12_fun_56 : decode cX12_fun 56 = .ok (.aload_n 0, 1) := by decide +kernel
theorem dX12_fun_57 : decode cX12_fun 57 = .ok (.getfield 98, 3) := by decide +kernel
theorem dX12_fun_60 : decode cX12_fun 60 = .ok (.iconst 3, 1) := by decide +kernel
theorem dX12_fun_61 : decode cX12_fun 61 = .ok (.iload_n 1, 1) := by decide +kernel
theorem dX12_fun_62 : decode cX12_fun 62 = .ok (.iadd, 1) := by decide +kernel
theorem dX12_fun_63 : decode cX12_fun 63 = .ok (.iaload, 1) := by decide +kernel
theorem dX12_fun_64 : decode cX12_fun 64 = .ok (.ireturn, 1) := by decide +kernel
theorem dX12_fun_65 : decode cX12_fun 65 = .ok (.aload_n 0, 1) := by decide +kernel
theorem dX12_fun_66 : decode cX12_fun 66 = .ok (.getfield 98, 3) := by decide +kernel
theorem dX12_fun_69 : decode cX12_fun 69 = .ok (.bipush 13, 2) := by decide +kernel
theorem dX12_fun_71 : decode cX12_fun 71 = .ok (.iload_n 1, 1) := by decide +kernel
theorem dX12_fun_72 : decode cX12_fun 72 = .ok (.iadd, 1) := by decide +kernel
theorem dX12_fun_73 : decode cX12_fun 73 = .ok (.iaload, 1) := by decide +kernel
theorem dX12_fun_74 : decode cX12_fun 74 = .ok (.ireturn, 1) := by decide +kernel
theorem dX12_fun_75 : decode cX12_fun 75 = .ok (.aload_n 0, 1) := by decide +kernel
theorem dX12_fun_76 : decode cX12_fun 76 = .ok (.iload_n 1, 1) := by decide +kernel
theorem dX12_fun_77 : decode cX12_fun 77 = .ok (.invokevirtual 315, 3) := by decide +kernel
theorem dX12_fun_80 : decode cX12_fun 80 = .ok (.ireturn, 1) := by decide +kernel
theorem dX12_fun_81 : decode cX12_fun 81 = .ok (.aload_n 0, 1) := by decide +kernel
theorem dX12_fun_82 : decode cX12_fun 82 = .ok (.getfield 148, 3) := by decide +kernel
theorem dX12_fun_85 : decode cX12_fun 85 = .ok (.iload_n 1, 1) := by decide +kernel
theorem dX12_fun_86 : decode cX12_fun 86 = .ok (.iaload, 1) := by decide +kernel
theorem dX12_fun_87 : decode cX12_fun 87 = .ok (.ireturn, 1) := by decide +kernel
theorem dX12_fun_88 : decode cX12_fun 88 = .ok (.aload_n 0, 1) := by decide +kernel
theorem dX12_fun_89 : decode cX12_fun 89 = .ok (.getfield 151, 3) := by decide +kernel
theorem dX12_fun_92 : decode cX12_fun 92 = .ok (.iload_n 1, 1) := by decide +kernel
theorem dX12_fun_93 : decode cX12_fun 93 = .ok (.iaload, 1) := by decide +kernel
theorem dX12_fun_94 : decode cX12_fun 94 = .ok (.ireturn, 1) := by decide +kernel
theorem dX12_fun_95 : decode cX12_fun 95 = .ok (.aload_n 0, 1) := by decide +kernel
theorem dX12_fun_96 : decode cX12_fun 96 = .ok (.iload_n 1, 1) := by decide +kernel
theorem dX12_fun_97 : decode cX12_fun 97 = .ok (.invokevirtual 318, 3) := by decide +kernel
theorem dX12_fun_100 : decode cX12_fun 100 = .ok (.ifCond .eq 7, 3) := by decide +kernel
theorem dX12_fun_103 : decode cX12_fun 103 = .ok (.iconst 1, 1) := by decide +kernel
theorem dX12_fun_104 : decode cX12_fun 104 = .ok (.goto 4, 3) := by decide +kernel
theorem dX12_fun_107 : decode cX12_fun 107 = .ok (.iconst 0, 1) := by decide +kernel
theorem dX12_fun_108 : decode cX12_fun 108 = .ok (.ireturn, 1) := by decide +kernel
theorem dX12_fun_109 : decode cX12_fun 109 = .ok (.aload_n 0, 1) := by decide +kernel
theorem dX12_fun_110 : decode cX12_fun 110 = .ok (.invokevirtual 312, 3) := by decide +kernel
theorem dX12_fun_113 : decode cX12_fun 113 = .ok (.ireturn, 1) := by decide +kernel
theorem dX12_points_0 : decode cX12_points 0 = .ok (.aload_n 0, 1) := by decide +kernel
theorem dX12_points_1 : decode cX12_points 1 = .ok (.iconst 0, 1) := by decide +kernel
theorem dX12_points_2 : decode cX12_points 2 = .ok (.putfield 1, 3) := by decide +kernel
theorem dX12_points_5 : decode cX12_points 5 = .ok (.aload_n 0, 1) := by decide +kernel
theorem dX12_points_6 : decode cX12_points 6 = .ok (.iload_n 1, 1) := by decide +kernel
theorem dX12_points_7 : decode cX12_points 7 = .ok (.invokevirtual 309, 3) := by decide +kernel
theorem dX12_points_10 : decode cX12_points 10 = .ok (.ifCond .eq 36, 3) := by decide +kernel
theorem dX12_points_13 : decode cX12_points 13 = .ok (.iload_n 2, 1) := by decide +kernel
theorem dX12_points_14 : decode cX12_points 14 = .ok (.iconst 0, 1) := by decide +kernel
theorem dX12_points_15 : decode cX12_points 15 = .ok (.aload_n 0, 1) := by decide +kernel
theorem dX12_points_16 : decode cX12_points 16 = .ok (.aload_n 0, 1) := by decide +kernel
theorem dX12_points_17 : decode cX12_points 17 = .ok (.getfield 98, 3) := by decide +kernel
theorem dX12_points_20 : decode cX12_points 20 = .ok (.iload_n 1, 1) := by decide +kernel
theorem dX12_points_21 : decode cX12_points 21 = .ok (.invokevirtual 193, 3) := by decide +kernel
theorem dX12_points_24 : decode cX12_points 24 = .ok (.iconst 1, 1) := by decide +kernel
theorem dX12_points_25 : decode cX12_points 25 = .ok (.isub, 1) := by decide +kernel
theorem dX12_points_26 : decode cX12_points 26 = .ok (.invokestatic 75, 3) := by decide +kernel
theorem dX12_points_29 : decode cX12_points 29 = .ok (.ifCond .eq 17, 3) := by decide +kernel
theorem dX12_points_32 : decode cX12_points 32 = .ok (.aload_n 0, 1) := by decide +kernel
theorem dX12_points_33 : decode cX12_points 33 = .ok (.getfield 139, 3) := by decide +kernel
theorem dX12_points_36 : decode cX12_points 36 = .ok (.aload_n 0, 1) := by decide +kernel
theorem dX12_points_37 : decode cX12_points 37 = .ok (.iload_n 1, 1) := by decide +kernel
theorem dX12_points_38 : decode cX12_points 38 = .ok (.iload_n 2, 1) := by decide +kernel
theorem dX12_points_39 : decode cX12_points 39 = .ok (.invokevirtual 265, 3) := by decide +kernel
theorem dX12_points_42 : decode cX12_points 42 = .ok (.iaload, 1) := by decide +kernel
theorem dX12_points_43 : decode cX12_points 43 = .ok (.goto 4, 3) := by decide +kernel
theorem dX12_points_46 : decode cX12_points 46 = .ok (.iconst (-1), 1) := by decide +kernel
theorem dX12_points_47 : decode cX12_points 47 = .ok (.ireturn, 1) := by decide +kernel
theorem dX12_roomsOf_0 : decode cX12_roomsOf 0 = .ok (.iconst 0, 1) := by decide +kernel
theorem dX12_roomsOf_1 : decode cX12_roomsOf 1 = .ok (.istore_n 2, 1) := by decide +kernel
theorem dX12_roomsOf_2 : decode cX12_roomsOf 2 = .ok (.iconst 0, 1) := by decide +kernel
theorem dX12_roomsOf_3 : decode cX12_roomsOf 3 = .ok (.istore_n 3, 1) := by decide +kernel
theorem dX12_roomsOf_4 : decode cX12_roomsOf 4 = .ok (.iload_n 3, 1) := by decide +kernel
theorem dX12_roomsOf_5 : decode cX12_roomsOf 5 = .ok (.aload_n 0, 1) := by decide +kernel
theorem dX12_roomsOf_6 : decode cX12_roomsOf 6 = .ok (.getfield 98, 3) := by decide +kernel
theorem dX12_roomsOf_9 : decode cX12_roomsOf 9 = .ok (.sipush 214, 3) := by decide +kernel
theorem dX12_roomsOf_12 : decode cX12_roomsOf 12 = .ok (.iaload, 1) := by decide +kernel
theorem dX12_roomsOf_13 : decode cX12_roomsOf 13 = .ok (.if_icmp .ge 26, 3) := by decide +kernel
theorem dX12_roomsOf_16 : decode cX12_roomsOf 16 = .ok (.aload_n 0, 1) := by decide +kernel
theorem dX12_roomsOf_17 : decode cX12_roomsOf 17 = .ok (.getfield 98, 3) := by decide +kernel
theorem dX12_roomsOf_20 : decode cX12_roomsOf 20 = .ok (.sipush 2093, 3) := by decide +kernel
theorem dX12_roomsOf_23 : decode cX12_roomsOf 23 = .ok (.iload_n 3, 1) := by decide +kernel
theorem dX12_roomsOf_24 : decode cX12_roomsOf 24 = .ok (.iadd, 1) := by decide +kernel
theorem dX12_roomsOf_25 : decode cX12_roomsOf 25 = .ok (.iaload, 1) := by decide +kernel
theorem dX12_roomsOf_26 : decode cX12_roomsOf 26 = .ok (.iload_n 1, 1) := by decide +kernel
theorem dX12_roomsOf_27 : decode cX12_roomsOf 27 = .ok (.if_icmp .ne 6, 3) := by decide +kernel
theorem dX12_roomsOf_30 : decode cX12_roomsOf 30 = .ok (.iinc 2 1, 3) := by decide +kernel
theorem dX12_roomsOf_33 : decode cX12_roomsOf 33 = .ok (.iinc 3 1, 3) := by decide +kernel
theorem dX12_roomsOf_36 : decode cX12_roomsOf 36 = .ok (.goto (-32), 3) := by decide +kernel
theorem dX12_roomsOf_39 : decode cX12_roomsOf 39 = .ok (.iload_n 2, 1) := by decide +kernel
theorem dX12_roomsOf_40 : decode cX12_roomsOf 40 = .ok (.ireturn, 1) := by decide +kernel
theorem dX12_cellsOf_0 : decode cX12_cellsOf 0 = .ok (.iconst 0, 1) := by decide +kernel
theorem dX12_cellsOf_1 : decode cX12_cellsOf 1 = .ok (.istore_n 2, 1) := by decide +kernel
theorem dX12_cellsOf_2 : decode cX12_cellsOf 2 = .ok (.iconst 0, 1) := by decide +kernel
theorem dX12_cellsOf_3 : decode cX12_cellsOf 3 = .ok (.istore_n 3, 1) := by decide +kernel
theorem dX12_cellsOf_4 : decode cX12_cellsOf 4 = .ok (.iload_n 3, 1) := by decide +kernel
theorem dX12_cellsOf_5 : decode cX12_cellsOf 5 = .ok (.sipush 200, 3) := by decide +kernel
theorem dX12_cellsOf_8 : decode cX12_cellsOf 8 = .ok (.if_icmp .ge 26, 3) := by decide +kernel
theorem dX12_cellsOf_11 : decode cX12_cellsOf 11 = .ok (.aload_n 0, 1) := by decide +kernel
theorem dX12_cellsOf_12 : decode cX12_cellsOf 12 = .ok (.getfield 98, 3) := by decide +kernel
theorem dX12_cellsOf_15 : decode cX12_cellsOf 15 = .ok (.sipush 893, 3) := by decide +kernel
theorem dX12_cellsOf_18 : decode cX12_cellsOf 18 = .ok (.iload_n 3, 1) := by decide +kernel
theorem dX12_cellsOf_19 : decode cX12_cellsOf 19 = .ok (.iadd, 1) := by decide +kernel
theorem dX12_cellsOf_20 : decode cX12_cellsOf 20 = .ok (.iaload, 1) := by decide +kernel
theorem dX12_cellsOf_21 : decode cX12_cellsOf 21 = .ok (.iload_n 1, 1) := by decide +kernel
theorem dX12_cellsOf_22 : decode cX12_cellsOf 22 = .ok (.if_icmp .ne 6, 3) := by decide +kernel
theorem dX12_cellsOf_25 : decode cX12_cellsOf 25 = .ok (.iinc 2 1, 3) := by decide +kernel
theorem dX12_cellsOf_28 : decode cX12_cellsOf 28 = .ok (.iinc 3 1, 3) := by decide +kernel
theorem dX12_cellsOf_31 : decode cX12_cellsOf 31 = .ok (.goto (-27), 3) := by decide +kernel
theorem dX12_cellsOf_34 : decode cX12_cellsOf 34 = .ok (.iload_n 2, 1) := by decide +kernel
theorem dX12_cellsOf_35 : decode cX12_cellsOf 35 = .ok (.ireturn, 1) := by decide +kernel
theorem dX12_region_0 : decode cX12_region 0 = .ok (.aload_n 0, 1) := by decide +kernel
theorem dX12_region_1 : decode cX12_region 1 = .ok (.iconst 0, 1) := by decide +kernel
theorem dX12_region_2 : decode cX12_region 2 = .ok (.putfield 1, 3) := by decide +kernel
theorem dX12_region_5 : decode cX12_region 5 = .ok (.aload_n 0, 1) := by decide +kernel
theorem dX12_region_6 : decode cX12_region 6 = .ok (.iload_n 1, 1) := by decide +kernel
theorem dX12_region_7 : decode cX12_region 7 = .ok (.invokevirtual 321, 3) := by decide +kernel
theorem dX12_region_10 : decode cX12_region 10 = .ok (.ifCond .ne 5, 3) := by decide +kernel
theorem dX12_region_13 : decode cX12_region 13 = .ok (.iconst (-1), 1) := by decide +kernel
theorem dX12_region_14 : decode cX12_region 14 = .ok (.ireturn, 1) := by decide +kernel
theorem dX12_region_15 : decode cX12_region 15 = .ok (.iload_n 2, 1) := by decide +kernel
theorem dX12_region_16 : decode cX12_region 16 = .ok (.tableswitch 94 0 6 #[44, 44, 55, 61, 68, 82, 88], 44) := by decide +kernel
theorem dX12_region_60 : decode cX12_region 60 = .ok (.aload_n 0, 1) := by decide +kernel
theorem dX12_region_61 : decode cX12_region 61 = .ok (.getfield 145, 3) := by decide +kernel
theorem dX12_region_64 : decode cX12_region 64 = .ok (.iconst 2, 1) := by decide +kernel
theorem dX12_region_65 : decode cX12_region 65 = .ok (.iload_n 1, 1) := by decide +kernel
theorem dX12_region_66 : decode cX12_region 66 = .ok (.imul, 1) := by decide +kernel
theorem dX12_region_67 : decode cX12_region 67 = .ok (.iload_n 2, 1) := by decide +kernel
theorem dX12_region_68 : decode cX12_region 68 = .ok (.iadd, 1) := by decide +kernel
theorem dX12_region_69 : decode cX12_region 69 = .ok (.iaload, 1) := by decide +kernel
theorem dX12_region_70 : decode cX12_region 70 = .ok (.ireturn, 1) := by decide +kernel
theorem dX12_region_71 : decode cX12_region 71 = .ok (.aload_n 0, 1) := by decide +kernel
theorem dX12_region_72 : decode cX12_region 72 = .ok (.iload_n 1, 1) := by decide +kernel
theorem dX12_region_73 : decode cX12_region 73 = .ok (.invokevirtual 306, 3) := by decide +kernel
theorem dX12_region_76 : decode cX12_region 76 = .ok (.ireturn, 1) := by decide +kernel
theorem dX12_region_77 : decode cX12_region 77 = .ok (.aload_n 0, 1) := by decide +kernel
theorem dX12_region_78 : decode cX12_region 78 = .ok (.getfield 160, 3) := by decide +kernel
theorem dX12_region_81 : decode cX12_region 81 = .ok (.iload_n 1, 1) := by decide +kernel
theorem dX12_region_82 : decode cX12_region 82 = .ok (.iaload, 1) := by decide +kernel
theorem dX12_region_83 : decode cX12_region 83 = .ok (.ireturn, 1) := by decide +kernel
theorem dX12_region_84 : decode cX12_region 84 = .ok (.aload_n 0, 1) := by decide +kernel
theorem dX12_region_85 : decode cX12_region 85 = .ok (.iload_n 1, 1) := by decide +kernel
theorem dX12_region_86 : decode cX12_region 86 = .ok (.invokevirtual 324, 3) := by decide +kernel
theorem dX12_region_89 : decode cX12_region 89 = .ok (.ifCond .eq 7, 3) := by decide +kernel
theorem dX12_region_92 : decode cX12_region 92 = .ok (.iconst 1, 1) := by decide +kernel
theorem dX12_region_93 : decode cX12_region 93 = .ok (.goto 4, 3) := by decide +kernel
theorem dX12_region_96 : decode cX12_region 96 = .ok (.iconst 0, 1) := by decide +kernel
theorem dX12_region_97 : decode cX12_region 97 = .ok (.ireturn, 1) := by decide +kernel
theorem dX12_region_98 : decode cX12_region 98 = .ok (.aload_n 0, 1) := by decide +kernel
theorem dX12_region_99 : decode cX12_region 99 = .ok (.iload_n 1, 1) := by decide +kernel
theorem dX12_region_100 : decode cX12_region 100 = .ok (.invokevirtual 327, 3) := by decide +kernel
theorem dX12_region_103 : decode cX12_region 103 = .ok (.ireturn, 1) := by decide +kernel
theorem dX12_region_104 : decode cX12_region 104 = .ok (.aload_n 0, 1) := by decide +kernel
theorem dX12_region_105 : decode cX12_region 105 = .ok (.iload_n 1, 1) := by decide +kernel
theorem dX12_region_106 : decode cX12_region 106 = .ok (.invokevirtual 330, 3) := by decide +kernel
theorem dX12_region_109 : decode cX12_region 109 = .ok (.ireturn, 1) := by decide +kernel
theorem dX12_region_110 : decode cX12_region 110 = .ok (.iconst (-1), 1) := by decide +kernel
theorem dX12_region_111 : decode cX12_region 111 = .ok (.ireturn, 1) := by decide +kernel
theorem dX12_span_0 : decode cX12_span 0 = .ok (.aload_n 0, 1) := by decide +kernel
theorem dX12_span_1 : decode cX12_span 1 = .ok (.iconst 0, 1) := by decide +kernel
theorem dX12_span_2 : decode cX12_span 2 = .ok (.putfield 1, 3) := by decide +kernel
theorem dX12_span_5 : decode cX12_span 5 = .ok (.aload_n 0, 1) := by decide +kernel
theorem dX12_span_6 : decode cX12_span 6 = .ok (.iload_n 1, 1) := by decide +kernel
theorem dX12_span_7 : decode cX12_span 7 = .ok (.invokevirtual 309, 3) := by decide +kernel
theorem dX12_span_10 : decode cX12_span 10 = .ok (.ifCond .eq 11, 3) := by decide +kernel
theorem dX12_span_13 : decode cX12_span 13 = .ok (.aload_n 0, 1) := by decide +kernel
theorem dX12_span_14 : decode cX12_span 14 = .ok (.iload_n 2, 1) := by decide +kernel
theorem dX12_span_15 : decode cX12_span 15 = .ok (.invokevirtual 321, 3) := by decide +kernel
theorem dX12_span_18 : decode cX12_span 18 = .ok (.ifCond .ne 5, 3) := by decide +kernel
theorem dX12_span_21 : decode cX12_span 21 = .ok (.iconst (-1), 1) := by decide +kernel
theorem dX12_span_22 : decode cX12_span 22 = .ok (.ireturn, 1) := by decide +kernel
theorem dX12_span_23 : decode cX12_span 23 = .ok (.iload_n 3, 1) := by decide +kernel
theorem dX12_span_24 : decode cX12_span 24 = .ok (.ifCond .ne 17, 3) := by decide +kernel
theorem dX12_span_27 : decode cX12_span 27 = .ok (.aload_n 0, 1) := by decide +kernel
theorem dX12_span_28 : decode cX12_span 28 = .ok (.getfield 154, 3) := by decide +kernel
theorem dX12_span_31 : decode cX12_span 31 = .ok (.bipush 24, 2) := by decide +kernel
theorem dX12_span_33 : decode cX12_span 33 = .ok (.iload_n 1, 1) := by decide +kernel
theorem dX12_span_34 : decode cX12_span 34 = .ok (.imul, 1) := by decide +kernel
theorem dX12_span_35 : decode cX12_span 35 = .ok (.iload_n 2, 1) := by decide +kernel
theorem dX12_span_36 : decode cX12_span 36 = .ok (.iadd, 1) := by decide +kernel
theorem dX12_span_37 : decode cX12_span 37 = .ok (.iaload, 1) := by decide +kernel
theorem dX12_span_38 : decode cX12_span 38 = .ok (.goto 23, 3) := by decide +kernel
theorem dX12_span_41 : decode cX12_span 41 = .ok (.iload_n 3, 1) := by decide +kernel
theorem dX12_span_42 : decode cX12_span 42 = .ok (.iconst 1, 1) := by decide +kernel
theorem dX12_span_43 : decode cX12_span 43 = .ok (.if_icmp .ne 17, 3) := by decide +kernel
theorem dX12_span_46 : decode cX12_span 46 = .ok (.aload_n 0, 1) := by decide +kernel
theorem dX12_span_47 : decode cX12_span 47 = .ok (.getfield 157, 3) := by decide +kernel
theorem dX12_span_50 : decode cX12_span 50 = .ok (.bipush 24, 2) := by decide +kernel
theorem dX12_span_52 : decode cX12_span 52 = .ok (.iload_n 1, 1) := by decide +kernel
theorem dX12_span_53 : decode cX12_span 53 = .ok (.imul, 1) := by decide +kernel
theorem dX12_span_54 : decode cX12_span 54 = .ok (.iload_n 2, 1) := by decide +kernel
theorem dX12_span_55 : decode cX12_span 55 = .ok (.iadd, 1) := by decide +kernel
theorem dX12_span_56 : decode cX12_span 56 = .ok (.iaload, 1) := by decide +kernel
theorem dX12_span_57 : decode cX12_span 57 = .ok (.goto 4, 3) := by decide +kernel
theorem dX12_span_60 : decode cX12_span 60 = .ok (.iconst (-1), 1) := by decide +kernel
theorem dX12_span_61 : decode cX12_span 61 = .ok (.ireturn, 1) := by decide +kernel
theorem dX12_funOf_0 : decode cX12_funOf 0 = .ok (.aload_n 0, 1) := by decide +kernel
theorem dX12_funOf_1 : decode cX12_funOf 1 = .ok (.getfield 98, 3) := by decide +kernel
theorem dX12_funOf_4 : decode cX12_funOf 4 = .ok (.sipush 221, 3) := by decide +kernel
theorem dX12_funOf_7 : decode cX12_funOf 7 = .ok (.iload_n 1, 1) := by decide +kernel
theorem dX12_funOf_8 : decode cX12_funOf 8 = .ok (.iadd, 1) := by decide +kernel
theorem dX12_funOf_9 : decode cX12_funOf 9 = .ok (.iaload, 1) := by decide +kernel
theorem dX12_funOf_10 : decode cX12_funOf 10 = .ok (.ireturn, 1) := by decide +kernel
theorem dX12_lineOf_0 : decode cX12_lineOf 0 = .ok (.aload_n 0, 1) := by decide +kernel
theorem dX12_lineOf_1 : decode cX12_lineOf 1 = .ok (.getfield 98, 3) := by decide +kernel
theorem dX12_lineOf_4 : decode cX12_lineOf 4 = .ok (.bipush 8, 2) := by decide +kernel
theorem dX12_lineOf_6 : decode cX12_lineOf 6 = .ok (.aload_n 0, 1) := by decide +kernel
theorem dX12_lineOf_7 : decode cX12_lineOf 7 = .ok (.iload_n 1, 1) := by decide +kernel
theorem dX12_lineOf_8 : decode cX12_lineOf 8 = .ok (.invokevirtual 333, 3) := by decide +kernel
theorem dX12_lineOf_11 : decode cX12_lineOf 11 = .ok (.iadd, 1) := by decide +kernel
theorem dX12_lineOf_12 : decode cX12_lineOf 12 = .ok (.iaload, 1) := by decide +kernel
theorem dX12_lineOf_13 : decode cX12_lineOf 13 = .ok (.aload_n 0, 1) := by decide +kernel
theorem dX12_lineOf_14 : decode cX12_lineOf 14 = .ok (.getfield 98, 3) := by decide +kernel
theorem dX12_lineOf_17 : decode cX12_lineOf 17 = .ok (.sipush 233, 3) := by decide +kernel
theorem dX12_lineOf_20 : decode cX12_lineOf 20 = .ok (.iload_n 1, 1) := by decide +kernel
theorem dX12_lineOf_21 : decode cX12_lineOf 21 = .ok (.iadd, 1) := by decide +kernel
theorem dX12_lineOf_22 : decode cX12_lineOf 22 = .ok (.iaload, 1) := by decide +kernel
theorem dX12_lineOf_23 : decode cX12_lineOf 23 = .ok (.iadd, 1) := by decide +kernel
theorem dX12_lineOf_24 : decode cX12_lineOf 24 = .ok (.ireturn, 1) := by decide +kernel
theorem dX12_slot_0 : decode cX12_slot 0 = .ok (.bipush 27, 2) := by decide +kernel
theorem dX12_slot_2 : decode cX12_slot 2 = .ok (.iload_n 1, 1) := by decide +kernel
theorem dX12_slot_3 : decode cX12_slot 3 = .ok (.imul, 1) := by decide +kernel
theorem dX12_slot_4 : decode cX12_slot 4 = .ok (.iload_n 2, 1) := by decide +kernel
theorem dX12_slot_5 : decode cX12_slot 5 = .ok (.iadd, 1) := by decide +kernel
theorem dX12_slot_6 : decode cX12_slot 6 = .ok (.ireturn, 1) := by decide +kernel
theorem dX12_setVar_0 : decode cX12_setVar 0 = .ok (.aload_n 0, 1) := by decide +kernel
theorem dX12_setVar_1 : decode cX12_setVar 1 = .ok (.getfield 98, 3) := by decide +kernel
theorem dX12_setVar_4 : decode cX12_setVar 4 = .ok (.sipush 245, 3) := by decide +kernel
theorem dX12_setVar_7 : decode cX12_setVar 7 = .ok (.aload_n 0, 1) := by decide +kernel
theorem dX12_setVar_8 : decode cX12_setVar 8 = .ok (.iload_n 1, 1) := by decide +kernel
theorem dX12_setVar_9 : decode cX12_setVar 9 = .ok (.iload_n 2, 1) := by decide +kernel
theorem dX12_setVar_10 : decode cX12_setVar 10 = .ok (.invokevirtual 336, 3) := by decide +kernel
theorem dX12_setVar_13 : decode cX12_setVar 13 = .ok (.iadd, 1) := by decide +kernel
theorem dX12_setVar_14 : decode cX12_setVar 14 = .ok (.iload_n 3, 1) := by decide +kernel
theorem dX12_setVar_15 : decode cX12_setVar 15 = .ok (.iastore, 1) := by decide +kernel
theorem dX12_setVar_16 : decode cX12_setVar 16 = .ok (.aload_n 0, 1) := by decide +kernel
theorem dX12_setVar_17 : decode cX12_setVar 17 = .ok (.getfield 98, 3) := by decide +kernel
theorem dX12_setVar_20 : decode cX12_setVar 20 = .ok (.sipush 569, 3) := by decide +kernel
theorem dX12_setVar_23 : decode cX12_setVar 23 = .ok (.aload_n 0, 1) := by decide +kernel
theorem dX12_setVar_24 : decode cX12_setVar 24 = .ok (.iload_n 1, 1) := by decide +kernel
theorem dX12_setVar_25 : decode cX12_setVar 25 = .ok (.iload_n 2, 1) := by decide +kernel
theorem dX12_setVar_26 : decode cX12_setVar 26 = .ok (.invokevirtual 336, 3) := by decide +kernel
theorem dX12_setVar_29 : decode cX12_setVar 29 = .ok (.iadd, 1) := by decide +kernel
theorem dX12_setVar_30 : decode cX12_setVar 30 = .ok (.iload 4, 2) := by decide +kernel
theorem dX12_setVar_32 : decode cX12_setVar 32 = .ok (.iastore, 1) := by decide +kernel
theorem dX12_setVar_33 : decode cX12_setVar 33 = .ok (.return_, 1) := by decide +kernel
theorem dX12_makeRoom_0 : decode cX12_makeRoom 0 = .ok (.aload_n 0, 1) := by decide +kernel
theorem dX12_makeRoom_1 : decode cX12_makeRoom 1 = .ok (.getfield 98, 3) := by decide +kernel
theorem dX12_makeRoom_4 : decode cX12_makeRoom 4 = .ok (.sipush 2093, 3) := by decide +kernel
theorem dX12_makeRoom_7 : decode cX12_makeRoom 7 = .ok (.aload_n 0, 1) := by decide +kernel
theorem dX12_makeRoom_8 : decode cX12_makeRoom 8 = .ok (.getfield 98, 3) := by decide +kernel
theorem dX12_makeRoom_11 : decode cX12_makeRoom 11 = .ok (.sipush 214, 3) := by decide +kernel
theorem dX12_makeRoom_14 : decode cX12_makeRoom 14 = .ok (.iaload, 1) := by decide +kernel
theorem dX12_makeRoom_15 : decode cX12_makeRoom 15 = .ok (.iadd, 1) := by decide +kernel
theorem dX12_makeRoom_16 : decode cX12_makeRoom 16 = .ok (.iload_n 1, 1) := by decide +kernel
theorem dX12_makeRoom_17 : decode cX12_makeRoom 17 = .ok (.iastore, 1) := by decide +kernel
theorem dX12_makeRoom_18 : decode cX12_makeRoom 18 = .ok (.aload_n 0, 1) := by decide +kernel
theorem dX12_makeRoom_19 : decode cX12_makeRoom 19 = .ok (.getfield 98, 3) := by decide +kernel
theorem dX12_makeRoom_22 : decode cX12_makeRoom 22 = .ok (.sipush 214, 3) := by decide +kernel
theorem dX12_makeRoom_25 : decode cX12_makeRoom 25 = .ok (.dup2, 1) := by decide +kernel
theorem dX12_makeRoom_26 : decode cX12_makeRoom 26 = .ok (.iaload, 1) := by decide +kernel
theorem dX12_makeRoom_27 : decode cX12_makeRoom 27 = .ok (.iconst 1, 1) := by decide +kernel
theorem dX12_makeRoom_28 : decode cX12_makeRoom 28 = .ok (.iadd, 1) := by decide +kernel
theorem dX12_makeRoom_29 : decode cX12_makeRoom 29 = .ok (.iastore, 1) := by decide +kernel
theorem dX12_makeRoom_30 : decode cX12_makeRoom 30 = .ok (.return_, 1) := by decide +kernel
theorem dX12_latestRoom_0 : decode cX12_latestRoom 0 = .ok (.aload_n 0, 1) := by decide +kernel
theorem dX12_latestRoom_1 : decode cX12_latestRoom 1 = .ok (.getfield 98, 3) := by decide +kernel
theorem dX12_latestRoom_4 : decode cX12_latestRoom 4 = .ok (.sipush 214, 3) := by decide +kernel
theorem dX12_latestRoom_7 : decode cX12_latestRoom 7 = .ok (.iaload, 1) := by decide +kernel
theorem dX12_latestRoom_8 : decode cX12_latestRoom 8 = .ok (.iconst 1, 1) := by decide +kernel
theorem dX12_latestRoom_9 : decode cX12_latestRoom 9 = .ok (.isub, 1) := by decide +kernel
theorem dX12_latestRoom_10 : decode cX12_latestRoom 10 = .ok (.istore_n 2, 1) := by decide +kernel
theorem dX12_latestRoom_11 : decode cX12_latestRoom 11 = .ok (.aload_n 0, 1) := by decide +kernel
theorem dX12_latestRoom_12 : decode cX12_latestRoom 12 = .ok (.getfield 98, 3) := by decide +kernel
theorem dX12_latestRoom_15 : decode cX12_latestRoom 15 = .ok (.sipush 2093, 3) := by decide +kernel
theorem dX12_latestRoom_18 : decode cX12_latestRoom 18 = .ok (.iload_n 2, 1) := by decide +kernel
theorem dX12_latestRoom_19 : decode cX12_latestRoom 19 = .ok (.iadd, 1) := by decide +kernel
theorem dX12_latestRoom_20 : decode cX12_latestRoom 20 = .ok (.iaload, 1) := by decide +kernel
theorem dX12_latestRoom_21 : decode cX12_latestRoom 21 = .ok (.iload_n 1, 1) := by decide +kernel
theorem dX12_latestRoom_22 : decode cX12_latestRoom 22 = .ok (.if_icmp .eq 9, 3) := by decide +kernel
theorem dX12_latestRoom_25 : decode cX12_latestRoom 25 = .ok (.iinc 2 (-1), 3) := by decide +kernel
theorem dX12_latestRoom_28 : decode cX12_latestRoom 28 = .ok (.goto (-17), 3) := by decide +kernel
theorem dX12_latestRoom_31 : decode cX12_latestRoom 31 = .ok (.iload_n 2, 1) := by decide +kernel
theorem dX12_latestRoom_32 : decode cX12_latestRoom 32 = .ok (.ireturn, 1) := by decide +kernel
theorem dX12_freeRoom_0 : decode cX12_freeRoom 0 = .ok (.iconst 0, 1) := by decide +kernel
theorem dX12_freeRoom_1 : decode cX12_freeRoom 1 = .ok (.istore_n 2, 1) := by decide +kernel
theorem dX12_freeRoom_2 : decode cX12_freeRoom 2 = .ok (.iload_n 2, 1) := by decide +kernel
theorem dX12_freeRoom_3 : decode cX12_freeRoom 3 = .ok (.sipush 200, 3) := by decide +kernel
theorem dX12_freeRoom_6 : decode cX12_freeRoom 6 = .ok (.if_icmp .ge 105, 3) := by decide +kernel
theorem dX12_freeRoom_9 : decode cX12_freeRoom 9 = .ok (.aload_n 0, 1) := by decide +kernel
theorem dX12_freeRoom_10 : decode cX12_freeRoom 10 = .ok (.getfield 98, 3) := by decide +kernel
theorem dX12_freeRoom_13 : decode cX12_freeRoom 13 = .ok (.sipush 893, 3) := by decide +kernel
theorem dX12_freeRoom_16 : decode cX12_freeRoom 16 = .ok (.iload_n 2, 1) := by decide +kernel
theorem dX12_freeRoom_17 : decode cX12_freeRoom 17 = .ok (.iadd, 1) := by decide +kernel
theorem dX12_freeRoom_18 : decode cX12_freeRoom 18 = .ok (.iaload, 1) := by decide +kernel
theorem dX12_freeRoom_19 : decode cX12_freeRoom 19 = .ok (.iconst (-1), 1) := by decide +kernel
theorem dX12_freeRoom_20 : decode cX12_freeRoom 20 = .ok (.if_icmp .ne 6, 3) := by decide +kernel
theorem dX12_freeRoom_23 : decode cX12_freeRoom 23 = .ok (.goto 82, 3) := by decide +kernel
theorem dX12_freeRoom_26 : decode cX12_freeRoom 26 = .ok (.aload_n 0, 1) := by decide +kernel
theorem dX12_freeRoom_27 : decode cX12_freeRoom 27 = .ok (.getfield 98, 3) := by decide +kernel
theorem dX12_freeRoom_30 : decode cX12_freeRoom 30 = .ok (.sipush 1093, 3) := by decide +kernel
theorem dX12_freeRoom_33 : decode cX12_freeRoom 33 = .ok (.iload_n 2, 1) := by decide +kernel
theorem dX12_freeRoom_34 : decode cX12_freeRoom 34 = .ok (.iadd, 1) := by decide +kernel
theorem dX12_freeRoom_35 : decode cX12_freeRoom 35 = .ok (.iaload, 1) := by decide +kernel
theorem dX12_freeRoom_36 : decode cX12_freeRoom 36 = .ok (.iload_n 1, 1) := by decide +kernel
theorem dX12_freeRoom_37 : decode cX12_freeRoom 37 = .ok (.if_icmp .ne 40, 3) := by decide +kernel
theorem dX12_freeRoom_40 : decode cX12_freeRoom 40 = .ok (.aload_n 0, 1) := by decide +kernel
theorem dX12_freeRoom_41 : decode cX12_freeRoom 41 = .ok (.getfield 98, 3) := by decide +kernel
theorem dX12_freeRoom_44 : decode cX12_freeRoom 44 = .ok (.sipush 893, 3) := by decide +kernel
theorem dX12_freeRoom_47 : decode cX12_freeRoom 47 = .ok (.iload_n 2, 1) := by decide +kernel
theorem dX12_freeRoom_48 : decode cX12_freeRoom 48 = .ok (.iadd, 1) := by decide +kernel
theorem dX12_freeRoom_49 : decode cX12_freeRoom 49 = .ok (.iconst (-1), 1) := by decide +kernel
theorem dX12_freeRoom_50 : decode cX12_freeRoom 50 = .ok (.iastore, 1) := by decide +kernel
theorem dX12_freeRoom_51 : decode cX12_freeRoom 51 = .ok (.aload_n 0, 1) := by decide +kernel
theorem dX12_freeRoom_52 : decode cX12_freeRoom 52 = .ok (.getfield 98, 3) := by decide +kernel
theorem dX12_freeRoom_55 : decode cX12_freeRoom 55 = .ok (.sipush 1093, 3) := by decide +kernel
theorem dX12_freeRoom_58 : decode cX12_freeRoom 58 = .ok (.iload_n 2, 1) := by decide +kernel
theorem dX12_freeRoom_59 : decode cX12_freeRoom 59 = .ok (.iadd, 1) := by decide +kernel
theorem dX12_freeRoom_60 : decode cX12_freeRoom 60 = .ok (.iconst 0, 1) := by decide +kernel
theorem dX12_freeRoom_61 : decode cX12_freeRoom 61 = .ok (.iastore, 1) := by decide +kernel
theorem dX12_freeRoom_62 : decode cX12_freeRoom 62 = .ok (.aload_n 0, 1) := by decide +kernel
theorem dX12_freeRoom_63 : decode cX12_freeRoom 63 = .ok (.getfield 98, 3) := by decide +kernel
theorem dX12_freeRoom_66 : decode cX12_freeRoom 66 = .ok (.sipush 213, 3) := by decide +kernel
theorem dX12_freeRoom_69 : decode cX12_freeRoom 69 = .ok (.dup2, 1) := by decide +kernel
theorem dX12_freeRoom_70 : decode cX12_freeRoom 70 = .ok (.iaload, 1) := by decide +kernel
theorem dX12_freeRoom_71 : decode cX12_freeRoom 71 = .ok (.iconst 1, 1) := by decide +kernel
theorem dX12_freeRoom_72 : decode cX12_freeRoom 72 = .ok (.isub, 1) := by decide +kernel
theorem dX12_freeRoom_73 : decode cX12_freeRoom 73 = .ok (.iastore, 1) := by decide +kernel
theorem dX12_freeRoom_74 : decode cX12_freeRoom 74 = .ok (.goto 31, 3) := by decide +kernel
theorem dX12_freeRoom_77 : decode cX12_freeRoom 77 = .ok (.aload_n 0, 1) := by decide +kernel
theorem dX12_freeRoom_78 : decode cX12_freeRoom 78 = .ok (.getfield 98, 3) := by decide +kernel
theorem dX12_freeRoom_81 : decode cX12_freeRoom 81 = .ok (.sipush 1093, 3) := by decide +kernel
theorem dX12_freeRoom_84 : decode cX12_freeRoom 84 = .ok (.iload_n 2, 1) := by decide +kernel
theorem dX12_freeRoom_85 : decode cX12_freeRoom 85 = .ok (.iadd, 1) := by decide +kernel
theorem dX12_freeRoom_86 : decode cX12_freeRoom 86 = .ok (.iaload, 1) := by decide +kernel
theorem dX12_freeRoom_87 : decode cX12_freeRoom 87 = .ok (.iload_n 1, 1) := by decide +kernel
theorem dX12_freeRoom_88 : decode cX12_freeRoom 88 = .ok (.if_icmp .le 17, 3) := by decide +kernel
theorem dX12_freeRoom_91 : decode cX12_freeRoom 91 = .ok (.aload_n 0, 1) := by decide +kernel
theorem dX12_freeRoom_92 : decode cX12_freeRoom 92 = .ok (.getfield 98, 3) := by decide +kernel
theorem dX12_freeRoom_95 : decode cX12_freeRoom 95 = .ok (.sipush 1093, 3) := by decide +kernel
theorem dX12_freeRoom_98 : decode cX12_freeRoom 98 = .ok (.iload_n 2, 1) := by decide +kernel
theorem dX12_freeRoom_99 : decode cX12_freeRoom 99 = .ok (.iadd, 1) := by decide +kernel
theorem dX12_freeRoom_100 : decode cX12_freeRoom 100 = .ok (.dup2, 1) := by decide +kernel
theorem dX12_freeRoom_101 : decode cX12_freeRoom 101 = .ok (.iaload, 1) := by decide +kernel
theorem dX12_freeRoom_102 : decode cX12_freeRoom 102 = .ok (.iconst 1, 1) := by decide +kernel
theorem dX12_freeRoom_103 : decode cX12_freeRoom 103 = .ok (.isub, 1) := by decide +kernel
theorem dX12_freeRoom_104 : decode cX12_freeRoom 104 = .ok (.iastore, 1) := by decide +kernel
theorem dX12_freeRoom_105 : decode cX12_freeRoom 105 = .ok (.iinc 2 1, 3) := by decide +kernel
theorem dX12_freeRoom_108 : decode cX12_freeRoom 108 = .ok (.goto (-106), 3) := by decide +kernel
theorem dX12_freeRoom_111 : decode cX12_freeRoom 111 = .ok (.aload_n 0, 1) := by decide +kernel
theorem dX12_freeRoom_112 : decode cX12_freeRoom 112 = .ok (.getfield 98, 3) := by decide +kernel
theorem dX12_freeRoom_115 : decode cX12_freeRoom 115 = .ok (.sipush 214, 3) := by decide +kernel
theorem dX12_freeRoom_118 : decode cX12_freeRoom 118 = .ok (.dup2, 1) := by decide +kernel
theorem dX12_freeRoom_119 : decode cX12_freeRoom 119 = .ok (.iaload, 1) := by decide +kernel
theorem dX12_freeRoom_120 : decode cX12_freeRoom 120 = .ok (.iconst 1, 1) := by decide +kernel
theorem dX12_freeRoom_121 : decode cX12_freeRoom 121 = .ok (.isub, 1) := by decide +kernel
theorem dX12_freeRoom_122 : decode cX12_freeRoom 122 = .ok (.iastore, 1) := by decide +kernel
theorem dX12_freeRoom_123 : decode cX12_freeRoom 123 = .ok (.iload_n 1, 1) := by decide +kernel
theorem dX12_freeRoom_124 : decode cX12_freeRoom 124 = .ok (.istore_n 2, 1) := by decide +kernel
theorem dX12_freeRoom_125 : decode cX12_freeRoom 125 = .ok (.iload_n 2, 1) := by decide +kernel
theorem dX12_freeRoom_126 : decode cX12_freeRoom 126 = .ok (.aload_n 0, 1) := by decide +kernel
theorem dX12_freeRoom_127 : decode cX12_freeRoom 127 = .ok (.getfield 98, 3) := by decide +kernel
theorem dX12_freeRoom_130 : decode cX12_freeRoom 130 = .ok (.sipush 214, 3) := by decide +kernel
theorem dX12_freeRoom_133 : decode cX12_freeRoom 133 = .ok (.iaload, 1) := by decide +kernel
theorem dX12_freeRoom_134 : decode cX12_freeRoom 134 = .ok (.if_icmp .ge 31, 3) := by decide +kernel
theorem dX12_freeRoom_137 : decode cX12_freeRoom 137 = .ok (.aload_n 0, 1) := by decide +kernel
theorem dX12_freeRoom_138 : decode cX12_freeRoom 138 = .ok (.getfield 98, 3) := by decide +kernel
theorem dX12_freeRoom_141 : decode cX12_freeRoom 141 = .ok (.sipush 2093, 3) := by decide +kernel
theorem dX12_freeRoom_144 : decode cX12_freeRoom 144 = .ok (.iload_n 2, 1) := by decide +kernel
theorem dX12_freeRoom_145 : decode cX12_freeRoom 145 = .ok (.iadd, 1) := by decide +kernel
theorem dX12_freeRoom_146 : decode cX12_freeRoom 146 = .ok (.aload_n 0, 1) := by decide +kernel
theorem dX12_freeRoom_147 : decode cX12_freeRoom 147 = .ok (.getfield 98, 3) := by decide +kernel
theorem dX12_freeRoom_150 : decode cX12_freeRoom 150 = .ok (.sipush 2093, 3) := by decide +kernel
theorem dX12_freeRoom_153 : decode cX12_freeRoom 153 = .ok (.iload_n 2, 1) := by decide +kernel
theorem dX12_freeRoom_154 : decode cX12_freeRoom 154 = .ok (.iadd, 1) := by decide +kernel
theorem dX12_freeRoom_155 : decode cX12_freeRoom 155 = .ok (.iconst 1, 1) := by decide +kernel
theorem dX12_freeRoom_156 : decode cX12_freeRoom 156 = .ok (.iadd, 1) := by decide +kernel
theorem dX12_freeRoom_157 : decode cX12_freeRoom 157 = .ok (.iaload, 1) := by decide +kernel
theorem dX12_freeRoom_158 : decode cX12_freeRoom 158 = .ok (.iastore, 1) := by decide +kernel
theorem dX12_freeRoom_159 : decode cX12_freeRoom 159 = .ok (.iinc 2 1, 3) := by decide +kernel
theorem dX12_freeRoom_162 : decode cX12_freeRoom 162 = .ok (.goto (-37), 3) := by decide +kernel
theorem dX12_freeRoom_165 : decode cX12_freeRoom 165 = .ok (.return_, 1) := by decide +kernel
theorem dX12_loads_0 : decode cX12_loads 0 = .ok (.sipush 210, 3) := by decide +kernel
theorem dX12_loads_3 : decode cX12_loads 3 = .ok (.istore_n 2, 1) := by decide +kernel
theorem dX12_loads_4 : decode cX12_loads 4 = .ok (.iload_n 2, 1) := by decide +kernel
theorem dX12_loads_5 : decode cX12_loads 5 = .ok (.sipush 2405, 3) := by decide +kernel
theorem dX12_loads_8 : decode cX12_loads 8 = .ok (.if_icmp .ge 16, 3) := by decide +kernel
theorem dX12_loads_11 : decode cX12_loads 11 = .ok (.aload_n 0, 1) := by decide +kernel
theorem dX12_loads_12 : decode cX12_loads 12 = .ok (.getfield 98, 3) := by decide +kernel
theorem dX12_loads_15 : decode cX12_loads 15 = .ok (.iload_n 2, 1) := by decide +kernel
theorem dX12_loads_16 : decode cX12_loads 16 = .ok (.iconst 0, 1) := by decide +kernel
theorem dX12_loads_17 : decode cX12_loads 17 = .ok (.iastore, 1) := by decide +kernel
theorem dX12_loads_18 : decode cX12_loads 18 = .ok (.iinc 2 1, 3) := by decide +kernel
theorem dX12_loads_21 : decode cX12_loads 21 = .ok (.goto (-17), 3) := by decide +kernel
theorem dX12_loads_24 : decode cX12_loads 24 = .ok (.iconst 0, 1) := by decide +kernel
theorem dX12_loads_25 : decode cX12_loads 25 = .ok (.istore_n 2, 1) := by decide +kernel
theorem dX12_loads_26 : decode cX12_loads 26 = .ok (.iload_n 2, 1) := by decide +kernel
theorem dX12_loads_27 : decode cX12_loads 27 = .ok (.sipush 200, 3) := by decide +kernel
theorem dX12_loads_30 : decode cX12_loads 30 = .ok (.if_icmp .ge 20, 3) := by decide +kernel
theorem dX12_loads_33 : decode cX12_loads 33 = .ok (.aload_n 0, 1) := by decide +kernel
theorem dX12_loads_34 : decode cX12_loads 34 = .ok (.getfield 98, 3) := by decide +kernel
theorem dX12_loads_37 : decode cX12_loads 37 = .ok (.sipush 893, 3) := by decide +kernel
theorem dX12_loads_40 : decode cX12_loads 40 = .ok (.iload_n 2, 1) := by decide +kernel
theorem dX12_loads_41 : decode cX12_loads 41 = .ok (.iadd, 1) := by decide +kernel
theorem dX12_loads_42 : decode cX12_loads 42 = .ok (.iconst (-1), 1) := by decide +kernel
theorem dX12_loads_43 : decode cX12_loads 43 = .ok (.iastore, 1) := by decide +kernel
theorem dX12_loads_44 : decode cX12_loads 44 = .ok (.iinc 2 1, 3) := by decide +kernel
theorem dX12_loads_47 : decode cX12_loads 47 = .ok (.goto (-21), 3) := by decide +kernel
theorem dX12_loads_50 : decode cX12_loads 50 = .ok (.aload_n 0, 1) := by decide +kernel
theorem dX12_loads_51 : decode cX12_loads 51 = .ok (.getfield 98, 3) := by decide +kernel
theorem dX12_loads_54 : decode cX12_loads 54 = .ok (.sipush 210, 3) := by decide +kernel
theorem dX12_loads_57 : decode cX12_loads 57 = .ok (.iconst 1, 1) := by decide +kernel
theorem dX12_loads_58 : decode cX12_loads 58 = .ok (.iastore, 1) := by decide +kernel
theorem dX12_loads_59 : decode cX12_loads 59 = .ok (.iconst 0, 1) := by decide +kernel
theorem dX12_loads_60 : decode cX12_loads 60 = .ok (.istore_n 2, 1) := by decide +kernel
theorem dX12_loads_61 : decode cX12_loads 61 = .ok (.iload_n 2, 1) := by decide +kernel
theorem dX12_loads_62 : decode cX12_loads 62 = .ok (.aload_n 0, 1) := by decide +kernel
theorem dX12_loads_63 : decode cX12_loads 63 = .ok (.getfield 98, 3) := by decide +kernel
theorem dX12_loads_66 : decode cX12_loads 66 = .ok (.iconst 2, 1) := by decide +kernel
theorem dX12_loads_67 : decode cX12_loads 67 = .ok (.iaload, 1) := by decide +kernel
theorem dX12_loads_68 : decode cX12_loads 68 = .ok (.if_icmp .ge 22, 3) := by decide +kernel
theorem dX12_loads_71 : decode cX12_loads 71 = .ok (.aload_n 0, 1) := by decide +kernel
theorem dX12_loads_72 : decode cX12_loads 72 = .ok (.iload_n 2, 1) := by decide +kernel
theorem dX12_loads_73 : decode cX12_loads 73 = .ok (.invokevirtual 300, 3) := by decide +kernel
theorem dX12_loads_76 : decode cX12_loads 76 = .ok (.ifCond .eq 8, 3) := by decide +kernel
theorem dX12_loads_79 : decode cX12_loads 79 = .ok (.aload_n 0, 1) := by decide +kernel
theorem dX12_loads_80 : decode cX12_loads 80 = .ok (.iload_n 2, 1) := by decide +kernel
theorem dX12_loads_81 : decode cX12_loads 81 = .ok (.invokevirtual 339, 3) := by decide +kernel
theorem dX12_loads_84 : decode cX12_loads 84 = .ok (.iinc 2 1, 3) := by decide +kernel
theorem dX12_loads_87 : decode cX12_loads 87 = .ok (.goto (-26), 3) := by decide +kernel
theorem dX12_loads_90 : decode cX12_loads 90 = .ok (.aload_n 0, 1) := by decide +kernel
theorem dX12_loads_91 : decode cX12_loads 91 = .ok (.aload_n 0, 1) := by decide +kernel
theorem dX12_loads_92 : decode cX12_loads 92 = .ok (.invokevirtual 297, 3) := by decide +kernel
theorem dX12_loads_95 : decode cX12_loads 95 = .ok (.invokevirtual 342, 3) := by decide +kernel
theorem dX12_loads_98 : decode cX12_loads 98 = .ok (.iconst 0, 1) := by decide +kernel
theorem dX12_loads_99 : decode cX12_loads 99 = .ok (.istore_n 2, 1) := by decide +kernel
theorem dX12_loads_100 : decode cX12_loads 100 = .ok (.iload_n 2, 1) := by decide +kernel
theorem dX12_loads_101 : decode cX12_loads 101 = .ok (.aload_n 0, 1) := by decide +kernel
theorem dX12_loads_102 : decode cX12_loads 102 = .ok (.getfield 98, 3) := by decide +kernel
theorem dX12_loads_105 : decode cX12_loads 105 = .ok (.iconst 3, 1) := by decide +kernel
theorem dX12_loads_106 : decode cX12_loads 106 = .ok (.aload_n 0, 1) := by decide +kernel
theorem dX12_loads_107 : decode cX12_loads 107 = .ok (.invokevirtual 297, 3) := by decide +kernel
theorem dX12_loads_110 : decode cX12_loads 110 = .ok (.iadd, 1) := by decide +kernel
theorem dX12_loads_111 : decode cX12_loads 111 = .ok (.iaload, 1) := by decide +kernel
theorem dX12_loads_112 : decode cX12_loads 112 = .ok (.if_icmp .ge 19, 3) := by decide +kernel
theorem dX12_loads_115 : decode cX12_loads 115 = .ok (.aload_n 0, 1) := by decide +kernel
theorem dX12_loads_116 : decode cX12_loads 116 = .ok (.iconst 0, 1) := by decide +kernel
theorem dX12_loads_117 : decode cX12_loads 117 = .ok (.iload_n 2, 1) := by decide +kernel
theorem dX12_loads_118 : decode cX12_loads 118 = .ok (.iconst 1, 1) := by decide +kernel
theorem dX12_loads_119 : decode cX12_loads 119 = .ok (.aload_n 1, 1) := by decide +kernel
theorem dX12_loads_120 : decode cX12_loads 120 = .ok (.iload_n 2, 1) := by decide +kernel
theorem dX12_loads_121 : decode cX12_loads 121 = .ok (.iaload, 1) := by decide +kernel
theorem dX12_loads_122 : decode cX12_loads 122 = .ok (.invokevirtual 345, 3) := by decide +kernel
theorem dX12_loads_125 : decode cX12_loads 125 = .ok (.iinc 2 1, 3) := by decide +kernel
theorem dX12_loads_128 : decode cX12_loads 128 = .ok (.goto (-28), 3) := by decide +kernel
theorem dX12_loads_131 : decode cX12_loads 131 = .ok (.return_, 1) := by decide +kernel
theorem dX12_pushFrame_0 : decode cX12_pushFrame 0 = .ok (.aload_n 0, 1) := by decide +kernel
theorem dX12_pushFrame_1 : decode cX12_pushFrame 1 = .ok (.getfield 98, 3) := by decide +kernel
theorem dX12_pushFrame_4 : decode cX12_pushFrame 4 = .ok (.sipush 212, 3) := by decide +kernel
theorem dX12_pushFrame_7 : decode cX12_pushFrame 7 = .ok (.iaload, 1) := by decide +kernel
theorem dX12_pushFrame_8 : decode cX12_pushFrame 8 = .ok (.istore_n 2, 1) := by decide +kernel
theorem dX12_pushFrame_9 : decode cX12_pushFrame 9 = .ok (.aload_n 0, 1) := by decide +kernel
theorem dX12_pushFrame_10 : decode cX12_pushFrame 10 = .ok (.getfield 98, 3) := by decide +kernel
theorem dX12_pushFrame_13 : decode cX12_pushFrame 13 = .ok (.sipush 221, 3) := by decide +kernel
theorem dX12_pushFrame_16 : decode cX12_pushFrame 16 = .ok (.iload_n 2, 1) := by decide +kernel
theorem dX12_pushFrame_17 : decode cX12_pushFrame 17 = .ok (.iadd, 1) := by decide +kernel
theorem dX12_pushFrame_18 : decode cX12_pushFrame 18 = .ok (.iload_n 1, 1) := by decide +kernel
theorem dX12_pushFrame_19 : decode cX12_pushFrame 19 = .ok (.iastore, 1) := by decide +kernel
theorem dX12_pushFrame_20 : decode cX12_pushFrame 20 = .ok (.aload_n 0, 1) := by decide +kernel
theorem dX12_pushFrame_21 : decode cX12_pushFrame 21 = .ok (.getfield 98, 3) := by decide +kernel
theorem dX12_pushFrame_24 : decode cX12_pushFrame 24 = .ok (.sipush 233, 3) := by decide +kernel
theorem dX12_pushFrame_27 : decode cX12_pushFrame 27 = .ok (.iload_n 2, 1) := by decide +kernel
theorem dX12_pushFrame_28 : decode cX12_pushFrame 28 = .ok (.iadd, 1) := by decide +kernel
theorem dX12_pushFrame_29 : decode cX12_pushFrame 29 = .ok (.iconst 0, 1) := by decide +kernel
theorem dX12_pushFrame_30 : decode cX12_pushFrame 30 = .ok (.iastore, 1) := by decide +kernel
theorem dX12_pushFrame_31 : decode cX12_pushFrame 31 = .ok (.iconst 0, 1) := by decide +kernel
theorem dX12_pushFrame_32 : decode cX12_pushFrame 32 = .ok (.istore_n 3, 1) := by decide +kernel
theorem dX12_pushFrame_33 : decode cX12_pushFrame 33 = .ok (.iload_n 3, 1) := by decide +kernel
theorem dX12_pushFrame_34 : decode cX12_pushFrame 34 = .ok (.bipush 27, 2) := by decide +kernel
theorem dX12_pushFrame_36 : decode cX12_pushFrame 36 = .ok (.if_icmp .ge 17, 3) := by decide +kernel
theorem dX12_pushFrame_39 : decode cX12_pushFrame 39 = .ok (.aload_n 0, 1) := by decide +kernel
theorem dX12_pushFrame_40 : decode cX12_pushFrame 40 = .ok (.iload_n 2, 1) := by decide +kernel
theorem dX12_pushFrame_41 : decode cX12_pushFrame 41 = .ok (.iload_n 3, 1) := by decide +kernel
theorem dX12_pushFrame_42 : decode cX12_pushFrame 42 = .ok (.iconst 0, 1) := by decide +kernel
theorem dX12_pushFrame_43 : decode cX12_pushFrame 43 = .ok (.iconst 0, 1) := by decide +kernel
theorem dX12_pushFrame_44 : decode cX12_pushFrame 44 = .ok (.invokevirtual 345, 3) := by decide +kernel
theorem dX12_pushFrame_47 : decode cX12_pushFrame 47 = .ok (.iinc 3 1, 3) := by decide +kernel
theorem dX12_pushFrame_50 : decode cX12_pushFrame 50 = .ok (.goto (-17), 3) := by decide +kernel
theorem dX12_pushFrame_53 : decode cX12_pushFrame 53 = .ok (.aload_n 0, 1) := by decide +kernel
theorem dX12_pushFrame_54 : decode cX12_pushFrame 54 = .ok (.getfield 98, 3) := by decide +kernel
theorem dX12_pushFrame_57 : decode cX12_pushFrame 57 = .ok (.sipush 212, 3) := by decide +kernel
theorem dX12_pushFrame_60 : decode cX12_pushFrame 60 = .ok (.dup2, 1) := by decide +kernel
theorem dX12_pushFrame_61 : decode cX12_pushFrame 61 = .ok (.iaload, 1) := by decide +kernel
theorem dX12_pushFrame_62 : decode cX12_pushFrame 62 = .ok (.iconst 1, 1) := by decide +kernel
theorem dX12_pushFrame_63 : decode cX12_pushFrame 63 = .ok (.iadd, 1) := by decide +kernel
theorem dX12_pushFrame_64 : decode cX12_pushFrame 64 = .ok (.iastore, 1) := by decide +kernel
theorem dX12_pushFrame_65 : decode cX12_pushFrame 65 = .ok (.return_, 1) := by decide +kernel
theorem dX12_kindAt_0 : decode cX12_kindAt 0 = .ok (.aload_n 0, 1) := by decide +kernel
theorem dX12_kindAt_1 : decode cX12_kindAt 1 = .ok (.getfield 98, 3) := by decide +kernel
theorem dX12_kindAt_4 : decode cX12_kindAt 4 = .ok (.sipush 245, 3) := by decide +kernel
theorem dX12_kindAt_7 : decode cX12_kindAt 7 = .ok (.aload_n 0, 1) := by decide +kernel
theorem dX12_kindAt_8 : decode cX12_kindAt 8 = .ok (.iload_n 1, 1) := by decide +kernel
theorem dX12_kindAt_9 : decode cX12_kindAt 9 = .ok (.aload_n 0, 1) := by decide +kernel
theorem dX12_kindAt_10 : decode cX12_kindAt 10 = .ok (.aload_n 0, 1) := by decide +kernel
theorem dX12_kindAt_11 : decode cX12_kindAt 11 = .ok (.iload_n 1, 1) := by decide +kernel
theorem dX12_kindAt_12 : decode cX12_kindAt 12 = .ok (.invokevirtual 349, 3) := by decide +kernel
theorem dX12_kindAt_15 : decode cX12_kindAt 15 = .ok (.iload_n 2, 1) := by decide +kernel
theorem dX12_kindAt_16 : decode cX12_kindAt 16 = .ok (.invokevirtual 267, 3) := by decide +kernel
theorem dX12_kindAt_19 : decode cX12_kindAt 19 = .ok (.invokevirtual 336, 3) := by decide +kernel
theorem dX12_kindAt_22 : decode cX12_kindAt 22 = .ok (.iadd, 1) := by decide +kernel
theorem dX12_kindAt_23 : decode cX12_kindAt 23 = .ok (.iaload, 1) := by decide +kernel
theorem dX12_kindAt_24 : decode cX12_kindAt 24 = .ok (.ireturn, 1) := by decide +kernel
theorem dX12_valueAt_0 : decode cX12_valueAt 0 = .ok (.aload_n 0, 1) := by decide +kernel
theorem dX12_valueAt_1 : decode cX12_valueAt 1 = .ok (.getfield 98, 3) := by decide +kernel
theorem dX12_valueAt_4 : decode cX12_valueAt 4 = .ok (.sipush 569, 3) := by decide +kernel
theorem dX12_valueAt_7 : decode cX12_valueAt 7 = .ok (.aload_n 0, 1) := by decide +kernel
theorem dX12_valueAt_8 : decode cX12_valueAt 8 = .ok (.iload_n 1, 1) := by decide +kernel
theorem dX12_valueAt_9 : decode cX12_valueAt 9 = .ok (.aload_n 0, 1) := by decide +kernel
theorem dX12_valueAt_10 : decode cX12_valueAt 10 = .ok (.aload_n 0, 1) := by decide +kernel
theorem dX12_valueAt_11 : decode cX12_valueAt 11 = .ok (.iload_n 1, 1) := by decide +kernel
theorem dX12_valueAt_12 : decode cX12_valueAt 12 = .ok (.invokevirtual 349, 3) := by decide +kernel
theorem dX12_valueAt_15 : decode cX12_valueAt 15 = .ok (.iload_n 2, 1) := by decide +kernel
theorem dX12_valueAt_16 : decode cX12_valueAt 16 = .ok (.invokevirtual 267, 3) := by decide +kernel
theorem dX12_valueAt_19 : decode cX12_valueAt 19 = .ok (.invokevirtual 336, 3) := by decide +kernel
theorem dX12_valueAt_22 : decode cX12_valueAt 22 = .ok (.iadd, 1) := by decide +kernel
theorem dX12_valueAt_23 : decode cX12_valueAt 23 = .ok (.iaload, 1) := by decide +kernel
theorem dX12_valueAt_24 : decode cX12_valueAt 24 = .ok (.ireturn, 1) := by decide +kernel
theorem dX12_calls_0 : decode cX12_calls 0 = .ok (.aload_n 0, 1) := by decide +kernel
theorem dX12_calls_1 : decode cX12_calls 1 = .ok (.getfield 98, 3) := by decide +kernel
theorem dX12_calls_4 : decode cX12_calls 4 = .ok (.bipush 18, 2) := by decide +kernel
theorem dX12_calls_6 : decode cX12_calls 6 = .ok (.aload_n 0, 1) := by decide +kernel
theorem dX12_calls_7 : decode cX12_calls 7 = .ok (.iload_n 1, 1) := by decide +kernel
theorem dX12_calls_8 : decode cX12_calls 8 = .ok (.invokevirtual 349, 3) := by decide +kernel
theorem dX12_calls_11 : decode cX12_calls 11 = .ok (.iadd, 1) := by decide +kernel
theorem dX12_calls_12 : decode cX12_calls 12 = .ok (.iaload, 1) := by decide +kernel
theorem dX12_calls_13 : decode cX12_calls 13 = .ok (.istore_n 2, 1) := by decide +kernel
theorem dX12_calls_14 : decode cX12_calls 14 = .ok (.iload_n 2, 1) := by decide +kernel
theorem dX12_calls_15 : decode cX12_calls 15 = .ok (.bipush 8, 2) := by decide +kernel
theorem dX12_calls_17 : decode cX12_calls 17 = .ok (.if_icmp .eq 18, 3) := by decide +kernel
theorem dX12_calls_20 : decode cX12_calls 20 = .ok (.iload_n 2, 1) := by decide +kernel
theorem dX12_calls_21 : decode cX12_calls 21 = .ok (.bipush 9, 2) := by decide +kernel
theorem dX12_calls_23 : decode cX12_calls 23 = .ok (.if_icmp .ne 16, 3) := by decide +kernel
theorem dX12_calls_26 : decode cX12_calls 26 = .ok (.aload_n 0, 1) := by decide +kernel
theorem dX12_calls_27 : decode cX12_calls 27 = .ok (.iload_n 1, 1) := by decide +kernel
theorem dX12_calls_28 : decode cX12_calls 28 = .ok (.iconst 0, 1) := by decide +kernel
theorem dX12_calls_29 : decode cX12_calls 29 = .ok (.invokevirtual 352, 3) := by decide +kernel
theorem dX12_calls_32 : decode cX12_calls 32 = .ok (.ifCond .eq 7, 3) := by decide +kernel
theorem dX12_calls_35 : decode cX12_calls 35 = .ok (.iconst 1, 1) := by decide +kernel
theorem dX12_calls_36 : decode cX12_calls 36 = .ok (.goto 4, 3) := by decide +kernel
theorem dX12_calls_39 : decode cX12_calls 39 = .ok (.iconst 0, 1) := by decide +kernel
theorem dX12_calls_40 : decode cX12_calls 40 = .ok (.ireturn, 1) := by decide +kernel
theorem dX12_goesAhead_0 : decode cX12_goesAhead 0 = .ok (.aload_n 0, 1) := by decide +kernel
theorem dX12_goesAhead_1 : decode cX12_goesAhead 1 = .ok (.getfield 98, 3) := by decide +kernel
theorem dX12_goesAhead_4 : decode cX12_goesAhead 4 = .ok (.sipush 233, 3) := by decide +kernel
theorem dX12_goesAhead_7 : decode cX12_goesAhead 7 = .ok (.iload_n 1, 1) := by decide +kernel
theorem dX12_goesAhead_8 : decode cX12_goesAhead 8 = .ok (.iadd, 1) := by decide +kernel
theorem dX12_goesAhead_9 : decode cX12_goesAhead 9 = .ok (.iaload, 1) := by decide +kernel
theorem dX12_goesAhead_10 : decode cX12_goesAhead 10 = .ok (.aload_n 0, 1) := by decide +kernel
theorem dX12_goesAhead_11 : decode cX12_goesAhead 11 = .ok (.getfield 98, 3) := by decide +kernel
theorem dX12_goesAhead_14 : decode cX12_goesAhead 14 = .ok (.bipush 13, 2) := by decide +kernel
theorem dX12_goesAhead_16 : decode cX12_goesAhead 16 = .ok (.aload_n 0, 1) := by decide +kernel
theorem dX12_goesAhead_17 : decode cX12_goesAhead 17 = .ok (.iload_n 1, 1) := by decide +kernel
theorem dX12_goesAhead_18 : decode cX12_goesAhead 18 = .ok (.invokevirtual 333, 3) := by decide +kernel
theorem dX12_goesAhead_21 : decode cX12_goesAhead 21 = .ok (.iadd, 1) := by decide +kernel
theorem dX12_goesAhead_22 : decode cX12_goesAhead 22 = .ok (.iaload, 1) := by decide +kernel
theorem dX12_goesAhead_23 : decode cX12_goesAhead 23 = .ok (.iconst 1, 1) := by decide +kernel
theorem dX12_goesAhead_24 : decode cX12_goesAhead 24 = .ok (.isub, 1) := by decide +kernel
theorem dX12_goesAhead_25 : decode cX12_goesAhead 25 = .ok (.if_icmp .ne 19, 3) := by decide +kernel
theorem dX12_goesAhead_28 : decode cX12_goesAhead 28 = .ok (.aload_n 0, 1) := by decide +kernel
theorem dX12_goesAhead_29 : decode cX12_goesAhead 29 = .ok (.aload_n 0, 1) := by decide +kernel
theorem dX12_goesAhead_30 : decode cX12_goesAhead 30 = .ok (.iload_n 1, 1) := by decide +kernel
theorem dX12_goesAhead_31 : decode cX12_goesAhead 31 = .ok (.invokevirtual 333, 3) := by decide +kernel
theorem dX12_goesAhead_34 : decode cX12_goesAhead 34 = .ok (.invokevirtual 318, 3) := by decide +kernel
theorem dX12_goesAhead_37 : decode cX12_goesAhead 37 = .ok (.ifCond .eq 7, 3) := by decide +kernel
theorem dX12_goesAhead_40 : decode cX12_goesAhead 40 = .ok (.iconst 1, 1) := by decide +kernel
theorem dX12_goesAhead_41 : decode cX12_goesAhead 41 = .ok (.goto 4, 3) := by decide +kernel
theorem dX12_goesAhead_44 : decode cX12_goesAhead 44 = .ok (.iconst 0, 1) := by decide +kernel
theorem dX12_goesAhead_45 : decode cX12_goesAhead 45 = .ok (.ireturn, 1) := by decide +kernel
theorem dX12_whyStop_0 : decode cX12_whyStop 0 = .ok (.aload_n 0, 1) := by decide +kernel
theorem dX12_whyStop_1 : decode cX12_whyStop 1 = .ok (.getfield 98, 3) := by decide +kernel
theorem dX12_whyStop_4 : decode cX12_whyStop 4 = .ok (.bipush 18, 2) := by decide +kernel
theorem dX12_whyStop_6 : decode cX12_whyStop 6 = .ok (.aload_n 0, 1) := by decide +kernel
theorem dX12_whyStop_7 : decode cX12_whyStop 7 = .ok (.iload_n 1, 1) := by decide +kernel
theorem dX12_whyStop_8 : decode cX12_whyStop 8 = .ok (.invokevirtual 349, 3) := by decide +kernel
theorem dX12_whyStop_11 : decode cX12_whyStop 11 = .ok (.iadd, 1) := by decide +kernel
theorem dX12_whyStop_12 : decode cX12_whyStop 12 = .ok (.iaload, 1) := by decide +kernel
theorem dX12_whyStop_13 : decode cX12_whyStop 13 = .ok (.istore_n 2, 1) := by decide +kernel
theorem dX12_whyStop_14 : decode cX12_whyStop 14 = .ok (.iload_n 2, 1) := by decide +kernel
theorem dX12_whyStop_15 : decode cX12_whyStop 15 = .ok (.iconst 3, 1) := by decide +kernel
theorem dX12_whyStop_16 : decode cX12_whyStop 16 = .ok (.if_icmp .eq 8, 3) := by decide +kernel
theorem dX12_whyStop_19 : decode cX12_whyStop 19 = .ok (.iload_n 2, 1) := by decide +kernel
theorem dX12_whyStop_20 : decode cX12_whyStop 20 = .ok (.iconst 4, 1) := by decide +kernel
theorem dX12_whyStop_21 : decode cX12_whyStop 21 = .ok (.if_icmp .ne 15, 3) := by decide +kernel
theorem dX12_whyStop_24 : decode cX12_whyStop 24 = .ok (.aload_n 0, 1) := by decide +kernel
theorem dX12_whyStop_25 : decode cX12_whyStop 25 = .ok (.iload_n 1, 1) := by decide +kernel
theorem dX12_whyStop_26 : decode cX12_whyStop 26 = .ok (.iconst 0, 1) := by decide +kernel
theorem dX12_whyStop_27 : decode cX12_whyStop 27 = .ok (.invokevirtual 355, 3) := by decide +kernel
theorem dX12_whyStop_30 : decode cX12_whyStop 30 = .ok (.iconst 1, 1) := by decide +kernel
theorem dX12_whyStop_31 : decode cX12_whyStop 31 = .ok (.if_icmp .ne 5, 3) := by decide +kernel
theorem dX12_whyStop_34 : decode cX12_whyStop 34 = .ok (.iconst 1, 1) := by decide +kernel
theorem dX12_whyStop_35 : decode cX12_whyStop 35 = .ok (.ireturn, 1) := by decide +kernel
theorem dX12_whyStop_36 : decode cX12_whyStop 36 = .ok (.iload_n 2, 1) := by decide +kernel
theorem dX12_whyStop_37 : decode cX12_whyStop 37 = .ok (.iconst 5, 1) := by decide +kernel
theorem dX12_whyStop_38 : decode cX12_whyStop 38 = .ok (.if_icmp .eq 9, 3) := by decide +kernel
theorem dX12_whyStop_41 : decode cX12_whyStop 41 = .ok (.iload_n 2, 1) := by decide +kernel
theorem dX12_whyStop_42 : decode cX12_whyStop 42 = .ok (.bipush 6, 2) := by decide +kernel
theorem dX12_whyStop_44 : decode cX12_whyStop 44 = .ok (.if_icmp .ne 25, 3) := by decide +kernel
theorem dX12_whyStop_47 : decode cX12_whyStop 47 = .ok (.aload_n 0, 1) := by decide +kernel
theorem dX12_whyStop_48 : decode cX12_whyStop 48 = .ok (.iload_n 1, 1) := by decide +kernel
theorem dX12_whyStop_49 : decode cX12_whyStop 49 = .ok (.iconst 0, 1) := by decide +kernel
theorem dX12_whyStop_50 : decode cX12_whyStop 50 = .ok (.invokevirtual 355, 3) := by decide +kernel
theorem dX12_whyStop_53 : decode cX12_whyStop 53 = .ok (.iconst 2, 1) := by decide +kernel
theorem dX12_whyStop_54 : decode cX12_whyStop 54 = .ok (.if_icmp .eq 13, 3) := by decide +kernel
theorem dX12_whyStop_57 : decode cX12_whyStop 57 = .ok (.aload_n 0, 1) := by decide +kernel
theorem dX12_whyStop_58 : decode cX12_whyStop 58 = .ok (.iload_n 1, 1) := by decide +kernel
theorem dX12_whyStop_59 : decode cX12_whyStop 59 = .ok (.iconst 1, 1) := by decide +kernel
theorem dX12_whyStop_60 : decode cX12_whyStop 60 = .ok (.invokevirtual 355, 3) := by decide +kernel
theorem dX12_whyStop_63 : decode cX12_whyStop 63 = .ok (.iconst 2, 1) := by decide +kernel
theorem dX12_whyStop_64 : decode cX12_whyStop 64 = .ok (.if_icmp .ne 5, 3) := by decide +kernel
theorem dX12_whyStop_67 : decode cX12_whyStop 67 = .ok (.iconst 2, 1) := by decide +kernel
theorem dX12_whyStop_68 : decode cX12_whyStop 68 = .ok (.ireturn, 1) := by decide +kernel
theorem dX12_whyStop_69 : decode cX12_whyStop 69 = .ok (.iload_n 2, 1) := by decide +kernel
theorem dX12_whyStop_70 : decode cX12_whyStop 70 = .ok (.bipush 7, 2) := by decide +kernel
theorem dX12_whyStop_72 : decode cX12_whyStop 72 = .ok (.if_icmp .eq 9, 3) := by decide +kernel
theorem dX12_whyStop_75 : decode cX12_whyStop 75 = .ok (.iload_n 2, 1) := by decide +kernel
theorem dX12_whyStop_76 : decode cX12_whyStop 76 = .ok (.bipush 9, 2) := by decide +kernel
theorem dX12_whyStop_78 : decode cX12_whyStop 78 = .ok (.if_icmp .ne 15, 3) := by decide +kernel
theorem dX12_whyStop_81 : decode cX12_whyStop 81 = .ok (.aload_n 0, 1) := by decide +kernel
theorem dX12_whyStop_82 : decode cX12_whyStop 82 = .ok (.iload_n 1, 1) := by decide +kernel
theorem dX12_whyStop_83 : decode cX12_whyStop 83 = .ok (.iconst 0, 1) := by decide +kernel
theorem dX12_whyStop_84 : decode cX12_whyStop 84 = .ok (.invokevirtual 355, 3) := by decide +kernel
theorem dX12_whyStop_87 : decode cX12_whyStop 87 = .ok (.iconst 2, 1) := by decide +kernel
theorem dX12_whyStop_88 : decode cX12_whyStop 88 = .ok (.if_icmp .ne 5, 3) := by decide +kernel
theorem dX12_whyStop_91 : decode cX12_whyStop 91 = .ok (.iconst 2, 1) := by decide +kernel
theorem dX12_whyStop_92 : decode cX12_whyStop 92 = .ok (.ireturn, 1) := by decide +kernel
theorem dX12_whyStop_93 : decode cX12_whyStop 93 = .ok (.aload_n 0, 1) := by decide +kernel
theorem dX12_whyStop_94 : decode cX12_whyStop 94 = .ok (.iload_n 1, 1) := by decide +kernel
theorem dX12_whyStop_95 : decode cX12_whyStop 95 = .ok (.invokevirtual 358, 3) := by decide +kernel
theorem dX12_whyStop_98 : decode cX12_whyStop 98 = .ok (.ifCond .eq 26, 3) := by decide +kernel
theorem dX12_whyStop_101 : decode cX12_whyStop 101 = .ok (.aload_n 0, 1) := by decide +kernel
theorem dX12_whyStop_102 : decode cX12_whyStop 102 = .ok (.getfield 98, 3) := by decide +kernel
theorem dX12_whyStop_105 : decode cX12_whyStop 105 = .ok (.sipush 212, 3) := by decide +kernel
theorem dX12_whyStop_108 : decode cX12_whyStop 108 = .ok (.iaload, 1) := by decide +kernel
theorem dX12_whyStop_109 : decode cX12_whyStop 109 = .ok (.bipush 12, 2) := by decide +kernel
theorem dX12_whyStop_111 : decode cX12_whyStop 111 = .ok (.if_icmp .ne 13, 3) := by decide +kernel
theorem dX12_whyStop_114 : decode cX12_whyStop 114 = .ok (.aload_n 0, 1) := by decide +kernel
theorem dX12_whyStop_115 : decode cX12_whyStop 115 = .ok (.iload_n 1, 1) := by decide +kernel
theorem dX12_whyStop_116 : decode cX12_whyStop 116 = .ok (.invokevirtual 361, 3) := by decide +kernel
theorem dX12_whyStop_119 : decode cX12_whyStop 119 = .ok (.ifCond .ne 5, 3) := by decide +kernel
theorem dX12_whyStop_122 : decode cX12_whyStop 122 = .ok (.iconst 3, 1) := by decide +kernel
theorem dX12_whyStop_123 : decode cX12_whyStop 123 = .ok (.ireturn, 1) := by decide +kernel
theorem dX12_whyStop_124 : decode cX12_whyStop 124 = .ok (.iload_n 2, 1) := by decide +kernel
theorem dX12_whyStop_125 : decode cX12_whyStop 125 = .ok (.iconst 2, 1) := by decide +kernel
theorem dX12_whyStop_126 : decode cX12_whyStop 126 = .ok (.if_icmp .ne 19, 3) := by decide +kernel
theorem dX12_whyStop_129 : decode cX12_whyStop 129 = .ok (.aload_n 0, 1) := by decide +kernel
theorem dX12_whyStop_130 : decode cX12_whyStop 130 = .ok (.getfield 98, 3) := by decide +kernel
theorem dX12_whyStop_133 : decode cX12_whyStop 133 = .ok (.sipush 213, 3) := by decide +kernel
theorem dX12_whyStop_136 : decode cX12_whyStop 136 = .ok (.iaload, 1) := by decide +kernel
theorem dX12_whyStop_137 : decode cX12_whyStop 137 = .ok (.sipush 200, 3) := by decide +kernel
theorem dX12_whyStop_140 : decode cX12_whyStop 140 = .ok (.if_icmp .ne 5, 3) := by decide +kernel
theorem dX12_whyStop_143 : decode cX12_whyStop 143 = .ok (.iconst 4, 1) := by decide +kernel
theorem dX12_whyStop_144 : decode cX12_whyStop 144 = .ok (.ireturn, 1) := by decide +kernel
theorem dX12_whyStop_145 : decode cX12_whyStop 145 = .ok (.aload_n 0, 1) := by decide +kernel
theorem dX12_whyStop_146 : decode cX12_whyStop 146 = .ok (.getfield 98, 3) := by decide +kernel
theorem dX12_whyStop_149 : decode cX12_whyStop 149 = .ok (.sipush 216, 3) := by decide +kernel
theorem dX12_whyStop_152 : decode cX12_whyStop 152 = .ok (.iaload, 1) := by decide +kernel
theorem dX12_whyStop_153 : decode cX12_whyStop 153 = .ok (.sipush 5000, 3) := by decide +kernel
theorem dX12_whyStop_156 : decode cX12_whyStop 156 = .ok (.if_icmp .ne 7, 3) := by decide +kernel
theorem dX12_whyStop_159 : decode cX12_whyStop 159 = .ok (.iconst 5, 1) := by decide +kernel
theorem dX12_whyStop_160 : decode cX12_whyStop 160 = .ok (.goto 4, 3) := by decide +kernel
theorem dX12_whyStop_163 : decode cX12_whyStop 163 = .ok (.iconst 0, 1) := by decide +kernel
theorem dX12_whyStop_164 : decode cX12_whyStop 164 = .ok (.ireturn, 1) := by decide +kernel
theorem dX12_layCell_0 : decode cX12_layCell 0 = .ok (.iconst 0, 1) := by decide +kernel
theorem dX12_layCell_1 : decode cX12_layCell 1 = .ok (.istore_n 2, 1) := by decide +kernel
theorem dX12_layCell_2 : decode cX12_layCell 2 = .ok (.aload_n 0, 1) := by decide +kernel
theorem dX12_layCell_3 : decode cX12_layCell 3 = .ok (.getfield 98, 3) := by decide +kernel
theorem dX12_layCell_6 : decode cX12_layCell 6 = .ok (.sipush 893, 3) := by decide +kernel
theorem dX12_layCell_9 : decode cX12_layCell 9 = .ok (.iload_n 2, 1) := by decide +kernel
theorem dX12_layCell_10 : decode cX12_layCell 10 = .ok (.iadd, 1) := by decide +kernel
theorem dX12_layCell_11 : decode cX12_layCell 11 = .ok (.iaload, 1) := by decide +kernel
theorem dX12_layCell_12 : decode cX12_layCell 12 = .ok (.iconst (-1), 1) := by decide +kernel
theorem dX12_layCell_13 : decode cX12_layCell 13 = .ok (.if_icmp .eq 9, 3) := by decide +kernel
theorem dX12_layCell_16 : decode cX12_layCell 16 = .ok (.iinc 2 1, 3) := by decide +kernel
theorem dX12_layCell_19 : decode cX12_layCell 19 = .ok (.goto (-17), 3) := by decide +kernel
theorem dX12_layCell_22 : decode cX12_layCell 22 = .ok (.aload_n 0, 1) := by decide +kernel
theorem dX12_layCell_23 : decode cX12_layCell 23 = .ok (.iload_n 1, 1) := by decide +kernel
theorem dX12_layCell_24 : decode cX12_layCell 24 = .ok (.invokevirtual 333, 3) := by decide +kernel
theorem dX12_layCell_27 : decode cX12_layCell 27 = .ok (.istore_n 3, 1) := by decide +kernel
theorem dX12_layCell_28 : decode cX12_layCell 28 = .ok (.aload_n 0, 1) := by decide +kernel
theorem dX12_layCell_29 : decode cX12_layCell 29 = .ok (.getfield 139, 3) := by decide +kernel
theorem dX12_layCell_32 : decode cX12_layCell 32 = .ok (.aload_n 0, 1) := by decide +kernel
theorem dX12_layCell_33 : decode cX12_layCell 33 = .ok (.iload_n 3, 1) := by decide +kernel
theorem dX12_layCell_34 : decode cX12_layCell 34 = .ok (.aload_n 0, 1) := by decide +kernel
theorem dX12_layCell_35 : decode cX12_layCell 35 = .ok (.iload_n 3, 1) := by decide +kernel
theorem dX12_layCell_36 : decode cX12_layCell 36 = .ok (.aload_n 0, 1) := by decide +kernel
theorem dX12_layCell_37 : decode cX12_layCell 37 = .ok (.iload_n 1, 1) := by decide +kernel
theorem dX12_layCell_38 : decode cX12_layCell 38 = .ok (.invokevirtual 349, 3) := by decide +kernel
theorem dX12_layCell_41 : decode cX12_layCell 41 = .ok (.invokevirtual 262, 3) := by decide +kernel
theorem dX12_layCell_44 : decode cX12_layCell 44 = .ok (.invokevirtual 265, 3) := by decide +kernel
theorem dX12_layCell_47 : decode cX12_layCell 47 = .ok (.iaload, 1) := by decide +kernel
theorem dX12_layCell_48 : decode cX12_layCell 48 = .ok (.istore 4, 2) := by decide +kernel
theorem dX12_layCell_50 : decode cX12_layCell 50 = .ok (.aload_n 0, 1) := by decide +kernel
theorem dX12_layCell_51 : decode cX12_layCell 51 = .ok (.getfield 98, 3) := by decide +kernel
theorem dX12_layCell_54 : decode cX12_layCell 54 = .ok (.sipush 893, 3) := by decide +kernel
theorem dX12_layCell_57 : decode cX12_layCell 57 = .ok (.iload_n 2, 1) := by decide +kernel
theorem dX12_layCell_58 : decode cX12_layCell 58 = .ok (.iadd, 1) := by decide +kernel
theorem dX12_layCell_59 : decode cX12_layCell 59 = .ok (.iload 4, 2) := by decide +kernel
theorem dX12_layCell_61 : decode cX12_layCell 61 = .ok (.iastore, 1) := by decide +kernel
theorem dX12_layCell_62 : decode cX12_layCell 62 = .ok (.aload_n 0, 1) := by decide +kernel
theorem dX12_layCell_63 : decode cX12_layCell 63 = .ok (.getfield 98, 3) := by decide +kernel
theorem dX12_layCell_66 : decode cX12_layCell 66 = .ok (.sipush 1093, 3) := by decide +kernel
theorem dX12_layCell_69 : decode cX12_layCell 69 = .ok (.iload_n 2, 1) := by decide +kernel
theorem dX12_layCell_70 : decode cX12_layCell 70 = .ok (.iadd, 1) := by decide +kernel
theorem dX12_layCell_71 : decode cX12_layCell 71 = .ok (.aload_n 0, 1) := by decide +kernel
theorem dX12_layCell_72 : decode cX12_layCell 72 = .ok (.iload 4, 2) := by decide +kernel
theorem dX12_layCell_74 : decode cX12_layCell 74 = .ok (.invokevirtual 364, 3) := by decide +kernel
theorem dX12_layCell_77 : decode cX12_layCell 77 = .ok (.iastore, 1) := by decide +kernel
theorem dX12_layCell_78 : decode cX12_layCell 78 = .ok (.iconst 0, 1) := by decide +kernel
theorem dX12_layCell_79 : decode cX12_layCell 79 = .ok (.istore 5, 2) := by decide +kernel
theorem dX12_layCell_81 : decode cX12_layCell 81 = .ok (.iload 5, 2) := by decide +kernel
theorem dX12_layCell_83 : decode cX12_layCell 83 = .ok (.iconst 2, 1) := by decide +kernel
theorem dX12_layCell_84 : decode cX12_layCell 84 = .ok (.if_icmp .ge 53, 3) := by decide +kernel
theorem dX12_layCell_87 : decode cX12_layCell 87 = .ok (.aload_n 0, 1) := by decide +kernel
theorem dX12_layCell_88 : decode cX12_layCell 88 = .ok (.getfield 98, 3) := by decide +kernel
theorem dX12_layCell_91 : decode cX12_layCell 91 = .ok (.sipush 1293, 3) := by decide +kernel
theorem dX12_layCell_94 : decode cX12_layCell 94 = .ok (.iconst 2, 1) := by decide +kernel
theorem dX12_layCell_95 : decode cX12_layCell 95 = .ok (.iload_n 2, 1) := by decide +kernel
theorem dX12_layCell_96 : decode cX12_layCell 96 = .ok (.imul, 1) := by decide +kernel
theorem dX12_layCell_97 : decode cX12_layCell 97 = .ok (.iadd, 1) := by decide +kernel
theorem dX12_layCell_98 : decode cX12_layCell 98 = .ok (.iload 5, 2) := by decide +kernel
theorem dX12_layCell_100 : decode cX12_layCell 100 = .ok (.iadd, 1) := by decide +kernel
theorem dX12_layCell_101 : decode cX12_layCell 101 = .ok (.aload_n 0, 1) := by decide +kernel
theorem dX12_layCell_102 : decode cX12_layCell 102 = .ok (.iload_n 1, 1) := by decide +kernel
theorem dX12_layCell_103 : decode cX12_layCell 103 = .ok (.iload 5, 2) := by decide +kernel
theorem dX12_layCell_105 : decode cX12_layCell 105 = .ok (.invokevirtual 355, 3) := by decide +kernel
theorem dX12_layCell_108 : decode cX12_layCell 108 = .ok (.iastore, 1) := by decide +kernel
theorem dX12_layCell_109 : decode cX12_layCell 109 = .ok (.aload_n 0, 1) := by decide +kernel
theorem dX12_layCell_110 : decode cX12_layCell 110 = .ok (.getfield 98, 3) := by decide +kernel
theorem dX12_layCell_113 : decode cX12_layCell 113 = .ok (.sipush 1693, 3) := by decide +kernel
theorem dX12_layCell_116 : decode cX12_layCell 116 = .ok (.iconst 2, 1) := by decide +kernel
theorem dX12_layCell_117 : decode cX12_layCell 117 = .ok (.iload_n 2, 1) := by decide +kernel
theorem dX12_layCell_118 : decode cX12_layCell 118 = .ok (.imul, 1) := by decide +kernel
theorem dX12_layCell_119 : decode cX12_layCell 119 = .ok (.iadd, 1) := by decide +kernel
theorem dX12_layCell_120 : decode cX12_layCell 120 = .ok (.iload 5, 2) := by decide +kernel
theorem dX12_layCell_122 : decode cX12_layCell 122 = .ok (.iadd, 1) := by decide +kernel
theorem dX12_layCell_123 : decode cX12_layCell 123 = .ok (.aload_n 0, 1) := by decide +kernel
theorem dX12_layCell_124 : decode cX12_layCell 124 = .ok (.iload_n 1, 1) := by decide +kernel
theorem dX12_layCell_125 : decode cX12_layCell 125 = .ok (.iload 5, 2) := by decide +kernel
theorem dX12_layCell_127 : decode cX12_layCell 127 = .ok (.invokevirtual 352, 3) := by decide +kernel
theorem dX12_layCell_130 : decode cX12_layCell 130 = .ok (.iastore, 1) := by decide +kernel
theorem dX12_layCell_131 : decode cX12_layCell 131 = .ok (.iinc 5 1, 3) := by decide +kernel
theorem dX12_layCell_134 : decode cX12_layCell 134 = .ok (.goto (-53), 3) := by decide +kernel
theorem dX12_layCell_137 : decode cX12_layCell 137 = .ok (.aload_n 0, 1) := by decide +kernel
theorem dX12_layCell_138 : decode cX12_layCell 138 = .ok (.getfield 98, 3) := by decide +kernel
theorem dX12_layCell_141 : decode cX12_layCell 141 = .ok (.sipush 213, 3) := by decide +kernel
theorem dX12_layCell_144 : decode cX12_layCell 144 = .ok (.dup2, 1) := by decide +kernel
theorem dX12_layCell_145 : decode cX12_layCell 145 = .ok (.iaload, 1) := by decide +kernel
theorem dX12_layCell_146 : decode cX12_layCell 146 = .ok (.iconst 1, 1) := by decide +kernel
theorem dX12_layCell_147 : decode cX12_layCell 147 = .ok (.iadd, 1) := by decide +kernel
theorem dX12_layCell_148 : decode cX12_layCell 148 = .ok (.iastore, 1) := by decide +kernel
theorem dX12_layCell_149 : decode cX12_layCell 149 = .ok (.aload_n 0, 1) := by decide +kernel
theorem dX12_layCell_150 : decode cX12_layCell 150 = .ok (.getfield 98, 3) := by decide +kernel
theorem dX12_layCell_153 : decode cX12_layCell 153 = .ok (.sipush 217, 3) := by decide +kernel
theorem dX12_layCell_156 : decode cX12_layCell 156 = .ok (.dup2, 1) := by decide +kernel
theorem dX12_layCell_157 : decode cX12_layCell 157 = .ok (.iaload, 1) := by decide +kernel
theorem dX12_layCell_158 : decode cX12_layCell 158 = .ok (.iconst 1, 1) := by decide +kernel
theorem dX12_layCell_159 : decode cX12_layCell 159 = .ok (.iadd, 1) := by decide +kernel
theorem dX12_layCell_160 : decode cX12_layCell 160 = .ok (.iastore, 1) := by decide +kernel
theorem dX12_layCell_161 : decode cX12_layCell 161 = .ok (.aload_n 0, 1) := by decide +kernel
theorem dX12_layCell_162 : decode cX12_layCell 162 = .ok (.getfield 98, 3) := by decide +kernel
theorem dX12_layCell_165 : decode cX12_layCell 165 = .ok (.sipush 213, 3) := by decide +kernel
theorem dX12_layCell_168 : decode cX12_layCell 168 = .ok (.iaload, 1) := by decide +kernel
theorem dX12_layCell_169 : decode cX12_layCell 169 = .ok (.aload_n 0, 1) := by decide +kernel
theorem dX12_layCell_170 : decode cX12_layCell 170 = .ok (.getfield 98, 3) := by decide +kernel
theorem dX12_layCell_173 : decode cX12_layCell 173 = .ok (.sipush 215, 3) := by decide +kernel
theorem dX12_layCell_176 : decode cX12_layCell 176 = .ok (.iaload, 1) := by decide +kernel
theorem dX12_layCell_177 : decode cX12_layCell 177 = .ok (.if_icmp .le 19, 3) := by decide +kernel
theorem dX12_layCell_180 : decode cX12_layCell 180 = .ok (.aload_n 0, 1) := by decide +kernel
theorem dX12_layCell_181 : decode cX12_layCell 181 = .ok (.getfield 98, 3) := by decide +kernel
theorem dX12_layCell_184 : decode cX12_layCell 184 = .ok (.sipush 215, 3) := by decide +kernel
theorem dX12_layCell_187 : decode cX12_layCell 187 = .ok (.aload_n 0, 1) := by decide +kernel
theorem dX12_layCell_188 : decode cX12_layCell 188 = .ok (.getfield 98, 3) := by decide +kernel
theorem dX12_layCell_191 : decode cX12_layCell 191 = .ok (.sipush 213, 3) := by decide +kernel
theorem dX12_layCell_194 : decode cX12_layCell 194 = .ok (.iaload, 1) := by decide +kernel
theorem dX12_layCell_195 : decode cX12_layCell 195 = .ok (.iastore, 1) := by decide +kernel
theorem dX12_layCell_196 : decode cX12_layCell 196 = .ok (.iload_n 2, 1) := by decide +kernel
theorem dX12_layCell_197 : decode cX12_layCell 197 = .ok (.ireturn, 1) := by decide +kernel
theorem dX12_frees_0 : decode cX12_frees 0 = .ok (.aload_n 0, 1) := by decide +kernel
theorem dX12_frees_1 : decode cX12_frees 1 = .ok (.iload_n 1, 1) := by decide +kernel
theorem dX12_frees_2 : decode cX12_frees 2 = .ok (.invokevirtual 333, 3) := by decide +kernel
theorem dX12_frees_5 : decode cX12_frees 5 = .ok (.istore_n 2, 1) := by decide +kernel
theorem dX12_frees_6 : decode cX12_frees 6 = .ok (.iconst 0, 1) := by decide +kernel
theorem dX12_frees_7 : decode cX12_frees 7 = .ok (.istore_n 3, 1) := by decide +kernel
theorem dX12_frees_8 : decode cX12_frees 8 = .ok (.iload_n 3, 1) := by decide +kernel
