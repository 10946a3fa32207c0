/-! What stands at each place of the methods 140 to 140. Printed by a program. -/
theorem p140_0 : ps_nw 140 0 0 3 := ⟨8, by decide +kernel, by decide +kernel⟩
theorem p140_3 : ps_pu 140 3 (.dup) 4 := (by decide +kernel : ps_i 140 3 = some (.dup, 4))
theorem p140_4 : ps_la 140 4 0 5 := ⟨.aload_n 0, by decide +kernel, fun _ _ => rfl⟩
theorem p140_5 : ps_k 140 5 (Int32.ofNat 0) 6 := ⟨.iconst 0, by decide +kernel, fun _ _ => rfl⟩
theorem p140_6 : ps_vS 140 6 27 2 9 := ⟨48, by decide +kernel, by decide +kernel, by decide +kernel, by decide +kernel⟩
theorem p140_9 : ps_vP 140 9 0 1 12 := ⟨54, by decide +kernel, by decide +kernel, by decide +kernel, by decide +kernel⟩
theorem p140_12 : ps_sa 140 12 1 13 := ⟨.astore_n 1, by decide +kernel, fun _ _ => rfl⟩
theorem p140_13 : ps_nw 140 13 9 16 := ⟨57, by decide +kernel, by decide +kernel⟩
theorem p140_16 : ps_pu 140 16 (.dup) 17 := (by decide +kernel : ps_i 140 16 = some (.dup, 17))
theorem p140_17 : ps_la 140 17 0 18 := ⟨.aload_n 0, by decide +kernel, fun _ _ => rfl⟩
theorem p140_18 : ps_k 140 18 (Int32.ofNat 0) 19 := ⟨.iconst 0, by decide +kernel, fun _ _ => rfl⟩
theorem p140_19 : ps_vS 140 19 27 2 22 := ⟨48, by decide +kernel, by decide +kernel, by decide +kernel, by decide +kernel⟩
theorem p140_22 : ps_vP 140 22 97 1 25 := ⟨59, by decide +kernel, by decide +kernel, by decide +kernel, by decide +kernel⟩
theorem p140_25 : ps_sa 140 25 2 26 := ⟨.astore_n 2, by decide +kernel, fun _ _ => rfl⟩
theorem p140_26 : ps_k 140 26 (Int32.ofNat 1) 27 := ⟨.iconst 1, by decide +kernel, fun _ _ => rfl⟩
theorem p140_27 : ps_pu 140 27 (.newarray .long) 29 := (by decide +kernel : ps_i 140 27 = some (.newarray .long, 29))
theorem p140_29 : ps_sa 140 29 3 30 := ⟨.astore_n 3, by decide +kernel, fun _ _ => rfl⟩
theorem p140_30 : ps_k 140 30 (Int32.ofNat 1) 31 := ⟨.iconst 1, by decide +kernel, fun _ _ => rfl⟩
theorem p140_31 : ps_si 140 31 4 33 := ⟨.istore 4, by decide +kernel, fun _ _ => rfl⟩
theorem p140_33 : ps_ld 140 33 4 35 := ⟨.iload 4, by decide +kernel, fun _ _ => rfl⟩
theorem p140_35 : ps_la 140 35 0 36 := ⟨.aload_n 0, by decide +kernel, fun _ _ => rfl⟩
theorem p140_36 : ps_pu 140 36 (.arraylength) 37 := (by decide +kernel : ps_i 140 36 = some (.arraylength, 37))
theorem p140_37 : ps_k 140 37 (Int32.ofNat 3) 38 := ⟨.iconst 3, by decide +kernel, fun _ _ => rfl⟩
theorem p140_38 : ps_b 140 38 (· - ·) 39 := ⟨.isub, by decide +kernel, fun _ _ => rfl⟩
theorem p140_39 : ps_j 140 39 .gt 842 42 := ⟨803, by decide +kernel, by decide +kernel, by decide +kernel⟩
theorem p140_42 : ps_la 140 42 0 43 := ⟨.aload_n 0, by decide +kernel, fun _ _ => rfl⟩
theorem p140_43 : ps_ld 140 43 4 45 := ⟨.iload 4, by decide +kernel, fun _ _ => rfl⟩
theorem p140_45 : ps_pu 140 45 (.iaload) 46 := (by decide +kernel : ps_i 140 45 = some (.iaload, 46))
theorem p140_46 : ps_k 140 46 (Int32.ofNat 31) 48 := ⟨.bipush 31, by decide +kernel, fun _ _ => rfl⟩
theorem p140_48 : ps_b 140 48 (· &&& ·) 49 := ⟨.iand, by decide +kernel, fun _ _ => rfl⟩
theorem p140_49 : ps_pu 140 49 (.tableswitch 787 0 17 #[87, 143, 199, 224, 268, 336, 361, 417, 473, 517, 561, 617, 673, 686, 699, 712, 737, 774]) 136 := (by decide +kernel : ps_i 140 49 = some (.tableswitch 787 0 17 #[87, 143, 199, 224, 268, 336, 361, 417, 473, 517, 561, 617, 673, 686, 699, 712, 737, 774], 136))
theorem p140_136 : ps_la 140 136 1 137 := ⟨.aload_n 1, by decide +kernel, fun _ _ => rfl⟩
theorem p140_137 : ps_la 140 137 0 138 := ⟨.aload_n 0, by decide +kernel, fun _ _ => rfl⟩
theorem p140_138 : ps_ld 140 138 4 140 := ⟨.iload 4, by decide +kernel, fun _ _ => rfl⟩
theorem p140_140 : ps_k 140 140 (Int32.ofNat 1) 141 := ⟨.iconst 1, by decide +kernel, fun _ _ => rfl⟩
theorem p140_141 : ps_b 140 141 (· + ·) 142 := ⟨.iadd, by decide +kernel, fun _ _ => rfl⟩
theorem p140_142 : ps_pu 140 142 (.iaload) 143 := (by decide +kernel : ps_i 140 142 = some (.iaload, 143))
theorem p140_143 : ps_la 140 143 3 144 := ⟨.aload_n 3, by decide +kernel, fun _ _ => rfl⟩
theorem p140_144 : ps_vS 140 144 28 3 147 := ⟨60, by decide +kernel, by decide +kernel, by decide +kernel, by decide +kernel⟩
theorem p140_147 : ps_si 140 147 5 149 := ⟨.istore 5, by decide +kernel, fun _ _ => rfl⟩
theorem p140_149 : ps_la 140 149 2 150 := ⟨.aload_n 2, by decide +kernel, fun _ _ => rfl⟩
theorem p140_150 : ps_la 140 150 0 151 := ⟨.aload_n 0, by decide +kernel, fun _ _ => rfl⟩
theorem p140_151 : ps_ld 140 151 4 153 := ⟨.iload 4, by decide +kernel, fun _ _ => rfl⟩
theorem p140_153 : ps_k 140 153 (Int32.ofNat 1) 154 := ⟨.iconst 1, by decide +kernel, fun _ _ => rfl⟩
theorem p140_154 : ps_b 140 154 (· + ·) 155 := ⟨.iadd, by decide +kernel, fun _ _ => rfl⟩
theorem p140_155 : ps_pu 140 155 (.iaload) 156 := (by decide +kernel : ps_i 140 155 = some (.iaload, 156))
theorem p140_156 : ps_vV 140 156 9 99 1 159 := ⟨63, 99, by decide +kernel, by decide +kernel, by decide +kernel, by decide +kernel, by decide +kernel⟩
theorem p140_159 : ps_si 140 159 6 161 := ⟨.istore 6, by decide +kernel, fun _ _ => rfl⟩
theorem p140_161 : ps_la 140 161 2 162 := ⟨.aload_n 2, by decide +kernel, fun _ _ => rfl⟩
theorem p140_162 : ps_vV 140 162 9 98 0 165 := ⟨64, 98, by decide +kernel, by decide +kernel, by decide +kernel, by decide +kernel, by decide +kernel⟩
theorem p140_165 : ps_ld 140 165 5 167 := ⟨.iload 5, by decide +kernel, fun _ _ => rfl⟩
theorem p140_167 : ps_j 140 167 .eq 172 170 := ⟨5, by decide +kernel, by decide +kernel, by decide +kernel⟩
theorem p140_170 : ps_k 140 170 (Int32.ofNat 0) 171 := ⟨.iconst 0, by decide +kernel, fun _ _ => rfl⟩
theorem p140_171 : ps_pu 140 171 (.ireturn) 172 := (by decide +kernel : ps_i 140 171 = some (.ireturn, 172))
theorem p140_172 : ps_ld 140 172 5 174 := ⟨.iload 5, by decide +kernel, fun _ _ => rfl⟩
theorem p140_174 : ps_j0 140 174 .ne 189 177 := ⟨15, by decide +kernel, by decide +kernel, by decide +kernel⟩
theorem p140_177 : ps_la 140 177 3 178 := ⟨.aload_n 3, by decide +kernel, fun _ _ => rfl⟩
theorem p140_178 : ps_k 140 178 (Int32.ofNat 0) 179 := ⟨.iconst 0, by decide +kernel, fun _ _ => rfl⟩
theorem p140_179 : ps_pu 140 179 (.laload) 180 := (by decide +kernel : ps_i 140 179 = some (.laload, 180))
theorem p140_180 : ps_ld 140 180 6 182 := ⟨.iload 6, by decide +kernel, fun _ _ => rfl⟩
theorem p140_182 : ps_pu 140 182 (.i2l) 183 := (by decide +kernel : ps_i 140 182 = some (.i2l, 183))
theorem p140_183 : ps_pu 140 183 (.lcmp) 184 := (by decide +kernel : ps_i 140 183 = some (.lcmp, 184))
theorem p140_184 : ps_j0 140 184 .eq 189 187 := ⟨5, by decide +kernel, by decide +kernel, by decide +kernel⟩
theorem p140_187 : ps_k 140 187 (Int32.ofNat 0) 188 := ⟨.iconst 0, by decide +kernel, fun _ _ => rfl⟩
theorem p140_188 : ps_pu 140 188 (.ireturn) 189 := (by decide +kernel : ps_i 140 188 = some (.ireturn, 189))
theorem p140_189 : ps_jg 140 189 836 := ⟨(647), 192, by decide +kernel, by decide +kernel, by decide +kernel⟩
theorem p140_192 : ps_la 140 192 1 193 := ⟨.aload_n 1, by decide +kernel, fun _ _ => rfl⟩
theorem p140_193 : ps_la 140 193 0 194 := ⟨.aload_n 0, by decide +kernel, fun _ _ => rfl⟩
theorem p140_194 : ps_ld 140 194 4 196 := ⟨.iload 4, by decide +kernel, fun _ _ => rfl⟩
theorem p140_196 : ps_k 140 196 (Int32.ofNat 1) 197 := ⟨.iconst 1, by decide +kernel, fun _ _ => rfl⟩
theorem p140_197 : ps_b 140 197 (· + ·) 198 := ⟨.iadd, by decide +kernel, fun _ _ => rfl⟩
theorem p140_198 : ps_pu 140 198 (.iaload) 199 := (by decide +kernel : ps_i 140 198 = some (.iaload, 199))
theorem p140_199 : ps_la 140 199 3 200 := ⟨.aload_n 3, by decide +kernel, fun _ _ => rfl⟩
theorem p140_200 : ps_vS 140 200 32 3 203 := ⟨67, by decide +kernel, by decide +kernel, by decide +kernel, by decide +kernel⟩
theorem p140_203 : ps_si 140 203 5 205 := ⟨.istore 5, by decide +kernel, fun _ _ => rfl⟩
theorem p140_205 : ps_la 140 205 2 206 := ⟨.aload_n 2, by decide +kernel, fun _ _ => rfl⟩
theorem p140_206 : ps_la 140 206 0 207 := ⟨.aload_n 0, by decide +kernel, fun _ _ => rfl⟩
theorem p140_207 : ps_ld 140 207 4 209 := ⟨.iload 4, by decide +kernel, fun _ _ => rfl⟩
theorem p140_209 : ps_k 140 209 (Int32.ofNat 1) 210 := ⟨.iconst 1, by decide +kernel, fun _ _ => rfl⟩
theorem p140_210 : ps_b 140 210 (· + ·) 211 := ⟨.iadd, by decide +kernel, fun _ _ => rfl⟩
theorem p140_211 : ps_pu 140 211 (.iaload) 212 := (by decide +kernel : ps_i 140 211 = some (.iaload, 212))
theorem p140_212 : ps_vV 140 212 9 101 1 215 := ⟨69, 101, by decide +kernel, by decide +kernel, by decide +kernel, by decide +kernel, by decide +kernel⟩
theorem p140_215 : ps_si 140 215 6 217 := ⟨.istore 6, by decide +kernel, fun _ _ => rfl⟩
theorem p140_217 : ps_la 140 217 2 218 := ⟨.aload_n 2, by decide +kernel, fun _ _ => rfl⟩
theorem p140_218 : ps_vV 140 218 9 98 0 221 := ⟨64, 98, by decide +kernel, by decide +kernel, by decide +kernel, by decide +kernel, by decide +kernel⟩
theorem p140_221 : ps_ld 140 221 5 223 := ⟨.iload 5, by decide +kernel, fun _ _ => rfl⟩
theorem p140_223 : ps_j 140 223 .eq 228 226 := ⟨5, by decide +kernel, by decide +kernel, by decide +kernel⟩
theorem p140_226 : ps_k 140 226 (Int32.ofNat 0) 227 := ⟨.iconst 0, by decide +kernel, fun _ _ => rfl⟩
theorem p140_227 : ps_pu 140 227 (.ireturn) 228 := (by decide +kernel : ps_i 140 227 = some (.ireturn, 228))
theorem p140_228 : ps_ld 140 228 5 230 := ⟨.iload 5, by decide +kernel, fun _ _ => rfl⟩
theorem p140_230 : ps_j0 140 230 .ne 245 233 := ⟨15, by decide +kernel, by decide +kernel, by decide +kernel⟩
theorem p140_233 : ps_la 140 233 3 234 := ⟨.aload_n 3, by decide +kernel, fun _ _ => rfl⟩
theorem p140_234 : ps_k 140 234 (Int32.ofNat 0) 235 := ⟨.iconst 0, by decide +kernel, fun _ _ => rfl⟩
theorem p140_235 : ps_pu 140 235 (.laload) 236 := (by decide +kernel : ps_i 140 235 = some (.laload, 236))
theorem p140_236 : ps_ld 140 236 6 238 := ⟨.iload 6, by decide +kernel, fun _ _ => rfl⟩
theorem p140_238 : ps_pu 140 238 (.i2l) 239 := (by decide +kernel : ps_i 140 238 = some (.i2l, 239))
theorem p140_239 : ps_pu 140 239 (.lcmp) 240 := (by decide +kernel : ps_i 140 239 = some (.lcmp, 240))
theorem p140_240 : ps_j0 140 240 .eq 245 243 := ⟨5, by decide +kernel, by decide +kernel, by decide +kernel⟩
theorem p140_243 : ps_k 140 243 (Int32.ofNat 0) 244 := ⟨.iconst 0, by decide +kernel, fun _ _ => rfl⟩
theorem p140_244 : ps_pu 140 244 (.ireturn) 245 := (by decide +kernel : ps_i 140 244 = some (.ireturn, 245))
theorem p140_245 : ps_jg 140 245 836 := ⟨(591), 248, by decide +kernel, by decide +kernel, by decide +kernel⟩
theorem p140_248 : ps_la 140 248 1 249 := ⟨.aload_n 1, by decide +kernel, fun _ _ => rfl⟩
theorem p140_249 : ps_la 140 249 0 250 := ⟨.aload_n 0, by decide +kernel, fun _ _ => rfl⟩
theorem p140_250 : ps_ld 140 250 4 252 := ⟨.iload 4, by decide +kernel, fun _ _ => rfl⟩
theorem p140_252 : ps_k 140 252 (Int32.ofNat 1) 253 := ⟨.iconst 1, by decide +kernel, fun _ _ => rfl⟩
theorem p140_253 : ps_b 140 253 (· + ·) 254 := ⟨.iadd, by decide +kernel, fun _ _ => rfl⟩
theorem p140_254 : ps_pu 140 254 (.iaload) 255 := (by decide +kernel : ps_i 140 254 = some (.iaload, 255))
theorem p140_255 : ps_vV 140 255 0 7 1 258 := ⟨70, 7, by decide +kernel, by decide +kernel, by decide +kernel, by decide +kernel, by decide +kernel⟩
theorem p140_258 : ps_la 140 258 2 259 := ⟨.aload_n 2, by decide +kernel, fun _ _ => rfl⟩
theorem p140_259 : ps_la 140 259 0 260 := ⟨.aload_n 0, by decide +kernel, fun _ _ => rfl⟩
theorem p140_260 : ps_ld 140 260 4 262 := ⟨.iload 4, by decide +kernel, fun _ _ => rfl⟩
theorem p140_262 : ps_k 140 262 (Int32.ofNat 1) 263 := ⟨.iconst 1, by decide +kernel, fun _ _ => rfl⟩
theorem p140_263 : ps_b 140 263 (· + ·) 264 := ⟨.iadd, by decide +kernel, fun _ _ => rfl⟩
theorem p140_264 : ps_pu 140 264 (.iaload) 265 := (by decide +kernel : ps_i 140 264 = some (.iaload, 265))
theorem p140_265 : ps_vV 140 265 9 102 1 268 := ⟨74, 102, by decide +kernel, by decide +kernel, by decide +kernel, by decide +kernel, by decide +kernel⟩
theorem p140_268 : ps_j 140 268 .eq 836 271 := ⟨568, by decide +kernel, by decide +kernel, by decide +kernel⟩
theorem p140_271 : ps_k 140 271 (Int32.ofNat 0) 272 := ⟨.iconst 0, by decide +kernel, fun _ _ => rfl⟩
theorem p140_272 : ps_pu 140 272 (.ireturn) 273 := (by decide +kernel : ps_i 140 272 = some (.ireturn, 273))
theorem p140_273 : ps_la 140 273 1 274 := ⟨.aload_n 1, by decide +kernel, fun _ _ => rfl⟩
theorem p140_274 : ps_la 140 274 3 275 := ⟨.aload_n 3, by decide +kernel, fun _ _ => rfl⟩
theorem p140_275 : ps_vS 140 275 48 2 278 := ⟨75, by decide +kernel, by decide +kernel, by decide +kernel, by decide +kernel⟩
theorem p140_278 : ps_si 140 278 5 280 := ⟨.istore 5, by decide +kernel, fun _ _ => rfl⟩
theorem p140_280 : ps_la 140 280 2 281 := ⟨.aload_n 2, by decide +kernel, fun _ _ => rfl⟩
theorem p140_281 : ps_vV 140 281 9 116 0 284 := ⟨78, 116, by decide +kernel, by decide +kernel, by decide +kernel, by decide +kernel, by decide +kernel⟩
theorem p140_284 : ps_si 140 284 6 286 := ⟨.istore 6, by decide +kernel, fun _ _ => rfl⟩
theorem p140_286 : ps_la 140 286 2 287 := ⟨.aload_n 2, by decide +kernel, fun _ _ => rfl⟩
theorem p140_287 : ps_vV 140 287 9 98 0 290 := ⟨64, 98, by decide +kernel, by decide +kernel, by decide +kernel, by decide +kernel, by decide +kernel⟩
theorem p140_290 : ps_ld 140 290 5 292 := ⟨.iload 5, by decide +kernel, fun _ _ => rfl⟩
theorem p140_292 : ps_j 140 292 .eq 297 295 := ⟨5, by decide +kernel, by decide +kernel, by decide +kernel⟩
theorem p140_295 : ps_k 140 295 (Int32.ofNat 0) 296 := ⟨.iconst 0, by decide +kernel, fun _ _ => rfl⟩
theorem p140_296 : ps_pu 140 296 (.ireturn) 297 := (by decide +kernel : ps_i 140 296 = some (.ireturn, 297))
theorem p140_297 : ps_ld 140 297 5 299 := ⟨.iload 5, by decide +kernel, fun _ _ => rfl⟩
theorem p140_299 : ps_j0 140 299 .ne 314 302 := ⟨15, by decide +kernel, by decide +kernel, by decide +kernel⟩
theorem p140_302 : ps_la 140 302 3 303 := ⟨.aload_n 3, by decide +kernel, fun _ _ => rfl⟩
theorem p140_303 : ps_k 140 303 (Int32.ofNat 0) 304 := ⟨.iconst 0, by decide +kernel, fun _ _ => rfl⟩
theorem p140_304 : ps_pu 140 304 (.laload) 305 := (by decide +kernel : ps_i 140 304 = some (.laload, 305))
theorem p140_305 : ps_ld 140 305 6 307 := ⟨.iload 6, by decide +kernel, fun _ _ => rfl⟩
theorem p140_307 : ps_pu 140 307 (.i2l) 308 := (by decide +kernel : ps_i 140 307 = some (.i2l, 308))
theorem p140_308 : ps_pu 140 308 (.lcmp) 309 := (by decide +kernel : ps_i 140 308 = some (.lcmp, 309))
theorem p140_309 : ps_j0 140 309 .eq 314 312 := ⟨5, by decide +kernel, by decide +kernel, by decide +kernel⟩
theorem p140_312 : ps_k 140 312 (Int32.ofNat 0) 313 := ⟨.iconst 0, by decide +kernel, fun _ _ => rfl⟩
theorem p140_313 : ps_pu 140 313 (.ireturn) 314 := (by decide +kernel : ps_i 140 313 = some (.ireturn, 314))
theorem p140_314 : ps_jg 140 314 836 := ⟨(522), 317, by decide +kernel, by decide +kernel, by decide +kernel⟩
theorem p140_317 : ps_la 140 317 1 318 := ⟨.aload_n 1, by decide +kernel, fun _ _ => rfl⟩
theorem p140_318 : ps_la 140 318 0 319 := ⟨.aload_n 0, by decide +kernel, fun _ _ => rfl⟩
theorem p140_319 : ps_ld 140 319 4 321 := ⟨.iload 4, by decide +kernel, fun _ _ => rfl⟩
theorem p140_321 : ps_k 140 321 (Int32.ofNat 1) 322 := ⟨.iconst 1, by decide +kernel, fun _ _ => rfl⟩
theorem p140_322 : ps_b 140 322 (· + ·) 323 := ⟨.iadd, by decide +kernel, fun _ _ => rfl⟩
theorem p140_323 : ps_pu 140 323 (.iaload) 324 := (by decide +kernel : ps_i 140 323 = some (.iaload, 324))
theorem p140_324 : ps_la 140 324 0 325 := ⟨.aload_n 0, by decide +kernel, fun _ _ => rfl⟩
theorem p140_325 : ps_ld 140 325 4 327 := ⟨.iload 4, by decide +kernel, fun _ _ => rfl⟩
theorem p140_327 : ps_k 140 327 (Int32.ofNat 2) 328 := ⟨.iconst 2, by decide +kernel, fun _ _ => rfl⟩
theorem p140_328 : ps_b 140 328 (· + ·) 329 := ⟨.iadd, by decide +kernel, fun _ _ => rfl⟩
theorem p140_329 : ps_pu 140 329 (.iaload) 330 := (by decide +kernel : ps_i 140 329 = some (.iaload, 330))
theorem p140_330 : ps_la 140 330 3 331 := ⟨.aload_n 3, by decide +kernel, fun _ _ => rfl⟩
theorem p140_331 : ps_vS 140 331 71 4 334 := ⟨79, by decide +kernel, by decide +kernel, by decide +kernel, by decide +kernel⟩
theorem p140_334 : ps_si 140 334 5 336 := ⟨.istore 5, by decide +kernel, fun _ _ => rfl⟩
theorem p140_336 : ps_la 140 336 2 337 := ⟨.aload_n 2, by decide +kernel, fun _ _ => rfl⟩
theorem p140_337 : ps_la 140 337 0 338 := ⟨.aload_n 0, by decide +kernel, fun _ _ => rfl⟩
theorem p140_338 : ps_ld 140 338 4 340 := ⟨.iload 4, by decide +kernel, fun _ _ => rfl⟩
theorem p140_340 : ps_k 140 340 (Int32.ofNat 1) 341 := ⟨.iconst 1, by decide +kernel, fun _ _ => rfl⟩
theorem p140_341 : ps_b 140 341 (· + ·) 342 := ⟨.iadd, by decide +kernel, fun _ _ => rfl⟩
theorem p140_342 : ps_pu 140 342 (.iaload) 343 := (by decide +kernel : ps_i 140 342 = some (.iaload, 343))
theorem p140_343 : ps_la 140 343 0 344 := ⟨.aload_n 0, by decide +kernel, fun _ _ => rfl⟩
theorem p140_344 : ps_ld 140 344 4 346 := ⟨.iload 4, by decide +kernel, fun _ _ => rfl⟩
theorem p140_346 : ps_k 140 346 (Int32.ofNat 2) 347 := ⟨.iconst 2, by decide +kernel, fun _ _ => rfl⟩
theorem p140_347 : ps_b 140 347 (· + ·) 348 := ⟨.iadd, by decide +kernel, fun _ _ => rfl⟩
theorem p140_348 : ps_pu 140 348 (.iaload) 349 := (by decide +kernel : ps_i 140 348 = some (.iaload, 349))
theorem p140_349 : ps_vV 140 349 9 122 2 352 := ⟨82, 122, by decide +kernel, by decide +kernel, by decide +kernel, by decide +kernel, by decide +kernel⟩
theorem p140_352 : ps_si 140 352 6 354 := ⟨.istore 6, by decide +kernel, fun _ _ => rfl⟩
theorem p140_354 : ps_la 140 354 2 355 := ⟨.aload_n 2, by decide +kernel, fun _ _ => rfl⟩
theorem p140_355 : ps_vV 140 355 9 98 0 358 := ⟨64, 98, by decide +kernel, by decide +kernel, by decide +kernel, by decide +kernel, by decide +kernel⟩
theorem p140_358 : ps_ld 140 358 5 360 := ⟨.iload 5, by decide +kernel, fun _ _ => rfl⟩
theorem p140_360 : ps_j 140 360 .eq 365 363 := ⟨5, by decide +kernel, by decide +kernel, by decide +kernel⟩
theorem p140_363 : ps_k 140 363 (Int32.ofNat 0) 364 := ⟨.iconst 0, by decide +kernel, fun _ _ => rfl⟩
theorem p140_364 : ps_pu 140 364 (.ireturn) 365 := (by decide +kernel : ps_i 140 364 = some (.ireturn, 365))
theorem p140_365 : ps_ld 140 365 5 367 := ⟨.iload 5, by decide +kernel, fun _ _ => rfl⟩
theorem p140_367 : ps_j0 140 367 .ne 382 370 := ⟨15, by decide +kernel, by decide +kernel, by decide +kernel⟩
theorem p140_370 : ps_la 140 370 3 371 := ⟨.aload_n 3, by decide +kernel, fun _ _ => rfl⟩
theorem p140_371 : ps_k 140 371 (Int32.ofNat 0) 372 := ⟨.iconst 0, by decide +kernel, fun _ _ => rfl⟩
theorem p140_372 : ps_pu 140 372 (.laload) 373 := (by decide +kernel : ps_i 140 372 = some (.laload, 373))
theorem p140_373 : ps_ld 140 373 6 375 := ⟨.iload 6, by decide +kernel, fun _ _ => rfl⟩
theorem p140_375 : ps_pu 140 375 (.i2l) 376 := (by decide +kernel : ps_i 140 375 = some (.i2l, 376))
theorem p140_376 : ps_pu 140 376 (.lcmp) 377 := (by decide +kernel : ps_i 140 376 = some (.lcmp, 377))
theorem p140_377 : ps_j0 140 377 .eq 382 380 := ⟨5, by decide +kernel, by decide +kernel, by decide +kernel⟩
theorem p140_380 : ps_k 140 380 (Int32.ofNat 0) 381 := ⟨.iconst 0, by decide +kernel, fun _ _ => rfl⟩
theorem p140_381 : ps_pu 140 381 (.ireturn) 382 := (by decide +kernel : ps_i 140 381 = some (.ireturn, 382))
theorem p140_382 : ps_jg 140 382 836 := ⟨(454), 385, by decide +kernel, by decide +kernel, by decide +kernel⟩
theorem p140_385 : ps_la 140 385 1 386 := ⟨.aload_n 1, by decide +kernel, fun _ _ => rfl⟩
theorem p140_386 : ps_la 140 386 0 387 := ⟨.aload_n 0, by decide +kernel, fun _ _ => rfl⟩
theorem p140_387 : ps_ld 140 387 4 389 := ⟨.iload 4, by decide +kernel, fun _ _ => rfl⟩
theorem p140_389 : ps_k 140 389 (Int32.ofNat 1) 390 := ⟨.iconst 1, by decide +kernel, fun _ _ => rfl⟩
theorem p140_390 : ps_b 140 390 (· + ·) 391 := ⟨.iadd, by decide +kernel, fun _ _ => rfl⟩
theorem p140_391 : ps_pu 140 391 (.iaload) 392 := (by decide +kernel : ps_i 140 391 = some (.iaload, 392))
theorem p140_392 : ps_vV 140 392 0 16 1 395 := ⟨83, 16, by decide +kernel, by decide +kernel, by decide +kernel, by decide +kernel, by decide +kernel⟩
theorem p140_395 : ps_la 140 395 2 396 := ⟨.aload_n 2, by decide +kernel, fun _ _ => rfl⟩
theorem p140_396 : ps_la 140 396 0 397 := ⟨.aload_n 0, by decide +kernel, fun _ _ => rfl⟩
theorem p140_397 : ps_ld 140 397 4 399 := ⟨.iload 4, by decide +kernel, fun _ _ => rfl⟩
theorem p140_399 : ps_k 140 399 (Int32.ofNat 1) 400 := ⟨.iconst 1, by decide +kernel, fun _ _ => rfl⟩
theorem p140_400 : ps_b 140 400 (· + ·) 401 := ⟨.iadd, by decide +kernel, fun _ _ => rfl⟩
theorem p140_401 : ps_pu 140 401 (.iaload) 402 := (by decide +kernel : ps_i 140 401 = some (.iaload, 402))
theorem p140_402 : ps_vV 140 402 9 115 1 405 := ⟨86, 115, by decide +kernel, by decide +kernel, by decide +kernel, by decide +kernel, by decide +kernel⟩
theorem p140_405 : ps_j 140 405 .eq 836 408 := ⟨431, by decide +kernel, by decide +kernel, by decide +kernel⟩
theorem p140_408 : ps_k 140 408 (Int32.ofNat 0) 409 := ⟨.iconst 0, by decide +kernel, fun _ _ => rfl⟩
theorem p140_409 : ps_pu 140 409 (.ireturn) 410 := (by decide +kernel : ps_i 140 409 = some (.ireturn, 410))
theorem p140_410 : ps_la 140 410 1 411 := ⟨.aload_n 1, by decide +kernel, fun _ _ => rfl⟩
theorem p140_411 : ps_la 140 411 0 412 := ⟨.aload_n 0, by decide +kernel, fun _ _ => rfl⟩
theorem p140_412 : ps_ld 140 412 4 414 := ⟨.iload 4, by decide +kernel, fun _ _ => rfl⟩
theorem p140_414 : ps_k 140 414 (Int32.ofNat 1) 415 := ⟨.iconst 1, by decide +kernel, fun _ _ => rfl⟩
theorem p140_415 : ps_b 140 415 (· + ·) 416 := ⟨.iadd, by decide +kernel, fun _ _ => rfl⟩
theorem p140_416 : ps_pu 140 416 (.iaload) 417 := (by decide +kernel : ps_i 140 416 = some (.iaload, 417))
theorem p140_417 : ps_la 140 417 3 418 := ⟨.aload_n 3, by decide +kernel, fun _ _ => rfl⟩
theorem p140_418 : ps_vS 140 418 74 3 421 := ⟨87, by decide +kernel, by decide +kernel, by decide +kernel, by decide +kernel⟩
theorem p140_421 : ps_si 140 421 5 423 := ⟨.istore 5, by decide +kernel, fun _ _ => rfl⟩
theorem p140_423 : ps_la 140 423 2 424 := ⟨.aload_n 2, by decide +kernel, fun _ _ => rfl⟩
theorem p140_424 : ps_la 140 424 0 425 := ⟨.aload_n 0, by decide +kernel, fun _ _ => rfl⟩
theorem p140_425 : ps_ld 140 425 4 427 := ⟨.iload 4, by decide +kernel, fun _ _ => rfl⟩
theorem p140_427 : ps_k 140 427 (Int32.ofNat 1) 428 := ⟨.iconst 1, by decide +kernel, fun _ _ => rfl⟩
theorem p140_428 : ps_b 140 428 (· + ·) 429 := ⟨.iadd, by decide +kernel, fun _ _ => rfl⟩
theorem p140_429 : ps_pu 140 429 (.iaload) 430 := (by decide +kernel : ps_i 140 429 = some (.iaload, 430))
theorem p140_430 : ps_vV 140 430 9 124 1 433 := ⟨89, 124, by decide +kernel, by decide +kernel, by decide +kernel, by decide +kernel, by decide +kernel⟩
theorem p140_433 : ps_si 140 433 6 435 := ⟨.istore 6, by decide +kernel, fun _ _ => rfl⟩
theorem p140_435 : ps_la 140 435 2 436 := ⟨.aload_n 2, by decide +kernel, fun _ _ => rfl⟩
theorem p140_436 : ps_vV 140 436 9 98 0 439 := ⟨64, 98, by decide +kernel, by decide +kernel, by decide +kernel, by decide +kernel, by decide +kernel⟩
theorem p140_439 : ps_ld 140 439 5 441 := ⟨.iload 5, by decide +kernel, fun _ _ => rfl⟩
theorem p140_441 : ps_j 140 441 .eq 446 444 := ⟨5, by decide +kernel, by decide +kernel, by decide +kernel⟩
theorem p140_444 : ps_k 140 444 (Int32.ofNat 0) 445 := ⟨.iconst 0, by decide +kernel, fun _ _ => rfl⟩
theorem p140_445 : ps_pu 140 445 (.ireturn) 446 := (by decide +kernel : ps_i 140 445 = some (.ireturn, 446))
theorem p140_446 : ps_ld 140 446 5 448 := ⟨.iload 5, by decide +kernel, fun _ _ => rfl⟩
theorem p140_448 : ps_j0 140 448 .ne 463 451 := ⟨15, by decide +kernel, by decide +kernel, by decide +kernel⟩
theorem p140_451 : ps_la 140 451 3 452 := ⟨.aload_n 3, by decide +kernel, fun _ _ => rfl⟩
theorem p140_452 : ps_k 140 452 (Int32.ofNat 0) 453 := ⟨.iconst 0, by decide +kernel, fun _ _ => rfl⟩
theorem p140_453 : ps_pu 140 453 (.laload) 454 := (by decide +kernel : ps_i 140 453 = some (.laload, 454))
theorem p140_454 : ps_ld 140 454 6 456 := ⟨.iload 6, by decide +kernel, fun _ _ => rfl⟩
theorem p140_456 : ps_pu 140 456 (.i2l) 457 := (by decide +kernel : ps_i 140 456 = some (.i2l, 457))
theorem p140_457 : ps_pu 140 457 (.lcmp) 458 := (by decide +kernel : ps_i 140 457 = some (.lcmp, 458))
theorem p140_458 : ps_j0 140 458 .eq 463 461 := ⟨5, by decide +kernel, by decide +kernel, by decide +kernel⟩
theorem p140_461 : ps_k 140 461 (Int32.ofNat 0) 462 := ⟨.iconst 0, by decide +kernel, fun _ _ => rfl⟩
theorem p140_462 : ps_pu 140 462 (.ireturn) 463 := (by decide +kernel : ps_i 140 462 = some (.ireturn, 463))
theorem p140_463 : ps_jg 140 463 836 := ⟨(373), 466, by decide +kernel, by decide +kernel, by decide +kernel⟩
theorem p140_466 : ps_la 140 466 1 467 := ⟨.aload_n 1, by decide +kernel, fun _ _ => rfl⟩
theorem p140_467 : ps_la 140 467 0 468 := ⟨.aload_n 0, by decide +kernel, fun _ _ => rfl⟩
theorem p140_468 : ps_ld 140 468 4 470 := ⟨.iload 4, by decide +kernel, fun _ _ => rfl⟩
theorem p140_470 : ps_k 140 470 (Int32.ofNat 1) 471 := ⟨.iconst 1, by decide +kernel, fun _ _ => rfl⟩
theorem p140_471 : ps_b 140 471 (· + ·) 472 := ⟨.iadd, by decide +kernel, fun _ _ => rfl⟩
theorem p140_472 : ps_pu 140 472 (.iaload) 473 := (by decide +kernel : ps_i 140 472 = some (.iaload, 473))
theorem p140_473 : ps_la 140 473 3 474 := ⟨.aload_n 3, by decide +kernel, fun _ _ => rfl⟩
theorem p140_474 : ps_vS 140 474 78 3 477 := ⟨90, by decide +kernel, by decide +kernel, by decide +kernel, by decide +kernel⟩
theorem p140_477 : ps_si 140 477 5 479 := ⟨.istore 5, by decide +kernel, fun _ _ => rfl⟩
theorem p140_479 : ps_la 140 479 2 480 := ⟨.aload_n 2, by decide +kernel, fun _ _ => rfl⟩
theorem p140_480 : ps_la 140 480 0 481 := ⟨.aload_n 0, by decide +kernel, fun _ _ => rfl⟩
theorem p140_481 : ps_ld 140 481 4 483 := ⟨.iload 4, by decide +kernel, fun _ _ => rfl⟩
theorem p140_483 : ps_k 140 483 (Int32.ofNat 1) 484 := ⟨.iconst 1, by decide +kernel, fun _ _ => rfl⟩
theorem p140_484 : ps_b 140 484 (· + ·) 485 := ⟨.iadd, by decide +kernel, fun _ _ => rfl⟩
theorem p140_485 : ps_pu 140 485 (.iaload) 486 := (by decide +kernel : ps_i 140 485 = some (.iaload, 486))
theorem p140_486 : ps_vV 140 486 9 125 1 489 := ⟨92, 125, by decide +kernel, by decide +kernel, by decide +kernel, by decide +kernel, by decide +kernel⟩
theorem p140_489 : ps_si 140 489 6 491 := ⟨.istore 6, by decide +kernel, fun _ _ => rfl⟩
theorem p140_491 : ps_la 140 491 2 492 := ⟨.aload_n 2, by decide +kernel, fun _ _ => rfl⟩
theorem p140_492 : ps_vV 140 492 9 98 0 495 := ⟨64, 98, by decide +kernel, by decide +kernel, by decide +kernel, by decide +kernel, by decide +kernel⟩
theorem p140_495 : ps_ld 140 495 5 497 := ⟨.iload 5, by decide +kernel, fun _ _ => rfl⟩
theorem p140_497 : ps_j 140 497 .eq 502 500 := ⟨5, by decide +kernel, by decide +kernel, by decide +kernel⟩
theorem p140_500 : ps_k 140 500 (Int32.ofNat 0) 501 := ⟨.iconst 0, by decide +kernel, fun _ _ => rfl⟩
theorem p140_501 : ps_pu 140 501 (.ireturn) 502 := (by decide +kernel : ps_i 140 501 = some (.ireturn, 502))
theorem p140_502 : ps_ld 140 502 5 504 := ⟨.iload 5, by decide +kernel, fun _ _ => rfl⟩
theorem p140_504 : ps_j0 140 504 .ne 519 507 := ⟨15, by decide +kernel, by decide +kernel, by decide +kernel⟩
theorem p140_507 : ps_la 140 507 3 508 := ⟨.aload_n 3, by decide +kernel, fun _ _ => rfl⟩
theorem p140_508 : ps_k 140 508 (Int32.ofNat 0) 509 := ⟨.iconst 0, by decide +kernel, fun _ _ => rfl⟩
theorem p140_509 : ps_pu 140 509 (.laload) 510 := (by decide +kernel : ps_i 140 509 = some (.laload, 510))
theorem p140_510 : ps_ld 140 510 6 512 := ⟨.iload 6, by decide +kernel, fun _ _ => rfl⟩
theorem p140_512 : ps_pu 140 512 (.i2l) 513 := (by decide +kernel : ps_i 140 512 = some (.i2l, 513))
theorem p140_513 : ps_pu 140 513 (.lcmp) 514 := (by decide +kernel : ps_i 140 513 = some (.lcmp, 514))
theorem p140_514 : ps_j0 140 514 .eq 519 517 := ⟨5, by decide +kernel, by decide +kernel, by decide +kernel⟩
theorem p140_517 : ps_k 140 517 (Int32.ofNat 0) 518 := ⟨.iconst 0, by decide +kernel, fun _ _ => rfl⟩
theorem p140_518 : ps_pu 140 518 (.ireturn) 519 := (by decide +kernel : ps_i 140 518 = some (.ireturn, 519))
theorem p140_519 : ps_jg 140 519 836 := ⟨(317), 522, by decide +kernel, by decide +kernel, by decide +kernel⟩
theorem p140_522 : ps_la 140 522 1 523 := ⟨.aload_n 1, by decide +kernel, fun _ _ => rfl⟩
theorem p140_523 : ps_la 140 523 3 524 := ⟨.aload_n 3, by decide +kernel, fun _ _ => rfl⟩
theorem p140_524 : ps_vS 140 524 82 2 527 := ⟨93, by decide +kernel, by decide +kernel, by decide +kernel, by decide +kernel⟩
theorem p140_527 : ps_si 140 527 5 529 := ⟨.istore 5, by decide +kernel, fun _ _ => rfl⟩
theorem p140_529 : ps_la 140 529 2 530 := ⟨.aload_n 2, by decide +kernel, fun _ _ => rfl⟩
theorem p140_530 : ps_vV 140 530 9 126 0 533 := ⟨95, 126, by decide +kernel, by decide +kernel, by decide +kernel, by decide +kernel, by decide +kernel⟩
theorem p140_533 : ps_si 140 533 6 535 := ⟨.istore 6, by decide +kernel, fun _ _ => rfl⟩
theorem p140_535 : ps_la 140 535 2 536 := ⟨.aload_n 2, by decide +kernel, fun _ _ => rfl⟩
theorem p140_536 : ps_vV 140 536 9 98 0 539 := ⟨64, 98, by decide +kernel, by decide +kernel, by decide +kernel, by decide +kernel, by decide +kernel⟩
theorem p140_539 : ps_ld 140 539 5 541 := ⟨.iload 5, by decide +kernel, fun _ _ => rfl⟩
theorem p140_541 : ps_j 140 541 .eq 546 544 := ⟨5, by decide +kernel, by decide +kernel, by decide +kernel⟩
theorem p140_544 : ps_k 140 544 (Int32.ofNat 0) 545 := ⟨.iconst 0, by decide +kernel, fun _ _ => rfl⟩
theorem p140_545 : ps_pu 140 545 (.ireturn) 546 := (by decide +kernel : ps_i 140 545 = some (.ireturn, 546))
theorem p140_546 : ps_ld 140 546 5 548 := ⟨.iload 5, by decide +kernel, fun _ _ => rfl⟩
theorem p140_548 : ps_j0 140 548 .ne 563 551 := ⟨15, by decide +kernel, by decide +kernel, by decide +kernel⟩
theorem p140_551 : ps_la 140 551 3 552 := ⟨.aload_n 3, by decide +kernel, fun _ _ => rfl⟩
theorem p140_552 : ps_k 140 552 (Int32.ofNat 0) 553 := ⟨.iconst 0, by decide +kernel, fun _ _ => rfl⟩
theorem p140_553 : ps_pu 140 553 (.laload) 554 := (by decide +kernel : ps_i 140 553 = some (.laload, 554))
theorem p140_554 : ps_ld 140 554 6 556 := ⟨.iload 6, by decide +kernel, fun _ _ => rfl⟩
theorem p140_556 : ps_pu 140 556 (.i2l) 557 := (by decide +kernel : ps_i 140 556 = some (.i2l, 557))
theorem p140_557 : ps_pu 140 557 (.lcmp) 558 := (by decide +kernel : ps_i 140 557 = some (.lcmp, 558))
theorem p140_558 : ps_j0 140 558 .eq 563 561 := ⟨5, by decide +kernel, by decide +kernel, by decide +kernel⟩
theorem p140_561 : ps_k 140 561 (Int32.ofNat 0) 562 := ⟨.iconst 0, by decide +kernel, fun _ _ => rfl⟩
theorem p140_562 : ps_pu 140 562 (.ireturn) 563 := (by decide +kernel : ps_i 140 562 = some (.ireturn, 563))
theorem p140_563 : ps_jg 140 563 836 := ⟨(273), 566, by decide +kernel, by decide +kernel, by decide +kernel⟩
theorem p140_566 : ps_la 140 566 1 567 := ⟨.aload_n 1, by decide +kernel, fun _ _ => rfl⟩
theorem p140_567 : ps_la 140 567 3 568 := ⟨.aload_n 3, by decide +kernel, fun _ _ => rfl⟩
theorem p140_568 : ps_vS 140 568 84 2 571 := ⟨96, by decide +kernel, by decide +kernel, by decide +kernel, by decide +kernel⟩
theorem p140_571 : ps_si 140 571 5 573 := ⟨.istore 5, by decide +kernel, fun _ _ => rfl⟩
theorem p140_573 : ps_la 140 573 2 574 := ⟨.aload_n 2, by decide +kernel, fun _ _ => rfl⟩
theorem p140_574 : ps_vV 140 574 9 127 0 577 := ⟨98, 127, by decide +kernel, by decide +kernel, by decide +kernel, by decide +kernel, by decide +kernel⟩
theorem p140_577 : ps_si 140 577 6 579 := ⟨.istore 6, by decide +kernel, fun _ _ => rfl⟩
theorem p140_579 : ps_la 140 579 2 580 := ⟨.aload_n 2, by decide +kernel, fun _ _ => rfl⟩
theorem p140_580 : ps_vV 140 580 9 98 0 583 := ⟨64, 98, by decide +kernel, by decide +kernel, by decide +kernel, by decide +kernel, by decide +kernel⟩
theorem p140_583 : ps_ld 140 583 5 585 := ⟨.iload 5, by decide +kernel, fun _ _ => rfl⟩
theorem p140_585 : ps_j 140 585 .eq 590 588 := ⟨5, by decide +kernel, by decide +kernel, by decide +kernel⟩
theorem p140_588 : ps_k 140 588 (Int32.ofNat 0) 589 := ⟨.iconst 0, by decide +kernel, fun _ _ => rfl⟩
theorem p140_589 : ps_pu 140 589 (.ireturn) 590 := (by decide +kernel : ps_i 140 589 = some (.ireturn, 590))
theorem p140_590 : ps_ld 140 590 5 592 := ⟨.iload 5, by decide +kernel, fun _ _ => rfl⟩
theorem p140_592 : ps_j0 140 592 .ne 607 595 := ⟨15, by decide +kernel, by decide +kernel, by decide +kernel⟩
theorem p140_595 : ps_la 140 595 3 596 := ⟨.aload_n 3, by decide +kernel, fun _ _ => rfl⟩
theorem p140_596 : ps_k 140 596 (Int32.ofNat 0) 597 := ⟨.iconst 0, by decide +kernel, fun _ _ => rfl⟩
theorem p140_597 : ps_pu 140 597 (.laload) 598 := (by decide +kernel : ps_i 140 597 = some (.laload, 598))
theorem p140_598 : ps_ld 140 598 6 600 := ⟨.iload 6, by decide +kernel, fun _ _ => rfl⟩
theorem p140_600 : ps_pu 140 600 (.i2l) 601 := (by decide +kernel : ps_i 140 600 = some (.i2l, 601))
theorem p140_601 : ps_pu 140 601 (.lcmp) 602 := (by decide +kernel : ps_i 140 601 = some (.lcmp, 602))
theorem p140_602 : ps_j0 140 602 .eq 607 605 := ⟨5, by decide +kernel, by decide +kernel, by decide +kernel⟩
theorem p140_605 : ps_k 140 605 (Int32.ofNat 0) 606 := ⟨.iconst 0, by decide +kernel, fun _ _ => rfl⟩
theorem p140_606 : ps_pu 140 606 (.ireturn) 607 := (by decide +kernel : ps_i 140 606 = some (.ireturn, 607))
theorem p140_607 : ps_jg 140 607 836 := ⟨(229), 610, by decide +kernel, by decide +kernel, by decide +kernel⟩
theorem p140_610 : ps_la 140 610 1 611 := ⟨.aload_n 1, by decide +kernel, fun _ _ => rfl⟩
theorem p140_611 : ps_la 140 611 0 612 := ⟨.aload_n 0, by decide +kernel, fun _ _ => rfl⟩
theorem p140_612 : ps_ld 140 612 4 614 := ⟨.iload 4, by decide +kernel, fun _ _ => rfl⟩
theorem p140_614 : ps_k 140 614 (Int32.ofNat 1) 615 := ⟨.iconst 1, by decide +kernel, fun _ _ => rfl⟩
theorem p140_615 : ps_b 140 615 (· + ·) 616 := ⟨.iadd, by decide +kernel, fun _ _ => rfl⟩
theorem p140_616 : ps_pu 140 616 (.iaload) 617 := (by decide +kernel : ps_i 140 616 = some (.iaload, 617))
theorem p140_617 : ps_la 140 617 3 618 := ⟨.aload_n 3, by decide +kernel, fun _ _ => rfl⟩
theorem p140_618 : ps_vS 140 618 92 3 621 := ⟨99, by decide +kernel, by decide +kernel, by decide +kernel, by decide +kernel⟩
theorem p140_621 : ps_si 140 621 5 623 := ⟨.istore 5, by decide +kernel, fun _ _ => rfl⟩
theorem p140_623 : ps_la 140 623 2 624 := ⟨.aload_n 2, by decide +kernel, fun _ _ => rfl⟩
theorem p140_624 : ps_la 140 624 0 625 := ⟨.aload_n 0, by decide +kernel, fun _ _ => rfl⟩
theorem p140_625 : ps_ld 140 625 4 627 := ⟨.iload 4, by decide +kernel, fun _ _ => rfl⟩
theorem p140_627 : ps_k 140 627 (Int32.ofNat 1) 628 := ⟨.iconst 1, by decide +kernel, fun _ _ => rfl⟩
theorem p140_628 : ps_b 140 628 (· + ·) 629 := ⟨.iadd, by decide +kernel, fun _ _ => rfl⟩
theorem p140_629 : ps_pu 140 629 (.iaload) 630 := (by decide +kernel : ps_i 140 629 = some (.iaload, 630))
theorem p140_630 : ps_vV 140 630 9 132 1 633 := ⟨101, 132, by decide +kernel, by decide +kernel, by decide +kernel, by decide +kernel, by decide +kernel⟩
theorem p140_633 : ps_si 140 633 6 635 := ⟨.istore 6, by decide +kernel, fun _ _ => rfl⟩
theorem p140_635 : ps_la 140 635 2 636 := ⟨.aload_n 2, by decide +kernel, fun _ _ => rfl⟩
theorem p140_636 : ps_vV 140 636 9 98 0 639 := ⟨64, 98, by decide +kernel, by decide +kernel, by decide +kernel, by decide +kernel, by decide +kernel⟩
theorem p140_639 : ps_ld 140 639 5 641 := ⟨.iload 5, by decide +kernel, fun _ _ => rfl⟩
theorem p140_641 : ps_j 140 641 .eq 646 644 := ⟨5, by decide +kernel, by decide +kernel, by decide +kernel⟩
theorem p140_644 : ps_k 140 644 (Int32.ofNat 0) 645 := ⟨.iconst 0, by decide +kernel, fun _ _ => rfl⟩
theorem p140_645 : ps_pu 140 645 (.ireturn) 646 := (by decide +kernel : ps_i 140 645 = some (.ireturn, 646))
theorem p140_646 : ps_ld 140 646 5 648 := ⟨.iload 5, by decide +kernel, fun _ _ => rfl⟩
theorem p140_648 : ps_j0 140 648 .ne 663 651 := ⟨15, by decide +kernel, by decide +kernel, by decide +kernel⟩
theorem p140_651 : ps_la 140 651 3 652 := ⟨.aload_n 3, by decide +kernel, fun _ _ => rfl⟩
theorem p140_652 : ps_k 140 652 (Int32.ofNat 0) 653 := ⟨.iconst 0, by decide +kernel, fun _ _ => rfl⟩
theorem p140_653 : ps_pu 140 653 (.laload) 654 := (by decide +kernel : ps_i 140 653 = some (.laload, 654))
theorem p140_654 : ps_ld 140 654 6 656 := ⟨.iload 6, by decide +kernel, fun _ _ => rfl⟩
theorem p140_656 : ps_pu 140 656 (.i2l) 657 := (by decide +kernel : ps_i 140 656 = some (.i2l, 657))
theorem p140_657 : ps_pu 140 657 (.lcmp) 658 := (by decide +kernel : ps_i 140 657 = some (.lcmp, 658))
theorem p140_658 : ps_j0 140 658 .eq 663 661 := ⟨5, by decide +kernel, by decide +kernel, by decide +kernel⟩
theorem p140_661 : ps_k 140 661 (Int32.ofNat 0) 662 := ⟨.iconst 0, by decide +kernel, fun _ _ => rfl⟩
theorem p140_662 : ps_pu 140 662 (.ireturn) 663 := (by decide +kernel : ps_i 140 662 = some (.ireturn, 663))
theorem p140_663 : ps_jg 140 663 836 := ⟨(173), 666, by decide +kernel, by decide +kernel, by decide +kernel⟩
theorem p140_666 : ps_la 140 666 1 667 := ⟨.aload_n 1, by decide +kernel, fun _ _ => rfl⟩
theorem p140_667 : ps_la 140 667 0 668 := ⟨.aload_n 0, by decide +kernel, fun _ _ => rfl⟩
theorem p140_668 : ps_ld 140 668 4 670 := ⟨.iload 4, by decide +kernel, fun _ _ => rfl⟩
theorem p140_670 : ps_k 140 670 (Int32.ofNat 1) 671 := ⟨.iconst 1, by decide +kernel, fun _ _ => rfl⟩
theorem p140_671 : ps_b 140 671 (· + ·) 672 := ⟨.iadd, by decide +kernel, fun _ _ => rfl⟩
theorem p140_672 : ps_pu 140 672 (.iaload) 673 := (by decide +kernel : ps_i 140 672 = some (.iaload, 673))
theorem p140_673 : ps_la 140 673 3 674 := ⟨.aload_n 3, by decide +kernel, fun _ _ => rfl⟩
theorem p140_674 : ps_vS 140 674 95 3 677 := ⟨102, by decide +kernel, by decide +kernel, by decide +kernel, by decide +kernel⟩
theorem p140_677 : ps_si 140 677 5 679 := ⟨.istore 5, by decide +kernel, fun _ _ => rfl⟩
theorem p140_679 : ps_la 140 679 2 680 := ⟨.aload_n 2, by decide +kernel, fun _ _ => rfl⟩
theorem p140_680 : ps_la 140 680 0 681 := ⟨.aload_n 0, by decide +kernel, fun _ _ => rfl⟩
theorem p140_681 : ps_ld 140 681 4 683 := ⟨.iload 4, by decide +kernel, fun _ _ => rfl⟩
theorem p140_683 : ps_k 140 683 (Int32.ofNat 1) 684 := ⟨.iconst 1, by decide +kernel, fun _ _ => rfl⟩
theorem p140_684 : ps_b 140 684 (· + ·) 685 := ⟨.iadd, by decide +kernel, fun _ _ => rfl⟩
theorem p140_685 : ps_pu 140 685 (.iaload) 686 := (by decide +kernel : ps_i 140 685 = some (.iaload, 686))
theorem p140_686 : ps_vV 140 686 9 133 1 689 := ⟨104, 133, by decide +kernel, by decide +kernel, by decide +kernel, by decide +kernel, by decide +kernel⟩
theorem p140_689 : ps_si 140 689 6 691 := ⟨.istore 6, by decide +kernel, fun _ _ => rfl⟩
theorem p140_691 : ps_la 140 691 2 692 := ⟨.aload_n 2, by decide +kernel, fun _ _ => rfl⟩
theorem p140_692 : ps_vV 140 692 9 98 0 695 := ⟨64, 98, by decide +kernel, by decide +kernel, by decide +kernel, by decide +kernel, by decide +kernel⟩
theorem p140_695 : ps_ld 140 695 5 697 := ⟨.iload 5, by decide +kernel, fun _ _ => rfl⟩
theorem p140_697 : ps_j 140 697 .eq 702 700 := ⟨5, by decide +kernel, by decide +kernel, by decide +kernel⟩
theorem p140_700 : ps_k 140 700 (Int32.ofNat 0) 701 := ⟨.iconst 0, by decide +kernel, fun _ _ => rfl⟩
theorem p140_701 : ps_pu 140 701 (.ireturn) 702 := (by decide +kernel : ps_i 140 701 = some (.ireturn, 702))
theorem p140_702 : ps_ld 140 702 5 704 := ⟨.iload 5, by decide +kernel, fun _ _ => rfl⟩
theorem p140_704 : ps_j0 140 704 .ne 719 707 := ⟨15, by decide +kernel, by decide +kernel, by decide +kernel⟩
theorem p140_707 : ps_la 140 707 3 708 := ⟨.aload_n 3, by decide +kernel, fun _ _ => rfl⟩
theorem p140_708 : ps_k 140 708 (Int32.ofNat 0) 709 := ⟨.iconst 0, by decide +kernel, fun _ _ => rfl⟩
theorem p140_709 : ps_pu 140 709 (.laload) 710 := (by decide +kernel : ps_i 140 709 = some (.laload, 710))
theorem p140_710 : ps_ld 140 710 6 712 := ⟨.iload 6, by decide +kernel, fun _ _ => rfl⟩
theorem p140_712 : ps_pu 140 712 (.i2l) 713 := (by decide +kernel : ps_i 140 712 = some (.i2l, 713))
theorem p140_713 : ps_pu 140 713 (.lcmp) 714 := (by decide +kernel : ps_i 140 713 = some (.lcmp, 714))
theorem p140_714 : ps_j0 140 714 .eq 719 717 := ⟨5, by decide +kernel, by decide +kernel, by decide +kernel⟩
theorem p140_717 : ps_k 140 717 (Int32.ofNat 0) 718 := ⟨.iconst 0, by decide +kernel, fun _ _ => rfl⟩
theorem p140_718 : ps_pu 140 718 (.ireturn) 719 := (by decide +kernel : ps_i 140 718 = some (.ireturn, 719))
theorem p140_719 : ps_jg 140 719 836 := ⟨(117), 722, by decide +kernel, by decide +kernel, by decide +kernel⟩
theorem p140_722 : ps_la 140 722 1 723 := ⟨.aload_n 1, by decide +kernel, fun _ _ => rfl⟩
theorem p140_723 : ps_vV 140 723 0 17 0 726 := ⟨105, 17, by decide +kernel, by decide +kernel, by decide +kernel, by decide +kernel, by decide +kernel⟩
theorem p140_726 : ps_la 140 726 2 727 := ⟨.aload_n 2, by decide +kernel, fun _ _ => rfl⟩
theorem p140_727 : ps_vV 140 727 9 134 0 730 := ⟨108, 134, by decide +kernel, by decide +kernel, by decide +kernel, by decide +kernel, by decide +kernel⟩
theorem p140_730 : ps_j 140 730 .eq 836 733 := ⟨106, by decide +kernel, by decide +kernel, by decide +kernel⟩
theorem p140_733 : ps_k 140 733 (Int32.ofNat 0) 734 := ⟨.iconst 0, by decide +kernel, fun _ _ => rfl⟩
theorem p140_734 : ps_pu 140 734 (.ireturn) 735 := (by decide +kernel : ps_i 140 734 = some (.ireturn, 735))
theorem p140_735 : ps_la 140 735 1 736 := ⟨.aload_n 1, by decide +kernel, fun _ _ => rfl⟩
theorem p140_736 : ps_vV 140 736 0 20 0 739 := ⟨109, 20, by decide +kernel, by decide +kernel, by decide +kernel, by decide +kernel, by decide +kernel⟩
theorem p140_739 : ps_la 140 739 2 740 := ⟨.aload_n 2, by decide +kernel, fun _ _ => rfl⟩
theorem p140_740 : ps_vV 140 740 9 135 0 743 := ⟨112, 135, by decide +kernel, by decide +kernel, by decide +kernel, by decide +kernel, by decide +kernel⟩
theorem p140_743 : ps_j 140 743 .eq 836 746 := ⟨93, by decide +kernel, by decide +kernel, by decide +kernel⟩
theorem p140_746 : ps_k 140 746 (Int32.ofNat 0) 747 := ⟨.iconst 0, by decide +kernel, fun _ _ => rfl⟩
theorem p140_747 : ps_pu 140 747 (.ireturn) 748 := (by decide +kernel : ps_i 140 747 = some (.ireturn, 748))
theorem p140_748 : ps_la 140 748 1 749 := ⟨.aload_n 1, by decide +kernel, fun _ _ => rfl⟩
theorem p140_749 : ps_vV 140 749 0 21 0 752 := ⟨113, 21, by decide +kernel, by decide +kernel, by decide +kernel, by decide +kernel, by decide +kernel⟩
theorem p140_752 : ps_la 140 752 2 753 := ⟨.aload_n 2, by decide +kernel, fun _ _ => rfl⟩
theorem p140_753 : ps_vV 140 753 9 136 0 756 := ⟨116, 136, by decide +kernel, by decide +kernel, by decide +kernel, by decide +kernel, by decide +kernel⟩
theorem p140_756 : ps_j 140 756 .eq 836 759 := ⟨80, by decide +kernel, by decide +kernel, by decide +kernel⟩
theorem p140_759 : ps_k 140 759 (Int32.ofNat 0) 760 := ⟨.iconst 0, by decide +kernel, fun _ _ => rfl⟩
theorem p140_760 : ps_pu 140 760 (.ireturn) 761 := (by decide +kernel : ps_i 140 760 = some (.ireturn, 761))
theorem p140_761 : ps_la 140 761 1 762 := ⟨.aload_n 1, by decide +kernel, fun _ _ => rfl⟩
theorem p140_762 : ps_la 140 762 0 763 := ⟨.aload_n 0, by decide +kernel, fun _ _ => rfl⟩
theorem p140_763 : ps_ld 140 763 4 765 := ⟨.iload 4, by decide +kernel, fun _ _ => rfl⟩
theorem p140_765 : ps_k 140 765 (Int32.ofNat 1) 766 := ⟨.iconst 1, by decide +kernel, fun _ _ => rfl⟩
theorem p140_766 : ps_b 140 766 (· + ·) 767 := ⟨.iadd, by decide +kernel, fun _ _ => rfl⟩
theorem p140_767 : ps_pu 140 767 (.iaload) 768 := (by decide +kernel : ps_i 140 767 = some (.iaload, 768))
theorem p140_768 : ps_vV 140 768 0 22 1 771 := ⟨117, 22, by decide +kernel, by decide +kernel, by decide +kernel, by decide +kernel, by decide +kernel⟩
theorem p140_771 : ps_la 140 771 2 772 := ⟨.aload_n 2, by decide +kernel, fun _ _ => rfl⟩
theorem p140_772 : ps_la 140 772 0 773 := ⟨.aload_n 0, by decide +kernel, fun _ _ => rfl⟩
theorem p140_773 : ps_ld 140 773 4 775 := ⟨.iload 4, by decide +kernel, fun _ _ => rfl⟩
theorem p140_775 : ps_k 140 775 (Int32.ofNat 1) 776 := ⟨.iconst 1, by decide +kernel, fun _ _ => rfl⟩
theorem p140_776 : ps_b 140 776 (· + ·) 777 := ⟨.iadd, by decide +kernel, fun _ _ => rfl⟩
theorem p140_777 : ps_pu 140 777 (.iaload) 778 := (by decide +kernel : ps_i 140 777 = some (.iaload, 778))
theorem p140_778 : ps_vV 140 778 9 137 1 781 := ⟨120, 137, by decide +kernel, by decide +kernel, by decide +kernel, by decide +kernel, by decide +kernel⟩
theorem p140_781 : ps_j 140 781 .eq 836 784 := ⟨55, by decide +kernel, by decide +kernel, by decide +kernel⟩
theorem p140_784 : ps_k 140 784 (Int32.ofNat 0) 785 := ⟨.iconst 0, by decide +kernel, fun _ _ => rfl⟩
theorem p140_785 : ps_pu 140 785 (.ireturn) 786 := (by decide +kernel : ps_i 140 785 = some (.ireturn, 786))
theorem p140_786 : ps_la 140 786 1 787 := ⟨.aload_n 1, by decide +kernel, fun _ _ => rfl⟩
theorem p140_787 : ps_la 140 787 0 788 := ⟨.aload_n 0, by decide +kernel, fun _ _ => rfl⟩
theorem p140_788 : ps_ld 140 788 4 790 := ⟨.iload 4, by decide +kernel, fun _ _ => rfl⟩
theorem p140_790 : ps_k 140 790 (Int32.ofNat 1) 791 := ⟨.iconst 1, by decide +kernel, fun _ _ => rfl⟩
theorem p140_791 : ps_b 140 791 (· + ·) 792 := ⟨.iadd, by decide +kernel, fun _ _ => rfl⟩
theorem p140_792 : ps_pu 140 792 (.iaload) 793 := (by decide +kernel : ps_i 140 792 = some (.iaload, 793))
theorem p140_793 : ps_la 140 793 0 794 := ⟨.aload_n 0, by decide +kernel, fun _ _ => rfl⟩
theorem p140_794 : ps_ld 140 794 4 796 := ⟨.iload 4, by decide +kernel, fun _ _ => rfl⟩
theorem p140_796 : ps_k 140 796 (Int32.ofNat 2) 797 := ⟨.iconst 2, by decide +kernel, fun _ _ => rfl⟩
theorem p140_797 : ps_b 140 797 (· + ·) 798 := ⟨.iadd, by decide +kernel, fun _ _ => rfl⟩
theorem p140_798 : ps_pu 140 798 (.iaload) 799 := (by decide +kernel : ps_i 140 798 = some (.iaload, 799))
theorem p140_799 : ps_vV 140 799 0 24 2 802 := ⟨121, 24, by decide +kernel, by decide +kernel, by decide +kernel, by decide +kernel, by decide +kernel⟩
theorem p140_802 : ps_la 140 802 2 803 := ⟨.aload_n 2, by decide +kernel, fun _ _ => rfl⟩
theorem p140_803 : ps_la 140 803 0 804 := ⟨.aload_n 0, by decide +kernel, fun _ _ => rfl⟩
theorem p140_804 : ps_ld 140 804 4 806 := ⟨.iload 4, by decide +kernel, fun _ _ => rfl⟩
theorem p140_806 : ps_k 140 806 (Int32.ofNat 1) 807 := ⟨.iconst 1, by decide +kernel, fun _ _ => rfl⟩
theorem p140_807 : ps_b 140 807 (· + ·) 808 := ⟨.iadd, by decide +kernel, fun _ _ => rfl⟩
theorem p140_808 : ps_pu 140 808 (.iaload) 809 := (by decide +kernel : ps_i 140 808 = some (.iaload, 809))
theorem p140_809 : ps_la 140 809 0 810 := ⟨.aload_n 0, by decide +kernel, fun _ _ => rfl⟩
theorem p140_810 : ps_ld 140 810 4 812 := ⟨.iload 4, by decide +kernel, fun _ _ => rfl⟩
theorem p140_812 : ps_k 140 812 (Int32.ofNat 2) 813 := ⟨.iconst 2, by decide +kernel, fun _ _ => rfl⟩
theorem p140_813 : ps_b 140 813 (· + ·) 814 := ⟨.iadd, by decide +kernel, fun _ _ => rfl⟩
theorem p140_814 : ps_pu 140 814 (.iaload) 815 := (by decide +kernel : ps_i 140 814 = some (.iaload, 815))
theorem p140_815 : ps_vV 140 815 9 139 2 818 := ⟨124, 139, by decide +kernel, by decide +kernel, by decide +kernel, by decide +kernel, by decide +kernel⟩
theorem p140_818 : ps_j 140 818 .eq 836 821 := ⟨18, by decide +kernel, by decide +kernel, by decide +kernel⟩
theorem p140_821 : ps_k 140 821 (Int32.ofNat 0) 822 := ⟨.iconst 0, by decide +kernel, fun _ _ => rfl⟩
theorem p140_822 : ps_pu 140 822 (.ireturn) 823 := (by decide +kernel : ps_i 140 822 = some (.ireturn, 823))
theorem p140_823 : ps_la 140 823 1 824 := ⟨.aload_n 1, by decide +kernel, fun _ _ => rfl⟩
theorem p140_824 : ps_vV 140 824 0 25 0 827 := ⟨125, 25, by decide +kernel, by decide +kernel, by decide +kernel, by decide +kernel, by decide +kernel⟩
theorem p140_827 : ps_la 140 827 2 828 := ⟨.aload_n 2, by decide +kernel, fun _ _ => rfl⟩
theorem p140_828 : ps_vV 140 828 9 104 0 831 := ⟨128, 104, by decide +kernel, by decide +kernel, by decide +kernel, by decide +kernel, by decide +kernel⟩
theorem p140_831 : ps_j 140 831 .eq 836 834 := ⟨5, by decide +kernel, by decide +kernel, by decide +kernel⟩
theorem p140_834 : ps_k 140 834 (Int32.ofNat 0) 835 := ⟨.iconst 0, by decide +kernel, fun _ _ => rfl⟩
theorem p140_835 : ps_pu 140 835 (.ireturn) 836 := (by decide +kernel : ps_i 140 835 = some (.ireturn, 836))
theorem p140_836 : ps_pu 140 836 (.iinc 4 ((3 : Nat) : Int)) 839 := (by decide +kernel : ps_i 140 836 = some (.iinc 4 ((3 : Nat) : Int), 839))
theorem p140_839 : ps_jg 140 839 33 := ⟨(-806), 842, by decide +kernel, by decide +kernel, by decide +kernel⟩
theorem p140_842 : ps_k 140 842 (Int32.ofNat 1) 843 := ⟨.iconst 1, by decide +kernel, fun _ _ => rfl⟩
theorem p140_843 : ps_pu 140 843 (.ireturn) 844 := (by decide +kernel : ps_i 140 843 = some (.ireturn, 844))
theorem e140 : ∀ v0 : Value, pm_ent 140 [v0] = [some v0, none, none, none, none, none, none] := fun _ => rfl
theorem l140 : 1 ≤ pm_mx 140 := by decide +kernel
theorem t140 : pm_ret 140 = (some .boolean) := by decide +kernel
