theorem dLg_0 : decode code 0 = .ok (.new 7, 3) ∧ decode code 3 = .ok (.dup, 1) ∧ decode code 4 = .ok (.invokespecial 9, 3) ∧ decode code 7 = .ok (.astore_n 1, 1) ∧ decode code 8 = .ok (.new 10, 3) ∧ decode code 11 = .ok (.dup, 1) ∧ decode code 12 = .ok (.invokespecial 12, 3) ∧ decode code 15 = .ok (.astore_n 2, 1) := by decide +kernel
theorem dL_law_0 : decode code 0 = .ok (.new 7, 3) := dLg_0.1
theorem dL_law_3 : decode code 3 = .ok (.dup, 1) := dLg_0.2.1
theorem dL_law_4 : decode code 4 = .ok (.invokespecial 9, 3) := dLg_0.2.2.1
theorem dL_law_7 : decode code 7 = .ok (.astore_n 1, 1) := dLg_0.2.2.2.1
theorem dL_law_8 : decode code 8 = .ok (.new 10, 3) := dLg_0.2.2.2.2.1
theorem dL_law_11 : decode code 11 = .ok (.dup, 1) := dLg_0.2.2.2.2.2.1
theorem dL_law_12 : decode code 12 = .ok (.invokespecial 12, 3) := dLg_0.2.2.2.2.2.2.1
theorem dL_law_15 : decode code 15 = .ok (.astore_n 2, 1) := dLg_0.2.2.2.2.2.2.2
theorem dLg_1 : decode code 16 = .ok (.iconst 0, 1) ∧ decode code 17 = .ok (.istore_n 3, 1) ∧ decode code 18 = .ok (.iload_n 3, 1) ∧ decode code 19 = .ok (.aload_n 0, 1) ∧ decode code 20 = .ok (.arraylength, 1) ∧ decode code 21 = .ok (.bipush 6, 2) ∧ decode code 23 = .ok (.isub, 1) ∧ decode code 24 = .ok (.if_icmp .gt 1477, 3) := by decide +kernel
theorem dL_law_16 : decode code 16 = .ok (.iconst 0, 1) := dLg_1.1
theorem dL_law_17 : decode code 17 = .ok (.istore_n 3, 1) := dLg_1.2.1
theorem dL_law_18 : decode code 18 = .ok (.iload_n 3, 1) := dLg_1.2.2.1
theorem dL_law_19 : decode code 19 = .ok (.aload_n 0, 1) := dLg_1.2.2.2.1
theorem dL_law_20 : decode code 20 = .ok (.arraylength, 1) := dLg_1.2.2.2.2.1
theorem dL_law_21 : decode code 21 = .ok (.bipush 6, 2) := dLg_1.2.2.2.2.2.1
theorem dL_law_23 : decode code 23 = .ok (.isub, 1) := dLg_1.2.2.2.2.2.2.1
theorem dL_law_24 : decode code 24 = .ok (.if_icmp .gt 1477, 3) := dLg_1.2.2.2.2.2.2.2
theorem dLg_2 : decode code 27 = .ok (.aload_n 0, 1) ∧ decode code 28 = .ok (.iload_n 3, 1) ∧ decode code 29 = .ok (.iaload, 1) ∧ decode code 30 = .ok (.bipush 63, 2) ∧ decode code 32 = .ok (.iand, 1) ∧ decode code 33 = .ok (.tableswitch 1462 0 32 #[147, 200, 243, 292, 325, 388, 411, 444, 467, 500, 533, 566, 619, 672, 725, 778, 831, 894, 927, 960, 1003, 1056, 1089, 1132, 1165, 1208, 1241, 1304, 1357, 1380, 1393, 1406, 1439], 147) ∧ decode code 180 = .ok (.aload_n 1, 1) ∧ decode code 181 = .ok (.aload_n 0, 1) := by decide +kernel
theorem dL_law_27 : decode code 27 = .ok (.aload_n 0, 1) := dLg_2.1
theorem dL_law_28 : decode code 28 = .ok (.iload_n 3, 1) := dLg_2.2.1
theorem dL_law_29 : decode code 29 = .ok (.iaload, 1) := dLg_2.2.2.1
theorem dL_law_30 : decode code 30 = .ok (.bipush 63, 2) := dLg_2.2.2.2.1
theorem dL_law_32 : decode code 32 = .ok (.iand, 1) := dLg_2.2.2.2.2.1
theorem dL_law_33 : decode code 33 = .ok (.tableswitch 1462 0 32 #[147, 200, 243, 292, 325, 388, 411, 444, 467, 500, 533, 566, 619, 672, 725, 778, 831, 894, 927, 960, 1003, 1056, 1089, 1132, 1165, 1208, 1241, 1304, 1357, 1380, 1393, 1406, 1439], 147) := dLg_2.2.2.2.2.2.1
theorem dL_law_180 : decode code 180 = .ok (.aload_n 1, 1) := dLg_2.2.2.2.2.2.2.1
theorem dL_law_181 : decode code 181 = .ok (.aload_n 0, 1) := dLg_2.2.2.2.2.2.2.2
theorem dLg_3 : decode code 182 = .ok (.iload_n 3, 1) ∧ decode code 183 = .ok (.iconst 1, 1) ∧ decode code 184 = .ok (.iadd, 1) ∧ decode code 185 = .ok (.iaload, 1) ∧ decode code 186 = .ok (.aload_n 0, 1) ∧ decode code 187 = .ok (.iload_n 3, 1) ∧ decode code 188 = .ok (.iconst 2, 1) ∧ decode code 189 = .ok (.iadd, 1) := by decide +kernel
theorem dL_law_182 : decode code 182 = .ok (.iload_n 3, 1) := dLg_3.1
theorem dL_law_183 : decode code 183 = .ok (.iconst 1, 1) := dLg_3.2.1
theorem dL_law_184 : decode code 184 = .ok (.iadd, 1) := dLg_3.2.2.1
theorem dL_law_185 : decode code 185 = .ok (.iaload, 1) := dLg_3.2.2.2.1
theorem dL_law_186 : decode code 186 = .ok (.aload_n 0, 1) := dLg_3.2.2.2.2.1
theorem dL_law_187 : decode code 187 = .ok (.iload_n 3, 1) := dLg_3.2.2.2.2.2.1
theorem dL_law_188 : decode code 188 = .ok (.iconst 2, 1) := dLg_3.2.2.2.2.2.2.1
theorem dL_law_189 : decode code 189 = .ok (.iadd, 1) := dLg_3.2.2.2.2.2.2.2
theorem dLg_4 : decode code 190 = .ok (.iaload, 1) ∧ decode code 191 = .ok (.aload_n 0, 1) ∧ decode code 192 = .ok (.iload_n 3, 1) ∧ decode code 193 = .ok (.iconst 3, 1) ∧ decode code 194 = .ok (.iadd, 1) ∧ decode code 195 = .ok (.iaload, 1) ∧ decode code 196 = .ok (.aload_n 0, 1) ∧ decode code 197 = .ok (.iload_n 3, 1) := by decide +kernel
theorem dL_law_190 : decode code 190 = .ok (.iaload, 1) := dLg_4.1
theorem dL_law_191 : decode code 191 = .ok (.aload_n 0, 1) := dLg_4.2.1
theorem dL_law_192 : decode code 192 = .ok (.iload_n 3, 1) := dLg_4.2.2.1
theorem dL_law_193 : decode code 193 = .ok (.iconst 3, 1) := dLg_4.2.2.2.1
theorem dL_law_194 : decode code 194 = .ok (.iadd, 1) := dLg_4.2.2.2.2.1
theorem dL_law_195 : decode code 195 = .ok (.iaload, 1) := dLg_4.2.2.2.2.2.1
theorem dL_law_196 : decode code 196 = .ok (.aload_n 0, 1) := dLg_4.2.2.2.2.2.2.1
theorem dL_law_197 : decode code 197 = .ok (.iload_n 3, 1) := dLg_4.2.2.2.2.2.2.2
theorem dLg_5 : decode code 198 = .ok (.iconst 4, 1) ∧ decode code 199 = .ok (.iadd, 1) ∧ decode code 200 = .ok (.iaload, 1) ∧ decode code 201 = .ok (.invokevirtual 13, 3) ∧ decode code 204 = .ok (.pop, 1) ∧ decode code 205 = .ok (.aload_n 2, 1) ∧ decode code 206 = .ok (.aload_n 0, 1) ∧ decode code 207 = .ok (.iload_n 3, 1) := by decide +kernel
theorem dL_law_198 : decode code 198 = .ok (.iconst 4, 1) := dLg_5.1
theorem dL_law_199 : decode code 199 = .ok (.iadd, 1) := dLg_5.2.1
theorem dL_law_200 : decode code 200 = .ok (.iaload, 1) := dLg_5.2.2.1
theorem dL_law_201 : decode code 201 = .ok (.invokevirtual 13, 3) := dLg_5.2.2.2.1
theorem dL_law_204 : decode code 204 = .ok (.pop, 1) := dLg_5.2.2.2.2.1
theorem dL_law_205 : decode code 205 = .ok (.aload_n 2, 1) := dLg_5.2.2.2.2.2.1
theorem dL_law_206 : decode code 206 = .ok (.aload_n 0, 1) := dLg_5.2.2.2.2.2.2.1
theorem dL_law_207 : decode code 207 = .ok (.iload_n 3, 1) := dLg_5.2.2.2.2.2.2.2
theorem dLg_6 : decode code 208 = .ok (.iconst 1, 1) ∧ decode code 209 = .ok (.iadd, 1) ∧ decode code 210 = .ok (.iaload, 1) ∧ decode code 211 = .ok (.aload_n 0, 1) ∧ decode code 212 = .ok (.iload_n 3, 1) ∧ decode code 213 = .ok (.iconst 2, 1) ∧ decode code 214 = .ok (.iadd, 1) ∧ decode code 215 = .ok (.iaload, 1) := by decide +kernel
theorem dL_law_208 : decode code 208 = .ok (.iconst 1, 1) := dLg_6.1
theorem dL_law_209 : decode code 209 = .ok (.iadd, 1) := dLg_6.2.1
theorem dL_law_210 : decode code 210 = .ok (.iaload, 1) := dLg_6.2.2.1
theorem dL_law_211 : decode code 211 = .ok (.aload_n 0, 1) := dLg_6.2.2.2.1
theorem dL_law_212 : decode code 212 = .ok (.iload_n 3, 1) := dLg_6.2.2.2.2.1
theorem dL_law_213 : decode code 213 = .ok (.iconst 2, 1) := dLg_6.2.2.2.2.2.1
theorem dL_law_214 : decode code 214 = .ok (.iadd, 1) := dLg_6.2.2.2.2.2.2.1
theorem dL_law_215 : decode code 215 = .ok (.iaload, 1) := dLg_6.2.2.2.2.2.2.2
theorem dLg_7 : decode code 216 = .ok (.aload_n 0, 1) ∧ decode code 217 = .ok (.iload_n 3, 1) ∧ decode code 218 = .ok (.iconst 3, 1) ∧ decode code 219 = .ok (.iadd, 1) ∧ decode code 220 = .ok (.iaload, 1) ∧ decode code 221 = .ok (.aload_n 0, 1) ∧ decode code 222 = .ok (.iload_n 3, 1) ∧ decode code 223 = .ok (.iconst 4, 1) := by decide +kernel
theorem dL_law_216 : decode code 216 = .ok (.aload_n 0, 1) := dLg_7.1
theorem dL_law_217 : decode code 217 = .ok (.iload_n 3, 1) := dLg_7.2.1
theorem dL_law_218 : decode code 218 = .ok (.iconst 3, 1) := dLg_7.2.2.1
theorem dL_law_219 : decode code 219 = .ok (.iadd, 1) := dLg_7.2.2.2.1
theorem dL_law_220 : decode code 220 = .ok (.iaload, 1) := dLg_7.2.2.2.2.1
theorem dL_law_221 : decode code 221 = .ok (.aload_n 0, 1) := dLg_7.2.2.2.2.2.1
theorem dL_law_222 : decode code 222 = .ok (.iload_n 3, 1) := dLg_7.2.2.2.2.2.2.1
theorem dL_law_223 : decode code 223 = .ok (.iconst 4, 1) := dLg_7.2.2.2.2.2.2.2
theorem dLg_8 : decode code 224 = .ok (.iadd, 1) ∧ decode code 225 = .ok (.iaload, 1) ∧ decode code 226 = .ok (.invokevirtual 17, 3) ∧ decode code 229 = .ok (.pop, 1) ∧ decode code 230 = .ok (.goto 1265, 3) ∧ decode code 233 = .ok (.aload_n 1, 1) ∧ decode code 234 = .ok (.aload_n 0, 1) ∧ decode code 235 = .ok (.iload_n 3, 1) := by decide +kernel
theorem dL_law_224 : decode code 224 = .ok (.iadd, 1) := dLg_8.1
theorem dL_law_225 : decode code 225 = .ok (.iaload, 1) := dLg_8.2.1
theorem dL_law_226 : decode code 226 = .ok (.invokevirtual 17, 3) := dLg_8.2.2.1
theorem dL_law_229 : decode code 229 = .ok (.pop, 1) := dLg_8.2.2.2.1
theorem dL_law_230 : decode code 230 = .ok (.goto 1265, 3) := dLg_8.2.2.2.2.1
theorem dL_law_233 : decode code 233 = .ok (.aload_n 1, 1) := dLg_8.2.2.2.2.2.1
theorem dL_law_234 : decode code 234 = .ok (.aload_n 0, 1) := dLg_8.2.2.2.2.2.2.1
theorem dL_law_235 : decode code 235 = .ok (.iload_n 3, 1) := dLg_8.2.2.2.2.2.2.2
theorem dLg_9 : decode code 236 = .ok (.iconst 1, 1) ∧ decode code 237 = .ok (.iadd, 1) ∧ decode code 238 = .ok (.iaload, 1) ∧ decode code 239 = .ok (.aload_n 0, 1) ∧ decode code 240 = .ok (.iload_n 3, 1) ∧ decode code 241 = .ok (.iconst 2, 1) ∧ decode code 242 = .ok (.iadd, 1) ∧ decode code 243 = .ok (.iaload, 1) := by decide +kernel
theorem dL_law_236 : decode code 236 = .ok (.iconst 1, 1) := dLg_9.1
theorem dL_law_237 : decode code 237 = .ok (.iadd, 1) := dLg_9.2.1
theorem dL_law_238 : decode code 238 = .ok (.iaload, 1) := dLg_9.2.2.1
theorem dL_law_239 : decode code 239 = .ok (.aload_n 0, 1) := dLg_9.2.2.2.1
theorem dL_law_240 : decode code 240 = .ok (.iload_n 3, 1) := dLg_9.2.2.2.2.1
theorem dL_law_241 : decode code 241 = .ok (.iconst 2, 1) := dLg_9.2.2.2.2.2.1
theorem dL_law_242 : decode code 242 = .ok (.iadd, 1) := dLg_9.2.2.2.2.2.2.1
theorem dL_law_243 : decode code 243 = .ok (.iaload, 1) := dLg_9.2.2.2.2.2.2.2
theorem dLg_10 : decode code 244 = .ok (.aload_n 0, 1) ∧ decode code 245 = .ok (.iload_n 3, 1) ∧ decode code 246 = .ok (.iconst 3, 1) ∧ decode code 247 = .ok (.iadd, 1) ∧ decode code 248 = .ok (.iaload, 1) ∧ decode code 249 = .ok (.invokevirtual 18, 3) ∧ decode code 252 = .ok (.pop, 1) ∧ decode code 253 = .ok (.aload_n 2, 1) := by decide +kernel
theorem dL_law_244 : decode code 244 = .ok (.aload_n 0, 1) := dLg_10.1
theorem dL_law_245 : decode code 245 = .ok (.iload_n 3, 1) := dLg_10.2.1
theorem dL_law_246 : decode code 246 = .ok (.iconst 3, 1) := dLg_10.2.2.1
theorem dL_law_247 : decode code 247 = .ok (.iadd, 1) := dLg_10.2.2.2.1
theorem dL_law_248 : decode code 248 = .ok (.iaload, 1) := dLg_10.2.2.2.2.1
theorem dL_law_249 : decode code 249 = .ok (.invokevirtual 18, 3) := dLg_10.2.2.2.2.2.1
theorem dL_law_252 : decode code 252 = .ok (.pop, 1) := dLg_10.2.2.2.2.2.2.1
theorem dL_law_253 : decode code 253 = .ok (.aload_n 2, 1) := dLg_10.2.2.2.2.2.2.2
theorem dLg_11 : decode code 254 = .ok (.aload_n 0, 1) ∧ decode code 255 = .ok (.iload_n 3, 1) ∧ decode code 256 = .ok (.iconst 1, 1) ∧ decode code 257 = .ok (.iadd, 1) ∧ decode code 258 = .ok (.iaload, 1) ∧ decode code 259 = .ok (.aload_n 0, 1) ∧ decode code 260 = .ok (.iload_n 3, 1) ∧ decode code 261 = .ok (.iconst 2, 1) := by decide +kernel
theorem dL_law_254 : decode code 254 = .ok (.aload_n 0, 1) := dLg_11.1
theorem dL_law_255 : decode code 255 = .ok (.iload_n 3, 1) := dLg_11.2.1
theorem dL_law_256 : decode code 256 = .ok (.iconst 1, 1) := dLg_11.2.2.1
theorem dL_law_257 : decode code 257 = .ok (.iadd, 1) := dLg_11.2.2.2.1
theorem dL_law_258 : decode code 258 = .ok (.iaload, 1) := dLg_11.2.2.2.2.1
theorem dL_law_259 : decode code 259 = .ok (.aload_n 0, 1) := dLg_11.2.2.2.2.2.1
theorem dL_law_260 : decode code 260 = .ok (.iload_n 3, 1) := dLg_11.2.2.2.2.2.2.1
theorem dL_law_261 : decode code 261 = .ok (.iconst 2, 1) := dLg_11.2.2.2.2.2.2.2
theorem dLg_12 : decode code 262 = .ok (.iadd, 1) ∧ decode code 263 = .ok (.iaload, 1) ∧ decode code 264 = .ok (.aload_n 0, 1) ∧ decode code 265 = .ok (.iload_n 3, 1) ∧ decode code 266 = .ok (.iconst 3, 1) ∧ decode code 267 = .ok (.iadd, 1) ∧ decode code 268 = .ok (.iaload, 1) ∧ decode code 269 = .ok (.invokevirtual 22, 3) := by decide +kernel
theorem dL_law_262 : decode code 262 = .ok (.iadd, 1) := dLg_12.1
theorem dL_law_263 : decode code 263 = .ok (.iaload, 1) := dLg_12.2.1
theorem dL_law_264 : decode code 264 = .ok (.aload_n 0, 1) := dLg_12.2.2.1
theorem dL_law_265 : decode code 265 = .ok (.iload_n 3, 1) := dLg_12.2.2.2.1
theorem dL_law_266 : decode code 266 = .ok (.iconst 3, 1) := dLg_12.2.2.2.2.1
theorem dL_law_267 : decode code 267 = .ok (.iadd, 1) := dLg_12.2.2.2.2.2.1
theorem dL_law_268 : decode code 268 = .ok (.iaload, 1) := dLg_12.2.2.2.2.2.2.1
theorem dL_law_269 : decode code 269 = .ok (.invokevirtual 22, 3) := dLg_12.2.2.2.2.2.2.2
theorem dLg_13 : decode code 272 = .ok (.pop, 1) ∧ decode code 273 = .ok (.goto 1222, 3) ∧ decode code 276 = .ok (.aload_n 1, 1) ∧ decode code 277 = .ok (.aload_n 0, 1) ∧ decode code 278 = .ok (.iload_n 3, 1) ∧ decode code 279 = .ok (.iconst 1, 1) ∧ decode code 280 = .ok (.iadd, 1) ∧ decode code 281 = .ok (.iaload, 1) := by decide +kernel
theorem dL_law_272 : decode code 272 = .ok (.pop, 1) := dLg_13.1
theorem dL_law_273 : decode code 273 = .ok (.goto 1222, 3) := dLg_13.2.1
theorem dL_law_276 : decode code 276 = .ok (.aload_n 1, 1) := dLg_13.2.2.1
theorem dL_law_277 : decode code 277 = .ok (.aload_n 0, 1) := dLg_13.2.2.2.1
theorem dL_law_278 : decode code 278 = .ok (.iload_n 3, 1) := dLg_13.2.2.2.2.1
theorem dL_law_279 : decode code 279 = .ok (.iconst 1, 1) := dLg_13.2.2.2.2.2.1
theorem dL_law_280 : decode code 280 = .ok (.iadd, 1) := dLg_13.2.2.2.2.2.2.1
theorem dL_law_281 : decode code 281 = .ok (.iaload, 1) := dLg_13.2.2.2.2.2.2.2
theorem dLg_14 : decode code 282 = .ok (.aload_n 0, 1) ∧ decode code 283 = .ok (.iload_n 3, 1) ∧ decode code 284 = .ok (.iconst 2, 1) ∧ decode code 285 = .ok (.iadd, 1) ∧ decode code 286 = .ok (.iaload, 1) ∧ decode code 287 = .ok (.ifCond .eq 7, 3) ∧ decode code 290 = .ok (.iconst 1, 1) ∧ decode code 291 = .ok (.goto 4, 3) := by decide +kernel
theorem dL_law_282 : decode code 282 = .ok (.aload_n 0, 1) := dLg_14.1
theorem dL_law_283 : decode code 283 = .ok (.iload_n 3, 1) := dLg_14.2.1
theorem dL_law_284 : decode code 284 = .ok (.iconst 2, 1) := dLg_14.2.2.1
theorem dL_law_285 : decode code 285 = .ok (.iadd, 1) := dLg_14.2.2.2.1
theorem dL_law_286 : decode code 286 = .ok (.iaload, 1) := dLg_14.2.2.2.2.1
theorem dL_law_287 : decode code 287 = .ok (.ifCond .eq 7, 3) := dLg_14.2.2.2.2.2.1
theorem dL_law_290 : decode code 290 = .ok (.iconst 1, 1) := dLg_14.2.2.2.2.2.2.1
theorem dL_law_291 : decode code 291 = .ok (.goto 4, 3) := dLg_14.2.2.2.2.2.2.2
theorem dLg_15 : decode code 294 = .ok (.iconst 0, 1) ∧ decode code 295 = .ok (.invokevirtual 23, 3) ∧ decode code 298 = .ok (.pop, 1) ∧ decode code 299 = .ok (.aload_n 2, 1) ∧ decode code 300 = .ok (.aload_n 0, 1) ∧ decode code 301 = .ok (.iload_n 3, 1) ∧ decode code 302 = .ok (.iconst 1, 1) ∧ decode code 303 = .ok (.iadd, 1) := by decide +kernel
theorem dL_law_294 : decode code 294 = .ok (.iconst 0, 1) := dLg_15.1
theorem dL_law_295 : decode code 295 = .ok (.invokevirtual 23, 3) := dLg_15.2.1
theorem dL_law_298 : decode code 298 = .ok (.pop, 1) := dLg_15.2.2.1
theorem dL_law_299 : decode code 299 = .ok (.aload_n 2, 1) := dLg_15.2.2.2.1
theorem dL_law_300 : decode code 300 = .ok (.aload_n 0, 1) := dLg_15.2.2.2.2.1
theorem dL_law_301 : decode code 301 = .ok (.iload_n 3, 1) := dLg_15.2.2.2.2.2.1
theorem dL_law_302 : decode code 302 = .ok (.iconst 1, 1) := dLg_15.2.2.2.2.2.2.1
theorem dL_law_303 : decode code 303 = .ok (.iadd, 1) := dLg_15.2.2.2.2.2.2.2
theorem dLg_16 : decode code 304 = .ok (.iaload, 1) ∧ decode code 305 = .ok (.aload_n 0, 1) ∧ decode code 306 = .ok (.iload_n 3, 1) ∧ decode code 307 = .ok (.iconst 2, 1) ∧ decode code 308 = .ok (.iadd, 1) ∧ decode code 309 = .ok (.iaload, 1) ∧ decode code 310 = .ok (.ifCond .eq 7, 3) ∧ decode code 313 = .ok (.iconst 1, 1) := by decide +kernel
theorem dL_law_304 : decode code 304 = .ok (.iaload, 1) := dLg_16.1
theorem dL_law_305 : decode code 305 = .ok (.aload_n 0, 1) := dLg_16.2.1
theorem dL_law_306 : decode code 306 = .ok (.iload_n 3, 1) := dLg_16.2.2.1
theorem dL_law_307 : decode code 307 = .ok (.iconst 2, 1) := dLg_16.2.2.2.1
theorem dL_law_308 : decode code 308 = .ok (.iadd, 1) := dLg_16.2.2.2.2.1
theorem dL_law_309 : decode code 309 = .ok (.iaload, 1) := dLg_16.2.2.2.2.2.1
theorem dL_law_310 : decode code 310 = .ok (.ifCond .eq 7, 3) := dLg_16.2.2.2.2.2.2.1
theorem dL_law_313 : decode code 313 = .ok (.iconst 1, 1) := dLg_16.2.2.2.2.2.2.2
theorem dLg_17 : decode code 314 = .ok (.goto 4, 3) ∧ decode code 317 = .ok (.iconst 0, 1) ∧ decode code 318 = .ok (.invokevirtual 27, 3) ∧ decode code 321 = .ok (.pop, 1) ∧ decode code 322 = .ok (.goto 1173, 3) ∧ decode code 325 = .ok (.aload_n 1, 1) ∧ decode code 326 = .ok (.aload_n 0, 1) ∧ decode code 327 = .ok (.iload_n 3, 1) := by decide +kernel
theorem dL_law_314 : decode code 314 = .ok (.goto 4, 3) := dLg_17.1
theorem dL_law_317 : decode code 317 = .ok (.iconst 0, 1) := dLg_17.2.1
theorem dL_law_318 : decode code 318 = .ok (.invokevirtual 27, 3) := dLg_17.2.2.1
theorem dL_law_321 : decode code 321 = .ok (.pop, 1) := dLg_17.2.2.2.1
theorem dL_law_322 : decode code 322 = .ok (.goto 1173, 3) := dLg_17.2.2.2.2.1
theorem dL_law_325 : decode code 325 = .ok (.aload_n 1, 1) := dLg_17.2.2.2.2.2.1
theorem dL_law_326 : decode code 326 = .ok (.aload_n 0, 1) := dLg_17.2.2.2.2.2.2.1
theorem dL_law_327 : decode code 327 = .ok (.iload_n 3, 1) := dLg_17.2.2.2.2.2.2.2
theorem dLg_18 : decode code 328 = .ok (.iconst 1, 1) ∧ decode code 329 = .ok (.iadd, 1) ∧ decode code 330 = .ok (.iaload, 1) ∧ decode code 331 = .ok (.aload_n 0, 1) ∧ decode code 332 = .ok (.iload_n 3, 1) ∧ decode code 333 = .ok (.iconst 2, 1) ∧ decode code 334 = .ok (.iadd, 1) ∧ decode code 335 = .ok (.iaload, 1) := by decide +kernel
theorem dL_law_328 : decode code 328 = .ok (.iconst 1, 1) := dLg_18.1
theorem dL_law_329 : decode code 329 = .ok (.iadd, 1) := dLg_18.2.1
theorem dL_law_330 : decode code 330 = .ok (.iaload, 1) := dLg_18.2.2.1
theorem dL_law_331 : decode code 331 = .ok (.aload_n 0, 1) := dLg_18.2.2.2.1
theorem dL_law_332 : decode code 332 = .ok (.iload_n 3, 1) := dLg_18.2.2.2.2.1
theorem dL_law_333 : decode code 333 = .ok (.iconst 2, 1) := dLg_18.2.2.2.2.2.1
theorem dL_law_334 : decode code 334 = .ok (.iadd, 1) := dLg_18.2.2.2.2.2.2.1
theorem dL_law_335 : decode code 335 = .ok (.iaload, 1) := dLg_18.2.2.2.2.2.2.2
theorem dLg_19 : decode code 336 = .ok (.invokevirtual 28, 3) ∧ decode code 339 = .ok (.pop, 1) ∧ decode code 340 = .ok (.aload_n 2, 1) ∧ decode code 341 = .ok (.aload_n 0, 1) ∧ decode code 342 = .ok (.iload_n 3, 1) ∧ decode code 343 = .ok (.iconst 1, 1) ∧ decode code 344 = .ok (.iadd, 1) ∧ decode code 345 = .ok (.iaload, 1) := by decide +kernel
theorem dL_law_336 : decode code 336 = .ok (.invokevirtual 28, 3) := dLg_19.1
theorem dL_law_339 : decode code 339 = .ok (.pop, 1) := dLg_19.2.1
theorem dL_law_340 : decode code 340 = .ok (.aload_n 2, 1) := dLg_19.2.2.1
theorem dL_law_341 : decode code 341 = .ok (.aload_n 0, 1) := dLg_19.2.2.2.1
theorem dL_law_342 : decode code 342 = .ok (.iload_n 3, 1) := dLg_19.2.2.2.2.1
theorem dL_law_343 : decode code 343 = .ok (.iconst 1, 1) := dLg_19.2.2.2.2.2.1
theorem dL_law_344 : decode code 344 = .ok (.iadd, 1) := dLg_19.2.2.2.2.2.2.1
theorem dL_law_345 : decode code 345 = .ok (.iaload, 1) := dLg_19.2.2.2.2.2.2.2
theorem dLg_20 : decode code 346 = .ok (.aload_n 0, 1) ∧ decode code 347 = .ok (.iload_n 3, 1) ∧ decode code 348 = .ok (.iconst 2, 1) ∧ decode code 349 = .ok (.iadd, 1) ∧ decode code 350 = .ok (.iaload, 1) ∧ decode code 351 = .ok (.invokevirtual 32, 3) ∧ decode code 354 = .ok (.pop, 1) ∧ decode code 355 = .ok (.goto 1140, 3) := by decide +kernel
theorem dL_law_346 : decode code 346 = .ok (.aload_n 0, 1) := dLg_20.1
theorem dL_law_347 : decode code 347 = .ok (.iload_n 3, 1) := dLg_20.2.1
theorem dL_law_348 : decode code 348 = .ok (.iconst 2, 1) := dLg_20.2.2.1
theorem dL_law_349 : decode code 349 = .ok (.iadd, 1) := dLg_20.2.2.2.1
theorem dL_law_350 : decode code 350 = .ok (.iaload, 1) := dLg_20.2.2.2.2.1
theorem dL_law_351 : decode code 351 = .ok (.invokevirtual 32, 3) := dLg_20.2.2.2.2.2.1
theorem dL_law_354 : decode code 354 = .ok (.pop, 1) := dLg_20.2.2.2.2.2.2.1
theorem dL_law_355 : decode code 355 = .ok (.goto 1140, 3) := dLg_20.2.2.2.2.2.2.2
theorem dLg_21 : decode code 358 = .ok (.aload_n 1, 1) ∧ decode code 359 = .ok (.aload_n 0, 1) ∧ decode code 360 = .ok (.iload_n 3, 1) ∧ decode code 361 = .ok (.iconst 1, 1) ∧ decode code 362 = .ok (.iadd, 1) ∧ decode code 363 = .ok (.iaload, 1) ∧ decode code 364 = .ok (.aload_n 0, 1) ∧ decode code 365 = .ok (.iload_n 3, 1) := by decide +kernel
theorem dL_law_358 : decode code 358 = .ok (.aload_n 1, 1) := dLg_21.1
theorem dL_law_359 : decode code 359 = .ok (.aload_n 0, 1) := dLg_21.2.1
theorem dL_law_360 : decode code 360 = .ok (.iload_n 3, 1) := dLg_21.2.2.1
theorem dL_law_361 : decode code 361 = .ok (.iconst 1, 1) := dLg_21.2.2.2.1
theorem dL_law_362 : decode code 362 = .ok (.iadd, 1) := dLg_21.2.2.2.2.1
theorem dL_law_363 : decode code 363 = .ok (.iaload, 1) := dLg_21.2.2.2.2.2.1
theorem dL_law_364 : decode code 364 = .ok (.aload_n 0, 1) := dLg_21.2.2.2.2.2.2.1
theorem dL_law_365 : decode code 365 = .ok (.iload_n 3, 1) := dLg_21.2.2.2.2.2.2.2
theorem dLg_22 : decode code 366 = .ok (.iconst 2, 1) ∧ decode code 367 = .ok (.iadd, 1) ∧ decode code 368 = .ok (.iaload, 1) ∧ decode code 369 = .ok (.aload_n 0, 1) ∧ decode code 370 = .ok (.iload_n 3, 1) ∧ decode code 371 = .ok (.iconst 3, 1) ∧ decode code 372 = .ok (.iadd, 1) ∧ decode code 373 = .ok (.iaload, 1) := by decide +kernel
theorem dL_law_366 : decode code 366 = .ok (.iconst 2, 1) := dLg_22.1
theorem dL_law_367 : decode code 367 = .ok (.iadd, 1) := dLg_22.2.1
theorem dL_law_368 : decode code 368 = .ok (.iaload, 1) := dLg_22.2.2.1
theorem dL_law_369 : decode code 369 = .ok (.aload_n 0, 1) := dLg_22.2.2.2.1
theorem dL_law_370 : decode code 370 = .ok (.iload_n 3, 1) := dLg_22.2.2.2.2.1
theorem dL_law_371 : decode code 371 = .ok (.iconst 3, 1) := dLg_22.2.2.2.2.2.1
theorem dL_law_372 : decode code 372 = .ok (.iadd, 1) := dLg_22.2.2.2.2.2.2.1
theorem dL_law_373 : decode code 373 = .ok (.iaload, 1) := dLg_22.2.2.2.2.2.2.2
theorem dLg_23 : decode code 374 = .ok (.aload_n 0, 1) ∧ decode code 375 = .ok (.iload_n 3, 1) ∧ decode code 376 = .ok (.iconst 4, 1) ∧ decode code 377 = .ok (.iadd, 1) ∧ decode code 378 = .ok (.iaload, 1) ∧ decode code 379 = .ok (.aload_n 0, 1) ∧ decode code 380 = .ok (.iload_n 3, 1) ∧ decode code 381 = .ok (.iconst 5, 1) := by decide +kernel
theorem dL_law_374 : decode code 374 = .ok (.aload_n 0, 1) := dLg_23.1
theorem dL_law_375 : decode code 375 = .ok (.iload_n 3, 1) := dLg_23.2.1
theorem dL_law_376 : decode code 376 = .ok (.iconst 4, 1) := dLg_23.2.2.1
theorem dL_law_377 : decode code 377 = .ok (.iadd, 1) := dLg_23.2.2.2.1
theorem dL_law_378 : decode code 378 = .ok (.iaload, 1) := dLg_23.2.2.2.2.1
theorem dL_law_379 : decode code 379 = .ok (.aload_n 0, 1) := dLg_23.2.2.2.2.2.1
theorem dL_law_380 : decode code 380 = .ok (.iload_n 3, 1) := dLg_23.2.2.2.2.2.2.1
theorem dL_law_381 : decode code 381 = .ok (.iconst 5, 1) := dLg_23.2.2.2.2.2.2.2
theorem dLg_24 : decode code 382 = .ok (.iadd, 1) ∧ decode code 383 = .ok (.iaload, 1) ∧ decode code 384 = .ok (.invokevirtual 33, 3) ∧ decode code 387 = .ok (.pop, 1) ∧ decode code 388 = .ok (.aload_n 2, 1) ∧ decode code 389 = .ok (.aload_n 0, 1) ∧ decode code 390 = .ok (.iload_n 3, 1) ∧ decode code 391 = .ok (.iconst 1, 1) := by decide +kernel
theorem dL_law_382 : decode code 382 = .ok (.iadd, 1) := dLg_24.1
theorem dL_law_383 : decode code 383 = .ok (.iaload, 1) := dLg_24.2.1
theorem dL_law_384 : decode code 384 = .ok (.invokevirtual 33, 3) := dLg_24.2.2.1
theorem dL_law_387 : decode code 387 = .ok (.pop, 1) := dLg_24.2.2.2.1
theorem dL_law_388 : decode code 388 = .ok (.aload_n 2, 1) := dLg_24.2.2.2.2.1
theorem dL_law_389 : decode code 389 = .ok (.aload_n 0, 1) := dLg_24.2.2.2.2.2.1
theorem dL_law_390 : decode code 390 = .ok (.iload_n 3, 1) := dLg_24.2.2.2.2.2.2.1
theorem dL_law_391 : decode code 391 = .ok (.iconst 1, 1) := dLg_24.2.2.2.2.2.2.2
theorem dLg_25 : decode code 392 = .ok (.iadd, 1) ∧ decode code 393 = .ok (.iaload, 1) ∧ decode code 394 = .ok (.aload_n 0, 1) ∧ decode code 395 = .ok (.iload_n 3, 1) ∧ decode code 396 = .ok (.iconst 2, 1) ∧ decode code 397 = .ok (.iadd, 1) ∧ decode code 398 = .ok (.iaload, 1) ∧ decode code 399 = .ok (.aload_n 0, 1) := by decide +kernel
theorem dL_law_392 : decode code 392 = .ok (.iadd, 1) := dLg_25.1
theorem dL_law_393 : decode code 393 = .ok (.iaload, 1) := dLg_25.2.1
theorem dL_law_394 : decode code 394 = .ok (.aload_n 0, 1) := dLg_25.2.2.1
theorem dL_law_395 : decode code 395 = .ok (.iload_n 3, 1) := dLg_25.2.2.2.1
theorem dL_law_396 : decode code 396 = .ok (.iconst 2, 1) := dLg_25.2.2.2.2.1
theorem dL_law_397 : decode code 397 = .ok (.iadd, 1) := dLg_25.2.2.2.2.2.1
theorem dL_law_398 : decode code 398 = .ok (.iaload, 1) := dLg_25.2.2.2.2.2.2.1
theorem dL_law_399 : decode code 399 = .ok (.aload_n 0, 1) := dLg_25.2.2.2.2.2.2.2
theorem dLg_26 : decode code 400 = .ok (.iload_n 3, 1) ∧ decode code 401 = .ok (.iconst 3, 1) ∧ decode code 402 = .ok (.iadd, 1) ∧ decode code 403 = .ok (.iaload, 1) ∧ decode code 404 = .ok (.aload_n 0, 1) ∧ decode code 405 = .ok (.iload_n 3, 1) ∧ decode code 406 = .ok (.iconst 4, 1) ∧ decode code 407 = .ok (.iadd, 1) := by decide +kernel
theorem dL_law_400 : decode code 400 = .ok (.iload_n 3, 1) := dLg_26.1
theorem dL_law_401 : decode code 401 = .ok (.iconst 3, 1) := dLg_26.2.1
theorem dL_law_402 : decode code 402 = .ok (.iadd, 1) := dLg_26.2.2.1
theorem dL_law_403 : decode code 403 = .ok (.iaload, 1) := dLg_26.2.2.2.1
theorem dL_law_404 : decode code 404 = .ok (.aload_n 0, 1) := dLg_26.2.2.2.2.1
theorem dL_law_405 : decode code 405 = .ok (.iload_n 3, 1) := dLg_26.2.2.2.2.2.1
theorem dL_law_406 : decode code 406 = .ok (.iconst 4, 1) := dLg_26.2.2.2.2.2.2.1
theorem dL_law_407 : decode code 407 = .ok (.iadd, 1) := dLg_26.2.2.2.2.2.2.2
theorem dLg_27 : decode code 408 = .ok (.iaload, 1) ∧ decode code 409 = .ok (.aload_n 0, 1) ∧ decode code 410 = .ok (.iload_n 3, 1) ∧ decode code 411 = .ok (.iconst 5, 1) ∧ decode code 412 = .ok (.iadd, 1) ∧ decode code 413 = .ok (.iaload, 1) ∧ decode code 414 = .ok (.invokevirtual 37, 3) ∧ decode code 417 = .ok (.pop, 1) := by decide +kernel
theorem dL_law_408 : decode code 408 = .ok (.iaload, 1) := dLg_27.1
theorem dL_law_409 : decode code 409 = .ok (.aload_n 0, 1) := dLg_27.2.1
theorem dL_law_410 : decode code 410 = .ok (.iload_n 3, 1) := dLg_27.2.2.1
theorem dL_law_411 : decode code 411 = .ok (.iconst 5, 1) := dLg_27.2.2.2.1
theorem dL_law_412 : decode code 412 = .ok (.iadd, 1) := dLg_27.2.2.2.2.1
theorem dL_law_413 : decode code 413 = .ok (.iaload, 1) := dLg_27.2.2.2.2.2.1
theorem dL_law_414 : decode code 414 = .ok (.invokevirtual 37, 3) := dLg_27.2.2.2.2.2.2.1
theorem dL_law_417 : decode code 417 = .ok (.pop, 1) := dLg_27.2.2.2.2.2.2.2
theorem dLg_28 : decode code 418 = .ok (.goto 1077, 3) ∧ decode code 421 = .ok (.aload_n 1, 1) ∧ decode code 422 = .ok (.aload_n 0, 1) ∧ decode code 423 = .ok (.iload_n 3, 1) ∧ decode code 424 = .ok (.iconst 1, 1) ∧ decode code 425 = .ok (.iadd, 1) ∧ decode code 426 = .ok (.iaload, 1) ∧ decode code 427 = .ok (.invokevirtual 38, 3) := by decide +kernel
theorem dL_law_418 : decode code 418 = .ok (.goto 1077, 3) := dLg_28.1
theorem dL_law_421 : decode code 421 = .ok (.aload_n 1, 1) := dLg_28.2.1
theorem dL_law_422 : decode code 422 = .ok (.aload_n 0, 1) := dLg_28.2.2.1
theorem dL_law_423 : decode code 423 = .ok (.iload_n 3, 1) := dLg_28.2.2.2.1
theorem dL_law_424 : decode code 424 = .ok (.iconst 1, 1) := dLg_28.2.2.2.2.1
theorem dL_law_425 : decode code 425 = .ok (.iadd, 1) := dLg_28.2.2.2.2.2.1
theorem dL_law_426 : decode code 426 = .ok (.iaload, 1) := dLg_28.2.2.2.2.2.2.1
theorem dL_law_427 : decode code 427 = .ok (.invokevirtual 38, 3) := dLg_28.2.2.2.2.2.2.2
theorem dLg_29 : decode code 430 = .ok (.pop, 1) ∧ decode code 431 = .ok (.aload_n 2, 1) ∧ decode code 432 = .ok (.aload_n 0, 1) ∧ decode code 433 = .ok (.iload_n 3, 1) ∧ decode code 434 = .ok (.iconst 1, 1) ∧ decode code 435 = .ok (.iadd, 1) ∧ decode code 436 = .ok (.iaload, 1) ∧ decode code 437 = .ok (.invokevirtual 42, 3) := by decide +kernel
theorem dL_law_430 : decode code 430 = .ok (.pop, 1) := dLg_29.1
theorem dL_law_431 : decode code 431 = .ok (.aload_n 2, 1) := dLg_29.2.1
theorem dL_law_432 : decode code 432 = .ok (.aload_n 0, 1) := dLg_29.2.2.1
theorem dL_law_433 : decode code 433 = .ok (.iload_n 3, 1) := dLg_29.2.2.2.1
theorem dL_law_434 : decode code 434 = .ok (.iconst 1, 1) := dLg_29.2.2.2.2.1
theorem dL_law_435 : decode code 435 = .ok (.iadd, 1) := dLg_29.2.2.2.2.2.1
theorem dL_law_436 : decode code 436 = .ok (.iaload, 1) := dLg_29.2.2.2.2.2.2.1
theorem dL_law_437 : decode code 437 = .ok (.invokevirtual 42, 3) := dLg_29.2.2.2.2.2.2.2
theorem dLg_30 : decode code 440 = .ok (.pop, 1) ∧ decode code 441 = .ok (.goto 1054, 3) ∧ decode code 444 = .ok (.aload_n 1, 1) ∧ decode code 445 = .ok (.aload_n 0, 1) ∧ decode code 446 = .ok (.iload_n 3, 1) ∧ decode code 447 = .ok (.iconst 1, 1) ∧ decode code 448 = .ok (.iadd, 1) ∧ decode code 449 = .ok (.iaload, 1) := by decide +kernel
theorem dL_law_440 : decode code 440 = .ok (.pop, 1) := dLg_30.1
theorem dL_law_441 : decode code 441 = .ok (.goto 1054, 3) := dLg_30.2.1
theorem dL_law_444 : decode code 444 = .ok (.aload_n 1, 1) := dLg_30.2.2.1
theorem dL_law_445 : decode code 445 = .ok (.aload_n 0, 1) := dLg_30.2.2.2.1
theorem dL_law_446 : decode code 446 = .ok (.iload_n 3, 1) := dLg_30.2.2.2.2.1
theorem dL_law_447 : decode code 447 = .ok (.iconst 1, 1) := dLg_30.2.2.2.2.2.1
theorem dL_law_448 : decode code 448 = .ok (.iadd, 1) := dLg_30.2.2.2.2.2.2.1
theorem dL_law_449 : decode code 449 = .ok (.iaload, 1) := dLg_30.2.2.2.2.2.2.2
theorem dLg_31 : decode code 450 = .ok (.aload_n 0, 1) ∧ decode code 451 = .ok (.iload_n 3, 1) ∧ decode code 452 = .ok (.iconst 2, 1) ∧ decode code 453 = .ok (.iadd, 1) ∧ decode code 454 = .ok (.iaload, 1) ∧ decode code 455 = .ok (.invokevirtual 43, 3) ∧ decode code 458 = .ok (.pop, 1) ∧ decode code 459 = .ok (.aload_n 2, 1) := by decide +kernel
theorem dL_law_450 : decode code 450 = .ok (.aload_n 0, 1) := dLg_31.1
theorem dL_law_451 : decode code 451 = .ok (.iload_n 3, 1) := dLg_31.2.1
theorem dL_law_452 : decode code 452 = .ok (.iconst 2, 1) := dLg_31.2.2.1
theorem dL_law_453 : decode code 453 = .ok (.iadd, 1) := dLg_31.2.2.2.1
theorem dL_law_454 : decode code 454 = .ok (.iaload, 1) := dLg_31.2.2.2.2.1
theorem dL_law_455 : decode code 455 = .ok (.invokevirtual 43, 3) := dLg_31.2.2.2.2.2.1
theorem dL_law_458 : decode code 458 = .ok (.pop, 1) := dLg_31.2.2.2.2.2.2.1
theorem dL_law_459 : decode code 459 = .ok (.aload_n 2, 1) := dLg_31.2.2.2.2.2.2.2
theorem dLg_32 : decode code 460 = .ok (.aload_n 0, 1) ∧ decode code 461 = .ok (.iload_n 3, 1) ∧ decode code 462 = .ok (.iconst 1, 1) ∧ decode code 463 = .ok (.iadd, 1) ∧ decode code 464 = .ok (.iaload, 1) ∧ decode code 465 = .ok (.aload_n 0, 1) ∧ decode code 466 = .ok (.iload_n 3, 1) ∧ decode code 467 = .ok (.iconst 2, 1) := by decide +kernel
theorem dL_law_460 : decode code 460 = .ok (.aload_n 0, 1) := dLg_32.1
theorem dL_law_461 : decode code 461 = .ok (.iload_n 3, 1) := dLg_32.2.1
theorem dL_law_462 : decode code 462 = .ok (.iconst 1, 1) := dLg_32.2.2.1
theorem dL_law_463 : decode code 463 = .ok (.iadd, 1) := dLg_32.2.2.2.1
theorem dL_law_464 : decode code 464 = .ok (.iaload, 1) := dLg_32.2.2.2.2.1
theorem dL_law_465 : decode code 465 = .ok (.aload_n 0, 1) := dLg_32.2.2.2.2.2.1
theorem dL_law_466 : decode code 466 = .ok (.iload_n 3, 1) := dLg_32.2.2.2.2.2.2.1
theorem dL_law_467 : decode code 467 = .ok (.iconst 2, 1) := dLg_32.2.2.2.2.2.2.2
theorem dLg_33 : decode code 468 = .ok (.iadd, 1) ∧ decode code 469 = .ok (.iaload, 1) ∧ decode code 470 = .ok (.invokevirtual 46, 3) ∧ decode code 473 = .ok (.pop, 1) ∧ decode code 474 = .ok (.goto 1021, 3) ∧ decode code 477 = .ok (.aload_n 1, 1) ∧ decode code 478 = .ok (.aload_n 0, 1) ∧ decode code 479 = .ok (.iload_n 3, 1) := by decide +kernel
theorem dL_law_468 : decode code 468 = .ok (.iadd, 1) := dLg_33.1
theorem dL_law_469 : decode code 469 = .ok (.iaload, 1) := dLg_33.2.1
theorem dL_law_470 : decode code 470 = .ok (.invokevirtual 46, 3) := dLg_33.2.2.1
theorem dL_law_473 : decode code 473 = .ok (.pop, 1) := dLg_33.2.2.2.1
theorem dL_law_474 : decode code 474 = .ok (.goto 1021, 3) := dLg_33.2.2.2.2.1
theorem dL_law_477 : decode code 477 = .ok (.aload_n 1, 1) := dLg_33.2.2.2.2.2.1
theorem dL_law_478 : decode code 478 = .ok (.aload_n 0, 1) := dLg_33.2.2.2.2.2.2.1
theorem dL_law_479 : decode code 479 = .ok (.iload_n 3, 1) := dLg_33.2.2.2.2.2.2.2
theorem dLg_34 : decode code 480 = .ok (.iconst 1, 1) ∧ decode code 481 = .ok (.iadd, 1) ∧ decode code 482 = .ok (.iaload, 1) ∧ decode code 483 = .ok (.invokevirtual 47, 3) ∧ decode code 486 = .ok (.pop, 1) ∧ decode code 487 = .ok (.aload_n 2, 1) ∧ decode code 488 = .ok (.aload_n 0, 1) ∧ decode code 489 = .ok (.iload_n 3, 1) := by decide +kernel
theorem dL_law_480 : decode code 480 = .ok (.iconst 1, 1) := dLg_34.1
theorem dL_law_481 : decode code 481 = .ok (.iadd, 1) := dLg_34.2.1
theorem dL_law_482 : decode code 482 = .ok (.iaload, 1) := dLg_34.2.2.1
theorem dL_law_483 : decode code 483 = .ok (.invokevirtual 47, 3) := dLg_34.2.2.2.1
theorem dL_law_486 : decode code 486 = .ok (.pop, 1) := dLg_34.2.2.2.2.1
theorem dL_law_487 : decode code 487 = .ok (.aload_n 2, 1) := dLg_34.2.2.2.2.2.1
theorem dL_law_488 : decode code 488 = .ok (.aload_n 0, 1) := dLg_34.2.2.2.2.2.2.1
theorem dL_law_489 : decode code 489 = .ok (.iload_n 3, 1) := dLg_34.2.2.2.2.2.2.2
theorem dLg_35 : decode code 490 = .ok (.iconst 1, 1) ∧ decode code 491 = .ok (.iadd, 1) ∧ decode code 492 = .ok (.iaload, 1) ∧ decode code 493 = .ok (.invokevirtual 50, 3) ∧ decode code 496 = .ok (.pop, 1) ∧ decode code 497 = .ok (.goto 998, 3) ∧ decode code 500 = .ok (.aload_n 1, 1) ∧ decode code 501 = .ok (.aload_n 0, 1) := by decide +kernel
theorem dL_law_490 : decode code 490 = .ok (.iconst 1, 1) := dLg_35.1
theorem dL_law_491 : decode code 491 = .ok (.iadd, 1) := dLg_35.2.1
theorem dL_law_492 : decode code 492 = .ok (.iaload, 1) := dLg_35.2.2.1
theorem dL_law_493 : decode code 493 = .ok (.invokevirtual 50, 3) := dLg_35.2.2.2.1
theorem dL_law_496 : decode code 496 = .ok (.pop, 1) := dLg_35.2.2.2.2.1
theorem dL_law_497 : decode code 497 = .ok (.goto 998, 3) := dLg_35.2.2.2.2.2.1
theorem dL_law_500 : decode code 500 = .ok (.aload_n 1, 1) := dLg_35.2.2.2.2.2.2.1
theorem dL_law_501 : decode code 501 = .ok (.aload_n 0, 1) := dLg_35.2.2.2.2.2.2.2
theorem dLg_36 : decode code 502 = .ok (.iload_n 3, 1) ∧ decode code 503 = .ok (.iconst 1, 1) ∧ decode code 504 = .ok (.iadd, 1) ∧ decode code 505 = .ok (.iaload, 1) ∧ decode code 506 = .ok (.aload_n 0, 1) ∧ decode code 507 = .ok (.iload_n 3, 1) ∧ decode code 508 = .ok (.iconst 2, 1) ∧ decode code 509 = .ok (.iadd, 1) := by decide +kernel
theorem dL_law_502 : decode code 502 = .ok (.iload_n 3, 1) := dLg_36.1
theorem dL_law_503 : decode code 503 = .ok (.iconst 1, 1) := dLg_36.2.1
theorem dL_law_504 : decode code 504 = .ok (.iadd, 1) := dLg_36.2.2.1
theorem dL_law_505 : decode code 505 = .ok (.iaload, 1) := dLg_36.2.2.2.1
theorem dL_law_506 : decode code 506 = .ok (.aload_n 0, 1) := dLg_36.2.2.2.2.1
theorem dL_law_507 : decode code 507 = .ok (.iload_n 3, 1) := dLg_36.2.2.2.2.2.1
theorem dL_law_508 : decode code 508 = .ok (.iconst 2, 1) := dLg_36.2.2.2.2.2.2.1
theorem dL_law_509 : decode code 509 = .ok (.iadd, 1) := dLg_36.2.2.2.2.2.2.2
theorem dLg_37 : decode code 510 = .ok (.iaload, 1) ∧ decode code 511 = .ok (.invokevirtual 51, 3) ∧ decode code 514 = .ok (.pop, 1) ∧ decode code 515 = .ok (.aload_n 2, 1) ∧ decode code 516 = .ok (.aload_n 0, 1) ∧ decode code 517 = .ok (.iload_n 3, 1) ∧ decode code 518 = .ok (.iconst 1, 1) ∧ decode code 519 = .ok (.iadd, 1) := by decide +kernel
theorem dL_law_510 : decode code 510 = .ok (.iaload, 1) := dLg_37.1
theorem dL_law_511 : decode code 511 = .ok (.invokevirtual 51, 3) := dLg_37.2.1
theorem dL_law_514 : decode code 514 = .ok (.pop, 1) := dLg_37.2.2.1
theorem dL_law_515 : decode code 515 = .ok (.aload_n 2, 1) := dLg_37.2.2.2.1
theorem dL_law_516 : decode code 516 = .ok (.aload_n 0, 1) := dLg_37.2.2.2.2.1
theorem dL_law_517 : decode code 517 = .ok (.iload_n 3, 1) := dLg_37.2.2.2.2.2.1
theorem dL_law_518 : decode code 518 = .ok (.iconst 1, 1) := dLg_37.2.2.2.2.2.2.1
theorem dL_law_519 : decode code 519 = .ok (.iadd, 1) := dLg_37.2.2.2.2.2.2.2
theorem dLg_38 : decode code 520 = .ok (.iaload, 1) ∧ decode code 521 = .ok (.aload_n 0, 1) ∧ decode code 522 = .ok (.iload_n 3, 1) ∧ decode code 523 = .ok (.iconst 2, 1) ∧ decode code 524 = .ok (.iadd, 1) ∧ decode code 525 = .ok (.iaload, 1) ∧ decode code 526 = .ok (.invokevirtual 54, 3) ∧ decode code 529 = .ok (.pop, 1) := by decide +kernel
theorem dL_law_520 : decode code 520 = .ok (.iaload, 1) := dLg_38.1
theorem dL_law_521 : decode code 521 = .ok (.aload_n 0, 1) := dLg_38.2.1
theorem dL_law_522 : decode code 522 = .ok (.iload_n 3, 1) := dLg_38.2.2.1
theorem dL_law_523 : decode code 523 = .ok (.iconst 2, 1) := dLg_38.2.2.2.1
theorem dL_law_524 : decode code 524 = .ok (.iadd, 1) := dLg_38.2.2.2.2.1
theorem dL_law_525 : decode code 525 = .ok (.iaload, 1) := dLg_38.2.2.2.2.2.1
theorem dL_law_526 : decode code 526 = .ok (.invokevirtual 54, 3) := dLg_38.2.2.2.2.2.2.1
theorem dL_law_529 : decode code 529 = .ok (.pop, 1) := dLg_38.2.2.2.2.2.2.2
theorem dLg_39 : decode code 530 = .ok (.goto 965, 3) ∧ decode code 533 = .ok (.aload_n 1, 1) ∧ decode code 534 = .ok (.aload_n 0, 1) ∧ decode code 535 = .ok (.iload_n 3, 1) ∧ decode code 536 = .ok (.iconst 1, 1) ∧ decode code 537 = .ok (.iadd, 1) ∧ decode code 538 = .ok (.iaload, 1) ∧ decode code 539 = .ok (.aload_n 0, 1) := by decide +kernel
theorem dL_law_530 : decode code 530 = .ok (.goto 965, 3) := dLg_39.1
theorem dL_law_533 : decode code 533 = .ok (.aload_n 1, 1) := dLg_39.2.1
theorem dL_law_534 : decode code 534 = .ok (.aload_n 0, 1) := dLg_39.2.2.1
theorem dL_law_535 : decode code 535 = .ok (.iload_n 3, 1) := dLg_39.2.2.2.1
theorem dL_law_536 : decode code 536 = .ok (.iconst 1, 1) := dLg_39.2.2.2.2.1
theorem dL_law_537 : decode code 537 = .ok (.iadd, 1) := dLg_39.2.2.2.2.2.1
theorem dL_law_538 : decode code 538 = .ok (.iaload, 1) := dLg_39.2.2.2.2.2.2.1
theorem dL_law_539 : decode code 539 = .ok (.aload_n 0, 1) := dLg_39.2.2.2.2.2.2.2
theorem dLg_40 : decode code 540 = .ok (.iload_n 3, 1) ∧ decode code 541 = .ok (.iconst 2, 1) ∧ decode code 542 = .ok (.iadd, 1) ∧ decode code 543 = .ok (.iaload, 1) ∧ decode code 544 = .ok (.invokevirtual 55, 3) ∧ decode code 547 = .ok (.pop, 1) ∧ decode code 548 = .ok (.aload_n 2, 1) ∧ decode code 549 = .ok (.aload_n 0, 1) := by decide +kernel
theorem dL_law_540 : decode code 540 = .ok (.iload_n 3, 1) := dLg_40.1
theorem dL_law_541 : decode code 541 = .ok (.iconst 2, 1) := dLg_40.2.1
theorem dL_law_542 : decode code 542 = .ok (.iadd, 1) := dLg_40.2.2.1
theorem dL_law_543 : decode code 543 = .ok (.iaload, 1) := dLg_40.2.2.2.1
theorem dL_law_544 : decode code 544 = .ok (.invokevirtual 55, 3) := dLg_40.2.2.2.2.1
theorem dL_law_547 : decode code 547 = .ok (.pop, 1) := dLg_40.2.2.2.2.2.1
theorem dL_law_548 : decode code 548 = .ok (.aload_n 2, 1) := dLg_40.2.2.2.2.2.2.1
theorem dL_law_549 : decode code 549 = .ok (.aload_n 0, 1) := dLg_40.2.2.2.2.2.2.2
theorem dLg_41 : decode code 550 = .ok (.iload_n 3, 1) ∧ decode code 551 = .ok (.iconst 1, 1) ∧ decode code 552 = .ok (.iadd, 1) ∧ decode code 553 = .ok (.iaload, 1) ∧ decode code 554 = .ok (.aload_n 0, 1) ∧ decode code 555 = .ok (.iload_n 3, 1) ∧ decode code 556 = .ok (.iconst 2, 1) ∧ decode code 557 = .ok (.iadd, 1) := by decide +kernel
theorem dL_law_550 : decode code 550 = .ok (.iload_n 3, 1) := dLg_41.1
theorem dL_law_551 : decode code 551 = .ok (.iconst 1, 1) := dLg_41.2.1
theorem dL_law_552 : decode code 552 = .ok (.iadd, 1) := dLg_41.2.2.1
theorem dL_law_553 : decode code 553 = .ok (.iaload, 1) := dLg_41.2.2.2.1
theorem dL_law_554 : decode code 554 = .ok (.aload_n 0, 1) := dLg_41.2.2.2.2.1
theorem dL_law_555 : decode code 555 = .ok (.iload_n 3, 1) := dLg_41.2.2.2.2.2.1
theorem dL_law_556 : decode code 556 = .ok (.iconst 2, 1) := dLg_41.2.2.2.2.2.2.1
theorem dL_law_557 : decode code 557 = .ok (.iadd, 1) := dLg_41.2.2.2.2.2.2.2
theorem dLg_42 : decode code 558 = .ok (.iaload, 1) ∧ decode code 559 = .ok (.invokevirtual 58, 3) ∧ decode code 562 = .ok (.pop, 1) ∧ decode code 563 = .ok (.goto 932, 3) ∧ decode code 566 = .ok (.aload_n 1, 1) ∧ decode code 567 = .ok (.aload_n 0, 1) ∧ decode code 568 = .ok (.iload_n 3, 1) ∧ decode code 569 = .ok (.iconst 1, 1) := by decide +kernel
theorem dL_law_558 : decode code 558 = .ok (.iaload, 1) := dLg_42.1
theorem dL_law_559 : decode code 559 = .ok (.invokevirtual 58, 3) := dLg_42.2.1
theorem dL_law_562 : decode code 562 = .ok (.pop, 1) := dLg_42.2.2.1
theorem dL_law_563 : decode code 563 = .ok (.goto 932, 3) := dLg_42.2.2.2.1
theorem dL_law_566 : decode code 566 = .ok (.aload_n 1, 1) := dLg_42.2.2.2.2.1
theorem dL_law_567 : decode code 567 = .ok (.aload_n 0, 1) := dLg_42.2.2.2.2.2.1
theorem dL_law_568 : decode code 568 = .ok (.iload_n 3, 1) := dLg_42.2.2.2.2.2.2.1
theorem dL_law_569 : decode code 569 = .ok (.iconst 1, 1) := dLg_42.2.2.2.2.2.2.2
theorem dLg_43 : decode code 570 = .ok (.iadd, 1) ∧ decode code 571 = .ok (.iaload, 1) ∧ decode code 572 = .ok (.aload_n 0, 1) ∧ decode code 573 = .ok (.iload_n 3, 1) ∧ decode code 574 = .ok (.iconst 2, 1) ∧ decode code 575 = .ok (.iadd, 1) ∧ decode code 576 = .ok (.iaload, 1) ∧ decode code 577 = .ok (.invokevirtual 59, 3) := by decide +kernel
theorem dL_law_570 : decode code 570 = .ok (.iadd, 1) := dLg_43.1
theorem dL_law_571 : decode code 571 = .ok (.iaload, 1) := dLg_43.2.1
theorem dL_law_572 : decode code 572 = .ok (.aload_n 0, 1) := dLg_43.2.2.1
theorem dL_law_573 : decode code 573 = .ok (.iload_n 3, 1) := dLg_43.2.2.2.1
theorem dL_law_574 : decode code 574 = .ok (.iconst 2, 1) := dLg_43.2.2.2.2.1
theorem dL_law_575 : decode code 575 = .ok (.iadd, 1) := dLg_43.2.2.2.2.2.1
theorem dL_law_576 : decode code 576 = .ok (.iaload, 1) := dLg_43.2.2.2.2.2.2.1
theorem dL_law_577 : decode code 577 = .ok (.invokevirtual 59, 3) := dLg_43.2.2.2.2.2.2.2
theorem dLg_44 : decode code 580 = .ok (.aload_n 2, 1) ∧ decode code 581 = .ok (.aload_n 0, 1) ∧ decode code 582 = .ok (.iload_n 3, 1) ∧ decode code 583 = .ok (.iconst 1, 1) ∧ decode code 584 = .ok (.iadd, 1) ∧ decode code 585 = .ok (.iaload, 1) ∧ decode code 586 = .ok (.aload_n 0, 1) ∧ decode code 587 = .ok (.iload_n 3, 1) := by decide +kernel
theorem dL_law_580 : decode code 580 = .ok (.aload_n 2, 1) := dLg_44.1
theorem dL_law_581 : decode code 581 = .ok (.aload_n 0, 1) := dLg_44.2.1
theorem dL_law_582 : decode code 582 = .ok (.iload_n 3, 1) := dLg_44.2.2.1
theorem dL_law_583 : decode code 583 = .ok (.iconst 1, 1) := dLg_44.2.2.2.1
theorem dL_law_584 : decode code 584 = .ok (.iadd, 1) := dLg_44.2.2.2.2.1
theorem dL_law_585 : decode code 585 = .ok (.iaload, 1) := dLg_44.2.2.2.2.2.1
theorem dL_law_586 : decode code 586 = .ok (.aload_n 0, 1) := dLg_44.2.2.2.2.2.2.1
theorem dL_law_587 : decode code 587 = .ok (.iload_n 3, 1) := dLg_44.2.2.2.2.2.2.2
theorem dLg_45 : decode code 588 = .ok (.iconst 2, 1) ∧ decode code 589 = .ok (.iadd, 1) ∧ decode code 590 = .ok (.iaload, 1) ∧ decode code 591 = .ok (.invokevirtual 62, 3) ∧ decode code 594 = .ok (.if_icmp .eq 901, 3) ∧ decode code 599 = .ok (.aload_n 1, 1) ∧ decode code 600 = .ok (.aload_n 0, 1) ∧ decode code 601 = .ok (.iload_n 3, 1) := by decide +kernel
theorem dL_law_588 : decode code 588 = .ok (.iconst 2, 1) := dLg_45.1
theorem dL_law_589 : decode code 589 = .ok (.iadd, 1) := dLg_45.2.1
theorem dL_law_590 : decode code 590 = .ok (.iaload, 1) := dLg_45.2.2.1
theorem dL_law_591 : decode code 591 = .ok (.invokevirtual 62, 3) := dLg_45.2.2.2.1
theorem dL_law_594 : decode code 594 = .ok (.if_icmp .eq 901, 3) := dLg_45.2.2.2.2.1
theorem dL_law_599 : decode code 599 = .ok (.aload_n 1, 1) := dLg_45.2.2.2.2.2.1
theorem dL_law_600 : decode code 600 = .ok (.aload_n 0, 1) := dLg_45.2.2.2.2.2.2.1
theorem dL_law_601 : decode code 601 = .ok (.iload_n 3, 1) := dLg_45.2.2.2.2.2.2.2
theorem dLg_46 : decode code 602 = .ok (.iconst 1, 1) ∧ decode code 603 = .ok (.iadd, 1) ∧ decode code 604 = .ok (.iaload, 1) ∧ decode code 605 = .ok (.aload_n 0, 1) ∧ decode code 606 = .ok (.iload_n 3, 1) ∧ decode code 607 = .ok (.iconst 2, 1) ∧ decode code 608 = .ok (.iadd, 1) ∧ decode code 609 = .ok (.iaload, 1) := by decide +kernel
theorem dL_law_602 : decode code 602 = .ok (.iconst 1, 1) := dLg_46.1
theorem dL_law_603 : decode code 603 = .ok (.iadd, 1) := dLg_46.2.1
theorem dL_law_604 : decode code 604 = .ok (.iaload, 1) := dLg_46.2.2.1
theorem dL_law_605 : decode code 605 = .ok (.aload_n 0, 1) := dLg_46.2.2.2.1
theorem dL_law_606 : decode code 606 = .ok (.iload_n 3, 1) := dLg_46.2.2.2.2.1
theorem dL_law_607 : decode code 607 = .ok (.iconst 2, 1) := dLg_46.2.2.2.2.2.1
theorem dL_law_608 : decode code 608 = .ok (.iadd, 1) := dLg_46.2.2.2.2.2.2.1
theorem dL_law_609 : decode code 609 = .ok (.iaload, 1) := dLg_46.2.2.2.2.2.2.2
theorem dLg_47 : decode code 610 = .ok (.aload_n 0, 1) ∧ decode code 611 = .ok (.iload_n 3, 1) ∧ decode code 612 = .ok (.iconst 3, 1) ∧ decode code 613 = .ok (.iadd, 1) ∧ decode code 614 = .ok (.iaload, 1) ∧ decode code 615 = .ok (.aload_n 0, 1) ∧ decode code 616 = .ok (.iload_n 3, 1) ∧ decode code 617 = .ok (.iconst 4, 1) := by decide +kernel
theorem dL_law_610 : decode code 610 = .ok (.aload_n 0, 1) := dLg_47.1
theorem dL_law_611 : decode code 611 = .ok (.iload_n 3, 1) := dLg_47.2.1
theorem dL_law_612 : decode code 612 = .ok (.iconst 3, 1) := dLg_47.2.2.1
theorem dL_law_613 : decode code 613 = .ok (.iadd, 1) := dLg_47.2.2.2.1
theorem dL_law_614 : decode code 614 = .ok (.iaload, 1) := dLg_47.2.2.2.2.1
theorem dL_law_615 : decode code 615 = .ok (.aload_n 0, 1) := dLg_47.2.2.2.2.2.1
theorem dL_law_616 : decode code 616 = .ok (.iload_n 3, 1) := dLg_47.2.2.2.2.2.2.1
theorem dL_law_617 : decode code 617 = .ok (.iconst 4, 1) := dLg_47.2.2.2.2.2.2.2
theorem dLg_48 : decode code 618 = .ok (.iadd, 1) ∧ decode code 619 = .ok (.iaload, 1) ∧ decode code 620 = .ok (.invokevirtual 63, 3) ∧ decode code 623 = .ok (.pop2, 1) ∧ decode code 624 = .ok (.aload_n 2, 1) ∧ decode code 625 = .ok (.aload_n 0, 1) ∧ decode code 626 = .ok (.iload_n 3, 1) ∧ decode code 627 = .ok (.iconst 1, 1) := by decide +kernel
theorem dL_law_618 : decode code 618 = .ok (.iadd, 1) := dLg_48.1
theorem dL_law_619 : decode code 619 = .ok (.iaload, 1) := dLg_48.2.1
theorem dL_law_620 : decode code 620 = .ok (.invokevirtual 63, 3) := dLg_48.2.2.1
theorem dL_law_623 : decode code 623 = .ok (.pop2, 1) := dLg_48.2.2.2.1
theorem dL_law_624 : decode code 624 = .ok (.aload_n 2, 1) := dLg_48.2.2.2.2.1
theorem dL_law_625 : decode code 625 = .ok (.aload_n 0, 1) := dLg_48.2.2.2.2.2.1
theorem dL_law_626 : decode code 626 = .ok (.iload_n 3, 1) := dLg_48.2.2.2.2.2.2.1
theorem dL_law_627 : decode code 627 = .ok (.iconst 1, 1) := dLg_48.2.2.2.2.2.2.2
theorem dLg_49 : decode code 628 = .ok (.iadd, 1) ∧ decode code 629 = .ok (.iaload, 1) ∧ decode code 630 = .ok (.aload_n 0, 1) ∧ decode code 631 = .ok (.iload_n 3, 1) ∧ decode code 632 = .ok (.iconst 2, 1) ∧ decode code 633 = .ok (.iadd, 1) ∧ decode code 634 = .ok (.iaload, 1) ∧ decode code 635 = .ok (.aload_n 0, 1) := by decide +kernel
theorem dL_law_628 : decode code 628 = .ok (.iadd, 1) := dLg_49.1
theorem dL_law_629 : decode code 629 = .ok (.iaload, 1) := dLg_49.2.1
theorem dL_law_630 : decode code 630 = .ok (.aload_n 0, 1) := dLg_49.2.2.1
theorem dL_law_631 : decode code 631 = .ok (.iload_n 3, 1) := dLg_49.2.2.2.1
theorem dL_law_632 : decode code 632 = .ok (.iconst 2, 1) := dLg_49.2.2.2.2.1
theorem dL_law_633 : decode code 633 = .ok (.iadd, 1) := dLg_49.2.2.2.2.2.1
theorem dL_law_634 : decode code 634 = .ok (.iaload, 1) := dLg_49.2.2.2.2.2.2.1
theorem dL_law_635 : decode code 635 = .ok (.aload_n 0, 1) := dLg_49.2.2.2.2.2.2.2
theorem dLg_50 : decode code 636 = .ok (.iload_n 3, 1) ∧ decode code 637 = .ok (.iconst 3, 1) ∧ decode code 638 = .ok (.iadd, 1) ∧ decode code 639 = .ok (.iaload, 1) ∧ decode code 640 = .ok (.aload_n 0, 1) ∧ decode code 641 = .ok (.iload_n 3, 1) ∧ decode code 642 = .ok (.iconst 4, 1) ∧ decode code 643 = .ok (.iadd, 1) := by decide +kernel
theorem dL_law_636 : decode code 636 = .ok (.iload_n 3, 1) := dLg_50.1
theorem dL_law_637 : decode code 637 = .ok (.iconst 3, 1) := dLg_50.2.1
theorem dL_law_638 : decode code 638 = .ok (.iadd, 1) := dLg_50.2.2.1
theorem dL_law_639 : decode code 639 = .ok (.iaload, 1) := dLg_50.2.2.2.1
theorem dL_law_640 : decode code 640 = .ok (.aload_n 0, 1) := dLg_50.2.2.2.2.1
theorem dL_law_641 : decode code 641 = .ok (.iload_n 3, 1) := dLg_50.2.2.2.2.2.1
theorem dL_law_642 : decode code 642 = .ok (.iconst 4, 1) := dLg_50.2.2.2.2.2.2.1
theorem dL_law_643 : decode code 643 = .ok (.iadd, 1) := dLg_50.2.2.2.2.2.2.2
theorem dLg_51 : decode code 644 = .ok (.iaload, 1) ∧ decode code 645 = .ok (.invokevirtual 67, 3) ∧ decode code 648 = .ok (.pop2, 1) ∧ decode code 649 = .ok (.goto 846, 3) ∧ decode code 652 = .ok (.aload_n 1, 1) ∧ decode code 653 = .ok (.aload_n 0, 1) ∧ decode code 654 = .ok (.iload_n 3, 1) ∧ decode code 655 = .ok (.iconst 1, 1) := by decide +kernel
theorem dL_law_644 : decode code 644 = .ok (.iaload, 1) := dLg_51.1
theorem dL_law_645 : decode code 645 = .ok (.invokevirtual 67, 3) := dLg_51.2.1
theorem dL_law_648 : decode code 648 = .ok (.pop2, 1) := dLg_51.2.2.1
theorem dL_law_649 : decode code 649 = .ok (.goto 846, 3) := dLg_51.2.2.2.1
theorem dL_law_652 : decode code 652 = .ok (.aload_n 1, 1) := dLg_51.2.2.2.2.1
theorem dL_law_653 : decode code 653 = .ok (.aload_n 0, 1) := dLg_51.2.2.2.2.2.1
theorem dL_law_654 : decode code 654 = .ok (.iload_n 3, 1) := dLg_51.2.2.2.2.2.2.1
theorem dL_law_655 : decode code 655 = .ok (.iconst 1, 1) := dLg_51.2.2.2.2.2.2.2
theorem dLg_52 : decode code 656 = .ok (.iadd, 1) ∧ decode code 657 = .ok (.iaload, 1) ∧ decode code 658 = .ok (.aload_n 0, 1) ∧ decode code 659 = .ok (.iload_n 3, 1) ∧ decode code 660 = .ok (.iconst 2, 1) ∧ decode code 661 = .ok (.iadd, 1) ∧ decode code 662 = .ok (.iaload, 1) ∧ decode code 663 = .ok (.aload_n 0, 1) := by decide +kernel
theorem dL_law_656 : decode code 656 = .ok (.iadd, 1) := dLg_52.1
theorem dL_law_657 : decode code 657 = .ok (.iaload, 1) := dLg_52.2.1
theorem dL_law_658 : decode code 658 = .ok (.aload_n 0, 1) := dLg_52.2.2.1
theorem dL_law_659 : decode code 659 = .ok (.iload_n 3, 1) := dLg_52.2.2.2.1
theorem dL_law_660 : decode code 660 = .ok (.iconst 2, 1) := dLg_52.2.2.2.2.1
theorem dL_law_661 : decode code 661 = .ok (.iadd, 1) := dLg_52.2.2.2.2.2.1
theorem dL_law_662 : decode code 662 = .ok (.iaload, 1) := dLg_52.2.2.2.2.2.2.1
theorem dL_law_663 : decode code 663 = .ok (.aload_n 0, 1) := dLg_52.2.2.2.2.2.2.2
theorem dLg_53 : decode code 664 = .ok (.iload_n 3, 1) ∧ decode code 665 = .ok (.iconst 3, 1) ∧ decode code 666 = .ok (.iadd, 1) ∧ decode code 667 = .ok (.iaload, 1) ∧ decode code 668 = .ok (.aload_n 0, 1) ∧ decode code 669 = .ok (.iload_n 3, 1) ∧ decode code 670 = .ok (.iconst 4, 1) ∧ decode code 671 = .ok (.iadd, 1) := by decide +kernel
theorem dL_law_664 : decode code 664 = .ok (.iload_n 3, 1) := dLg_53.1
theorem dL_law_665 : decode code 665 = .ok (.iconst 3, 1) := dLg_53.2.1
theorem dL_law_666 : decode code 666 = .ok (.iadd, 1) := dLg_53.2.2.1
theorem dL_law_667 : decode code 667 = .ok (.iaload, 1) := dLg_53.2.2.2.1
theorem dL_law_668 : decode code 668 = .ok (.aload_n 0, 1) := dLg_53.2.2.2.2.1
theorem dL_law_669 : decode code 669 = .ok (.iload_n 3, 1) := dLg_53.2.2.2.2.2.1
theorem dL_law_670 : decode code 670 = .ok (.iconst 4, 1) := dLg_53.2.2.2.2.2.2.1
theorem dL_law_671 : decode code 671 = .ok (.iadd, 1) := dLg_53.2.2.2.2.2.2.2
theorem dLg_54 : decode code 672 = .ok (.iaload, 1) ∧ decode code 673 = .ok (.invokevirtual 68, 3) ∧ decode code 676 = .ok (.pop2, 1) ∧ decode code 677 = .ok (.aload_n 2, 1) ∧ decode code 678 = .ok (.aload_n 0, 1) ∧ decode code 679 = .ok (.iload_n 3, 1) ∧ decode code 680 = .ok (.iconst 1, 1) ∧ decode code 681 = .ok (.iadd, 1) := by decide +kernel
theorem dL_law_672 : decode code 672 = .ok (.iaload, 1) := dLg_54.1
theorem dL_law_673 : decode code 673 = .ok (.invokevirtual 68, 3) := dLg_54.2.1
theorem dL_law_676 : decode code 676 = .ok (.pop2, 1) := dLg_54.2.2.1
theorem dL_law_677 : decode code 677 = .ok (.aload_n 2, 1) := dLg_54.2.2.2.1
theorem dL_law_678 : decode code 678 = .ok (.aload_n 0, 1) := dLg_54.2.2.2.2.1
theorem dL_law_679 : decode code 679 = .ok (.iload_n 3, 1) := dLg_54.2.2.2.2.2.1
theorem dL_law_680 : decode code 680 = .ok (.iconst 1, 1) := dLg_54.2.2.2.2.2.2.1
theorem dL_law_681 : decode code 681 = .ok (.iadd, 1) := dLg_54.2.2.2.2.2.2.2
theorem dLg_55 : decode code 682 = .ok (.iaload, 1) ∧ decode code 683 = .ok (.aload_n 0, 1) ∧ decode code 684 = .ok (.iload_n 3, 1) ∧ decode code 685 = .ok (.iconst 2, 1) ∧ decode code 686 = .ok (.iadd, 1) ∧ decode code 687 = .ok (.iaload, 1) ∧ decode code 688 = .ok (.aload_n 0, 1) ∧ decode code 689 = .ok (.iload_n 3, 1) := by decide +kernel
theorem dL_law_682 : decode code 682 = .ok (.iaload, 1) := dLg_55.1
theorem dL_law_683 : decode code 683 = .ok (.aload_n 0, 1) := dLg_55.2.1
theorem dL_law_684 : decode code 684 = .ok (.iload_n 3, 1) := dLg_55.2.2.1
theorem dL_law_685 : decode code 685 = .ok (.iconst 2, 1) := dLg_55.2.2.2.1
theorem dL_law_686 : decode code 686 = .ok (.iadd, 1) := dLg_55.2.2.2.2.1
theorem dL_law_687 : decode code 687 = .ok (.iaload, 1) := dLg_55.2.2.2.2.2.1
theorem dL_law_688 : decode code 688 = .ok (.aload_n 0, 1) := dLg_55.2.2.2.2.2.2.1
theorem dL_law_689 : decode code 689 = .ok (.iload_n 3, 1) := dLg_55.2.2.2.2.2.2.2
theorem dLg_56 : decode code 690 = .ok (.iconst 3, 1) ∧ decode code 691 = .ok (.iadd, 1) ∧ decode code 692 = .ok (.iaload, 1) ∧ decode code 693 = .ok (.aload_n 0, 1) ∧ decode code 694 = .ok (.iload_n 3, 1) ∧ decode code 695 = .ok (.iconst 4, 1) ∧ decode code 696 = .ok (.iadd, 1) ∧ decode code 697 = .ok (.iaload, 1) := by decide +kernel
theorem dL_law_690 : decode code 690 = .ok (.iconst 3, 1) := dLg_56.1
theorem dL_law_691 : decode code 691 = .ok (.iadd, 1) := dLg_56.2.1
theorem dL_law_692 : decode code 692 = .ok (.iaload, 1) := dLg_56.2.2.1
theorem dL_law_693 : decode code 693 = .ok (.aload_n 0, 1) := dLg_56.2.2.2.1
theorem dL_law_694 : decode code 694 = .ok (.iload_n 3, 1) := dLg_56.2.2.2.2.1
theorem dL_law_695 : decode code 695 = .ok (.iconst 4, 1) := dLg_56.2.2.2.2.2.1
theorem dL_law_696 : decode code 696 = .ok (.iadd, 1) := dLg_56.2.2.2.2.2.2.1
theorem dL_law_697 : decode code 697 = .ok (.iaload, 1) := dLg_56.2.2.2.2.2.2.2
theorem dLg_57 : decode code 698 = .ok (.invokevirtual 71, 3) ∧ decode code 701 = .ok (.pop2, 1) ∧ decode code 702 = .ok (.goto 793, 3) ∧ decode code 705 = .ok (.aload_n 1, 1) ∧ decode code 706 = .ok (.aload_n 0, 1) ∧ decode code 707 = .ok (.iload_n 3, 1) ∧ decode code 708 = .ok (.iconst 1, 1) ∧ decode code 709 = .ok (.iadd, 1) := by decide +kernel
theorem dL_law_698 : decode code 698 = .ok (.invokevirtual 71, 3) := dLg_57.1
theorem dL_law_701 : decode code 701 = .ok (.pop2, 1) := dLg_57.2.1
theorem dL_law_702 : decode code 702 = .ok (.goto 793, 3) := dLg_57.2.2.1
theorem dL_law_705 : decode code 705 = .ok (.aload_n 1, 1) := dLg_57.2.2.2.1
theorem dL_law_706 : decode code 706 = .ok (.aload_n 0, 1) := dLg_57.2.2.2.2.1
theorem dL_law_707 : decode code 707 = .ok (.iload_n 3, 1) := dLg_57.2.2.2.2.2.1
theorem dL_law_708 : decode code 708 = .ok (.iconst 1, 1) := dLg_57.2.2.2.2.2.2.1
theorem dL_law_709 : decode code 709 = .ok (.iadd, 1) := dLg_57.2.2.2.2.2.2.2
theorem dLg_58 : decode code 710 = .ok (.iaload, 1) ∧ decode code 711 = .ok (.aload_n 0, 1) ∧ decode code 712 = .ok (.iload_n 3, 1) ∧ decode code 713 = .ok (.iconst 2, 1) ∧ decode code 714 = .ok (.iadd, 1) ∧ decode code 715 = .ok (.iaload, 1) ∧ decode code 716 = .ok (.aload_n 0, 1) ∧ decode code 717 = .ok (.iload_n 3, 1) := by decide +kernel
theorem dL_law_710 : decode code 710 = .ok (.iaload, 1) := dLg_58.1
theorem dL_law_711 : decode code 711 = .ok (.aload_n 0, 1) := dLg_58.2.1
theorem dL_law_712 : decode code 712 = .ok (.iload_n 3, 1) := dLg_58.2.2.1
theorem dL_law_713 : decode code 713 = .ok (.iconst 2, 1) := dLg_58.2.2.2.1
theorem dL_law_714 : decode code 714 = .ok (.iadd, 1) := dLg_58.2.2.2.2.1
theorem dL_law_715 : decode code 715 = .ok (.iaload, 1) := dLg_58.2.2.2.2.2.1
theorem dL_law_716 : decode code 716 = .ok (.aload_n 0, 1) := dLg_58.2.2.2.2.2.2.1
theorem dL_law_717 : decode code 717 = .ok (.iload_n 3, 1) := dLg_58.2.2.2.2.2.2.2
theorem dLg_59 : decode code 718 = .ok (.iconst 3, 1) ∧ decode code 719 = .ok (.iadd, 1) ∧ decode code 720 = .ok (.iaload, 1) ∧ decode code 721 = .ok (.aload_n 0, 1) ∧ decode code 722 = .ok (.iload_n 3, 1) ∧ decode code 723 = .ok (.iconst 4, 1) ∧ decode code 724 = .ok (.iadd, 1) ∧ decode code 725 = .ok (.iaload, 1) := by decide +kernel
theorem dL_law_718 : decode code 718 = .ok (.iconst 3, 1) := dLg_59.1
theorem dL_law_719 : decode code 719 = .ok (.iadd, 1) := dLg_59.2.1
theorem dL_law_720 : decode code 720 = .ok (.iaload, 1) := dLg_59.2.2.1
theorem dL_law_721 : decode code 721 = .ok (.aload_n 0, 1) := dLg_59.2.2.2.1
theorem dL_law_722 : decode code 722 = .ok (.iload_n 3, 1) := dLg_59.2.2.2.2.1
theorem dL_law_723 : decode code 723 = .ok (.iconst 4, 1) := dLg_59.2.2.2.2.2.1
theorem dL_law_724 : decode code 724 = .ok (.iadd, 1) := dLg_59.2.2.2.2.2.2.1
theorem dL_law_725 : decode code 725 = .ok (.iaload, 1) := dLg_59.2.2.2.2.2.2.2
theorem dLg_60 : decode code 726 = .ok (.invokevirtual 72, 3) ∧ decode code 729 = .ok (.pop2, 1) ∧ decode code 730 = .ok (.aload_n 2, 1) ∧ decode code 731 = .ok (.aload_n 0, 1) ∧ decode code 732 = .ok (.iload_n 3, 1) ∧ decode code 733 = .ok (.iconst 1, 1) ∧ decode code 734 = .ok (.iadd, 1) ∧ decode code 735 = .ok (.iaload, 1) := by decide +kernel
theorem dL_law_726 : decode code 726 = .ok (.invokevirtual 72, 3) := dLg_60.1
theorem dL_law_729 : decode code 729 = .ok (.pop2, 1) := dLg_60.2.1
theorem dL_law_730 : decode code 730 = .ok (.aload_n 2, 1) := dLg_60.2.2.1
theorem dL_law_731 : decode code 731 = .ok (.aload_n 0, 1) := dLg_60.2.2.2.1
theorem dL_law_732 : decode code 732 = .ok (.iload_n 3, 1) := dLg_60.2.2.2.2.1
theorem dL_law_733 : decode code 733 = .ok (.iconst 1, 1) := dLg_60.2.2.2.2.2.1
theorem dL_law_734 : decode code 734 = .ok (.iadd, 1) := dLg_60.2.2.2.2.2.2.1
theorem dL_law_735 : decode code 735 = .ok (.iaload, 1) := dLg_60.2.2.2.2.2.2.2
theorem dLg_61 : decode code 736 = .ok (.aload_n 0, 1) ∧ decode code 737 = .ok (.iload_n 3, 1) ∧ decode code 738 = .ok (.iconst 2, 1) ∧ decode code 739 = .ok (.iadd, 1) ∧ decode code 740 = .ok (.iaload, 1) ∧ decode code 741 = .ok (.aload_n 0, 1) ∧ decode code 742 = .ok (.iload_n 3, 1) ∧ decode code 743 = .ok (.iconst 3, 1) := by decide +kernel
theorem dL_law_736 : decode code 736 = .ok (.aload_n 0, 1) := dLg_61.1
theorem dL_law_737 : decode code 737 = .ok (.iload_n 3, 1) := dLg_61.2.1
theorem dL_law_738 : decode code 738 = .ok (.iconst 2, 1) := dLg_61.2.2.1
theorem dL_law_739 : decode code 739 = .ok (.iadd, 1) := dLg_61.2.2.2.1
theorem dL_law_740 : decode code 740 = .ok (.iaload, 1) := dLg_61.2.2.2.2.1
theorem dL_law_741 : decode code 741 = .ok (.aload_n 0, 1) := dLg_61.2.2.2.2.2.1
theorem dL_law_742 : decode code 742 = .ok (.iload_n 3, 1) := dLg_61.2.2.2.2.2.2.1
theorem dL_law_743 : decode code 743 = .ok (.iconst 3, 1) := dLg_61.2.2.2.2.2.2.2
theorem dLg_62 : decode code 744 = .ok (.iadd, 1) ∧ decode code 745 = .ok (.iaload, 1) ∧ decode code 746 = .ok (.aload_n 0, 1) ∧ decode code 747 = .ok (.iload_n 3, 1) ∧ decode code 748 = .ok (.iconst 4, 1) ∧ decode code 749 = .ok (.iadd, 1) ∧ decode code 750 = .ok (.iaload, 1) ∧ decode code 751 = .ok (.invokevirtual 75, 3) := by decide +kernel
theorem dL_law_744 : decode code 744 = .ok (.iadd, 1) := dLg_62.1
theorem dL_law_745 : decode code 745 = .ok (.iaload, 1) := dLg_62.2.1
theorem dL_law_746 : decode code 746 = .ok (.aload_n 0, 1) := dLg_62.2.2.1
theorem dL_law_747 : decode code 747 = .ok (.iload_n 3, 1) := dLg_62.2.2.2.1
theorem dL_law_748 : decode code 748 = .ok (.iconst 4, 1) := dLg_62.2.2.2.2.1
theorem dL_law_749 : decode code 749 = .ok (.iadd, 1) := dLg_62.2.2.2.2.2.1
theorem dL_law_750 : decode code 750 = .ok (.iaload, 1) := dLg_62.2.2.2.2.2.2.1
theorem dL_law_751 : decode code 751 = .ok (.invokevirtual 75, 3) := dLg_62.2.2.2.2.2.2.2
theorem dLg_63 : decode code 754 = .ok (.pop2, 1) ∧ decode code 755 = .ok (.goto 740, 3) ∧ decode code 758 = .ok (.aload_n 1, 1) ∧ decode code 759 = .ok (.aload_n 0, 1) ∧ decode code 760 = .ok (.iload_n 3, 1) ∧ decode code 761 = .ok (.iconst 1, 1) ∧ decode code 762 = .ok (.iadd, 1) ∧ decode code 763 = .ok (.iaload, 1) := by decide +kernel
theorem dL_law_754 : decode code 754 = .ok (.pop2, 1) := dLg_63.1
theorem dL_law_755 : decode code 755 = .ok (.goto 740, 3) := dLg_63.2.1
theorem dL_law_758 : decode code 758 = .ok (.aload_n 1, 1) := dLg_63.2.2.1
theorem dL_law_759 : decode code 759 = .ok (.aload_n 0, 1) := dLg_63.2.2.2.1
theorem dL_law_760 : decode code 760 = .ok (.iload_n 3, 1) := dLg_63.2.2.2.2.1
theorem dL_law_761 : decode code 761 = .ok (.iconst 1, 1) := dLg_63.2.2.2.2.2.1
theorem dL_law_762 : decode code 762 = .ok (.iadd, 1) := dLg_63.2.2.2.2.2.2.1
theorem dL_law_763 : decode code 763 = .ok (.iaload, 1) := dLg_63.2.2.2.2.2.2.2
theorem dLg_64 : decode code 764 = .ok (.aload_n 0, 1) ∧ decode code 765 = .ok (.iload_n 3, 1) ∧ decode code 766 = .ok (.iconst 2, 1) ∧ decode code 767 = .ok (.iadd, 1) ∧ decode code 768 = .ok (.iaload, 1) ∧ decode code 769 = .ok (.aload_n 0, 1) ∧ decode code 770 = .ok (.iload_n 3, 1) ∧ decode code 771 = .ok (.iconst 3, 1) := by decide +kernel
theorem dL_law_764 : decode code 764 = .ok (.aload_n 0, 1) := dLg_64.1
theorem dL_law_765 : decode code 765 = .ok (.iload_n 3, 1) := dLg_64.2.1
theorem dL_law_766 : decode code 766 = .ok (.iconst 2, 1) := dLg_64.2.2.1
theorem dL_law_767 : decode code 767 = .ok (.iadd, 1) := dLg_64.2.2.2.1
theorem dL_law_768 : decode code 768 = .ok (.iaload, 1) := dLg_64.2.2.2.2.1
theorem dL_law_769 : decode code 769 = .ok (.aload_n 0, 1) := dLg_64.2.2.2.2.2.1
theorem dL_law_770 : decode code 770 = .ok (.iload_n 3, 1) := dLg_64.2.2.2.2.2.2.1
theorem dL_law_771 : decode code 771 = .ok (.iconst 3, 1) := dLg_64.2.2.2.2.2.2.2
theorem dLg_65 : decode code 772 = .ok (.iadd, 1) ∧ decode code 773 = .ok (.iaload, 1) ∧ decode code 774 = .ok (.aload_n 0, 1) ∧ decode code 775 = .ok (.iload_n 3, 1) ∧ decode code 776 = .ok (.iconst 4, 1) ∧ decode code 777 = .ok (.iadd, 1) ∧ decode code 778 = .ok (.iaload, 1) ∧ decode code 779 = .ok (.invokevirtual 76, 3) := by decide +kernel
theorem dL_law_772 : decode code 772 = .ok (.iadd, 1) := dLg_65.1
theorem dL_law_773 : decode code 773 = .ok (.iaload, 1) := dLg_65.2.1
theorem dL_law_774 : decode code 774 = .ok (.aload_n 0, 1) := dLg_65.2.2.1
theorem dL_law_775 : decode code 775 = .ok (.iload_n 3, 1) := dLg_65.2.2.2.1
theorem dL_law_776 : decode code 776 = .ok (.iconst 4, 1) := dLg_65.2.2.2.2.1
theorem dL_law_777 : decode code 777 = .ok (.iadd, 1) := dLg_65.2.2.2.2.2.1
theorem dL_law_778 : decode code 778 = .ok (.iaload, 1) := dLg_65.2.2.2.2.2.2.1
theorem dL_law_779 : decode code 779 = .ok (.invokevirtual 76, 3) := dLg_65.2.2.2.2.2.2.2
theorem dLg_66 : decode code 782 = .ok (.pop, 1) ∧ decode code 783 = .ok (.aload_n 2, 1) ∧ decode code 784 = .ok (.aload_n 0, 1) ∧ decode code 785 = .ok (.iload_n 3, 1) ∧ decode code 786 = .ok (.iconst 1, 1) ∧ decode code 787 = .ok (.iadd, 1) ∧ decode code 788 = .ok (.iaload, 1) ∧ decode code 789 = .ok (.aload_n 0, 1) := by decide +kernel
theorem dL_law_782 : decode code 782 = .ok (.pop, 1) := dLg_66.1
theorem dL_law_783 : decode code 783 = .ok (.aload_n 2, 1) := dLg_66.2.1
theorem dL_law_784 : decode code 784 = .ok (.aload_n 0, 1) := dLg_66.2.2.1
theorem dL_law_785 : decode code 785 = .ok (.iload_n 3, 1) := dLg_66.2.2.2.1
theorem dL_law_786 : decode code 786 = .ok (.iconst 1, 1) := dLg_66.2.2.2.2.1
theorem dL_law_787 : decode code 787 = .ok (.iadd, 1) := dLg_66.2.2.2.2.2.1
theorem dL_law_788 : decode code 788 = .ok (.iaload, 1) := dLg_66.2.2.2.2.2.2.1
theorem dL_law_789 : decode code 789 = .ok (.aload_n 0, 1) := dLg_66.2.2.2.2.2.2.2
theorem dLg_67 : decode code 790 = .ok (.iload_n 3, 1) ∧ decode code 791 = .ok (.iconst 2, 1) ∧ decode code 792 = .ok (.iadd, 1) ∧ decode code 793 = .ok (.iaload, 1) ∧ decode code 794 = .ok (.aload_n 0, 1) ∧ decode code 795 = .ok (.iload_n 3, 1) ∧ decode code 796 = .ok (.iconst 3, 1) ∧ decode code 797 = .ok (.iadd, 1) := by decide +kernel
theorem dL_law_790 : decode code 790 = .ok (.iload_n 3, 1) := dLg_67.1
theorem dL_law_791 : decode code 791 = .ok (.iconst 2, 1) := dLg_67.2.1
theorem dL_law_792 : decode code 792 = .ok (.iadd, 1) := dLg_67.2.2.1
theorem dL_law_793 : decode code 793 = .ok (.iaload, 1) := dLg_67.2.2.2.1
theorem dL_law_794 : decode code 794 = .ok (.aload_n 0, 1) := dLg_67.2.2.2.2.1
theorem dL_law_795 : decode code 795 = .ok (.iload_n 3, 1) := dLg_67.2.2.2.2.2.1
theorem dL_law_796 : decode code 796 = .ok (.iconst 3, 1) := dLg_67.2.2.2.2.2.2.1
theorem dL_law_797 : decode code 797 = .ok (.iadd, 1) := dLg_67.2.2.2.2.2.2.2
theorem dLg_68 : decode code 798 = .ok (.iaload, 1) ∧ decode code 799 = .ok (.aload_n 0, 1) ∧ decode code 800 = .ok (.iload_n 3, 1) ∧ decode code 801 = .ok (.iconst 4, 1) ∧ decode code 802 = .ok (.iadd, 1) ∧ decode code 803 = .ok (.iaload, 1) ∧ decode code 804 = .ok (.invokevirtual 80, 3) ∧ decode code 807 = .ok (.pop, 1) := by decide +kernel
theorem dL_law_798 : decode code 798 = .ok (.iaload, 1) := dLg_68.1
theorem dL_law_799 : decode code 799 = .ok (.aload_n 0, 1) := dLg_68.2.1
theorem dL_law_800 : decode code 800 = .ok (.iload_n 3, 1) := dLg_68.2.2.1
theorem dL_law_801 : decode code 801 = .ok (.iconst 4, 1) := dLg_68.2.2.2.1
theorem dL_law_802 : decode code 802 = .ok (.iadd, 1) := dLg_68.2.2.2.2.1
theorem dL_law_803 : decode code 803 = .ok (.iaload, 1) := dLg_68.2.2.2.2.2.1
theorem dL_law_804 : decode code 804 = .ok (.invokevirtual 80, 3) := dLg_68.2.2.2.2.2.2.1
theorem dL_law_807 : decode code 807 = .ok (.pop, 1) := dLg_68.2.2.2.2.2.2.2
theorem dLg_69 : decode code 808 = .ok (.goto 687, 3) ∧ decode code 811 = .ok (.aload_n 1, 1) ∧ decode code 812 = .ok (.aload_n 0, 1) ∧ decode code 813 = .ok (.iload_n 3, 1) ∧ decode code 814 = .ok (.iconst 1, 1) ∧ decode code 815 = .ok (.iadd, 1) ∧ decode code 816 = .ok (.iaload, 1) ∧ decode code 817 = .ok (.aload_n 0, 1) := by decide +kernel
theorem dL_law_808 : decode code 808 = .ok (.goto 687, 3) := dLg_69.1
theorem dL_law_811 : decode code 811 = .ok (.aload_n 1, 1) := dLg_69.2.1
theorem dL_law_812 : decode code 812 = .ok (.aload_n 0, 1) := dLg_69.2.2.1
theorem dL_law_813 : decode code 813 = .ok (.iload_n 3, 1) := dLg_69.2.2.2.1
theorem dL_law_814 : decode code 814 = .ok (.iconst 1, 1) := dLg_69.2.2.2.2.1
theorem dL_law_815 : decode code 815 = .ok (.iadd, 1) := dLg_69.2.2.2.2.2.1
theorem dL_law_816 : decode code 816 = .ok (.iaload, 1) := dLg_69.2.2.2.2.2.2.1
theorem dL_law_817 : decode code 817 = .ok (.aload_n 0, 1) := dLg_69.2.2.2.2.2.2.2
theorem dLg_70 : decode code 818 = .ok (.iload_n 3, 1) ∧ decode code 819 = .ok (.iconst 2, 1) ∧ decode code 820 = .ok (.iadd, 1) ∧ decode code 821 = .ok (.iaload, 1) ∧ decode code 822 = .ok (.aload_n 0, 1) ∧ decode code 823 = .ok (.iload_n 3, 1) ∧ decode code 824 = .ok (.iconst 3, 1) ∧ decode code 825 = .ok (.iadd, 1) := by decide +kernel
theorem dL_law_818 : decode code 818 = .ok (.iload_n 3, 1) := dLg_70.1
theorem dL_law_819 : decode code 819 = .ok (.iconst 2, 1) := dLg_70.2.1
theorem dL_law_820 : decode code 820 = .ok (.iadd, 1) := dLg_70.2.2.1
theorem dL_law_821 : decode code 821 = .ok (.iaload, 1) := dLg_70.2.2.2.1
theorem dL_law_822 : decode code 822 = .ok (.aload_n 0, 1) := dLg_70.2.2.2.2.1
theorem dL_law_823 : decode code 823 = .ok (.iload_n 3, 1) := dLg_70.2.2.2.2.2.1
theorem dL_law_824 : decode code 824 = .ok (.iconst 3, 1) := dLg_70.2.2.2.2.2.2.1
theorem dL_law_825 : decode code 825 = .ok (.iadd, 1) := dLg_70.2.2.2.2.2.2.2
theorem dLg_71 : decode code 826 = .ok (.iaload, 1) ∧ decode code 827 = .ok (.aload_n 0, 1) ∧ decode code 828 = .ok (.iload_n 3, 1) ∧ decode code 829 = .ok (.iconst 4, 1) ∧ decode code 830 = .ok (.iadd, 1) ∧ decode code 831 = .ok (.iaload, 1) ∧ decode code 832 = .ok (.invokevirtual 81, 3) ∧ decode code 835 = .ok (.pop2, 1) := by decide +kernel
theorem dL_law_826 : decode code 826 = .ok (.iaload, 1) := dLg_71.1
theorem dL_law_827 : decode code 827 = .ok (.aload_n 0, 1) := dLg_71.2.1
theorem dL_law_828 : decode code 828 = .ok (.iload_n 3, 1) := dLg_71.2.2.1
theorem dL_law_829 : decode code 829 = .ok (.iconst 4, 1) := dLg_71.2.2.2.1
theorem dL_law_830 : decode code 830 = .ok (.iadd, 1) := dLg_71.2.2.2.2.1
theorem dL_law_831 : decode code 831 = .ok (.iaload, 1) := dLg_71.2.2.2.2.2.1
theorem dL_law_832 : decode code 832 = .ok (.invokevirtual 81, 3) := dLg_71.2.2.2.2.2.2.1
theorem dL_law_835 : decode code 835 = .ok (.pop2, 1) := dLg_71.2.2.2.2.2.2.2
theorem dLg_72 : decode code 836 = .ok (.aload_n 2, 1) ∧ decode code 837 = .ok (.aload_n 0, 1) ∧ decode code 838 = .ok (.iload_n 3, 1) ∧ decode code 839 = .ok (.iconst 1, 1) ∧ decode code 840 = .ok (.iadd, 1) ∧ decode code 841 = .ok (.iaload, 1) ∧ decode code 842 = .ok (.aload_n 0, 1) ∧ decode code 843 = .ok (.iload_n 3, 1) := by decide +kernel
theorem dL_law_836 : decode code 836 = .ok (.aload_n 2, 1) := dLg_72.1
theorem dL_law_837 : decode code 837 = .ok (.aload_n 0, 1) := dLg_72.2.1
theorem dL_law_838 : decode code 838 = .ok (.iload_n 3, 1) := dLg_72.2.2.1
theorem dL_law_839 : decode code 839 = .ok (.iconst 1, 1) := dLg_72.2.2.2.1
theorem dL_law_840 : decode code 840 = .ok (.iadd, 1) := dLg_72.2.2.2.2.1
theorem dL_law_841 : decode code 841 = .ok (.iaload, 1) := dLg_72.2.2.2.2.2.1
theorem dL_law_842 : decode code 842 = .ok (.aload_n 0, 1) := dLg_72.2.2.2.2.2.2.1
theorem dL_law_843 : decode code 843 = .ok (.iload_n 3, 1) := dLg_72.2.2.2.2.2.2.2
theorem dLg_73 : decode code 844 = .ok (.iconst 2, 1) ∧ decode code 845 = .ok (.iadd, 1) ∧ decode code 846 = .ok (.iaload, 1) ∧ decode code 847 = .ok (.aload_n 0, 1) ∧ decode code 848 = .ok (.iload_n 3, 1) ∧ decode code 849 = .ok (.iconst 3, 1) ∧ decode code 850 = .ok (.iadd, 1) ∧ decode code 851 = .ok (.iaload, 1) := by decide +kernel
theorem dL_law_844 : decode code 844 = .ok (.iconst 2, 1) := dLg_73.1
theorem dL_law_845 : decode code 845 = .ok (.iadd, 1) := dLg_73.2.1
theorem dL_law_846 : decode code 846 = .ok (.iaload, 1) := dLg_73.2.2.1
theorem dL_law_847 : decode code 847 = .ok (.aload_n 0, 1) := dLg_73.2.2.2.1
theorem dL_law_848 : decode code 848 = .ok (.iload_n 3, 1) := dLg_73.2.2.2.2.1
theorem dL_law_849 : decode code 849 = .ok (.iconst 3, 1) := dLg_73.2.2.2.2.2.1
theorem dL_law_850 : decode code 850 = .ok (.iadd, 1) := dLg_73.2.2.2.2.2.2.1
theorem dL_law_851 : decode code 851 = .ok (.iaload, 1) := dLg_73.2.2.2.2.2.2.2
theorem dLg_74 : decode code 852 = .ok (.aload_n 0, 1) ∧ decode code 853 = .ok (.iload_n 3, 1) ∧ decode code 854 = .ok (.iconst 4, 1) ∧ decode code 855 = .ok (.iadd, 1) ∧ decode code 856 = .ok (.iaload, 1) ∧ decode code 857 = .ok (.invokevirtual 84, 3) ∧ decode code 860 = .ok (.pop2, 1) ∧ decode code 861 = .ok (.goto 634, 3) := by decide +kernel
theorem dL_law_852 : decode code 852 = .ok (.aload_n 0, 1) := dLg_74.1
theorem dL_law_853 : decode code 853 = .ok (.iload_n 3, 1) := dLg_74.2.1
theorem dL_law_854 : decode code 854 = .ok (.iconst 4, 1) := dLg_74.2.2.1
theorem dL_law_855 : decode code 855 = .ok (.iadd, 1) := dLg_74.2.2.2.1
theorem dL_law_856 : decode code 856 = .ok (.iaload, 1) := dLg_74.2.2.2.2.1
theorem dL_law_857 : decode code 857 = .ok (.invokevirtual 84, 3) := dLg_74.2.2.2.2.2.1
theorem dL_law_860 : decode code 860 = .ok (.pop2, 1) := dLg_74.2.2.2.2.2.2.1
theorem dL_law_861 : decode code 861 = .ok (.goto 634, 3) := dLg_74.2.2.2.2.2.2.2
theorem dLg_75 : decode code 864 = .ok (.aload_n 1, 1) ∧ decode code 865 = .ok (.aload_n 0, 1) ∧ decode code 866 = .ok (.iload_n 3, 1) ∧ decode code 867 = .ok (.iconst 1, 1) ∧ decode code 868 = .ok (.iadd, 1) ∧ decode code 869 = .ok (.iaload, 1) ∧ decode code 870 = .ok (.aload_n 0, 1) ∧ decode code 871 = .ok (.iload_n 3, 1) := by decide +kernel
theorem dL_law_864 : decode code 864 = .ok (.aload_n 1, 1) := dLg_75.1
theorem dL_law_865 : decode code 865 = .ok (.aload_n 0, 1) := dLg_75.2.1
theorem dL_law_866 : decode code 866 = .ok (.iload_n 3, 1) := dLg_75.2.2.1
theorem dL_law_867 : decode code 867 = .ok (.iconst 1, 1) := dLg_75.2.2.2.1
theorem dL_law_868 : decode code 868 = .ok (.iadd, 1) := dLg_75.2.2.2.2.1
theorem dL_law_869 : decode code 869 = .ok (.iaload, 1) := dLg_75.2.2.2.2.2.1
theorem dL_law_870 : decode code 870 = .ok (.aload_n 0, 1) := dLg_75.2.2.2.2.2.2.1
theorem dL_law_871 : decode code 871 = .ok (.iload_n 3, 1) := dLg_75.2.2.2.2.2.2.2
theorem dLg_76 : decode code 872 = .ok (.iconst 2, 1) ∧ decode code 873 = .ok (.iadd, 1) ∧ decode code 874 = .ok (.iaload, 1) ∧ decode code 875 = .ok (.aload_n 0, 1) ∧ decode code 876 = .ok (.iload_n 3, 1) ∧ decode code 877 = .ok (.iconst 3, 1) ∧ decode code 878 = .ok (.iadd, 1) ∧ decode code 879 = .ok (.iaload, 1) := by decide +kernel
theorem dL_law_872 : decode code 872 = .ok (.iconst 2, 1) := dLg_76.1
theorem dL_law_873 : decode code 873 = .ok (.iadd, 1) := dLg_76.2.1
theorem dL_law_874 : decode code 874 = .ok (.iaload, 1) := dLg_76.2.2.1
theorem dL_law_875 : decode code 875 = .ok (.aload_n 0, 1) := dLg_76.2.2.2.1
theorem dL_law_876 : decode code 876 = .ok (.iload_n 3, 1) := dLg_76.2.2.2.2.1
theorem dL_law_877 : decode code 877 = .ok (.iconst 3, 1) := dLg_76.2.2.2.2.2.1
theorem dL_law_878 : decode code 878 = .ok (.iadd, 1) := dLg_76.2.2.2.2.2.2.1
theorem dL_law_879 : decode code 879 = .ok (.iaload, 1) := dLg_76.2.2.2.2.2.2.2
theorem dLg_77 : decode code 880 = .ok (.aload_n 0, 1) ∧ decode code 881 = .ok (.iload_n 3, 1) ∧ decode code 882 = .ok (.iconst 4, 1) ∧ decode code 883 = .ok (.iadd, 1) ∧ decode code 884 = .ok (.iaload, 1) ∧ decode code 885 = .ok (.aload_n 0, 1) ∧ decode code 886 = .ok (.iload_n 3, 1) ∧ decode code 887 = .ok (.iconst 5, 1) := by decide +kernel
theorem dL_law_880 : decode code 880 = .ok (.aload_n 0, 1) := dLg_77.1
theorem dL_law_881 : decode code 881 = .ok (.iload_n 3, 1) := dLg_77.2.1
theorem dL_law_882 : decode code 882 = .ok (.iconst 4, 1) := dLg_77.2.2.1
theorem dL_law_883 : decode code 883 = .ok (.iadd, 1) := dLg_77.2.2.2.1
theorem dL_law_884 : decode code 884 = .ok (.iaload, 1) := dLg_77.2.2.2.2.1
theorem dL_law_885 : decode code 885 = .ok (.aload_n 0, 1) := dLg_77.2.2.2.2.2.1
theorem dL_law_886 : decode code 886 = .ok (.iload_n 3, 1) := dLg_77.2.2.2.2.2.2.1
theorem dL_law_887 : decode code 887 = .ok (.iconst 5, 1) := dLg_77.2.2.2.2.2.2.2
theorem dLg_78 : decode code 888 = .ok (.iadd, 1) ∧ decode code 889 = .ok (.iaload, 1) ∧ decode code 890 = .ok (.invokevirtual 85, 3) ∧ decode code 893 = .ok (.pop2, 1) ∧ decode code 894 = .ok (.aload_n 2, 1) ∧ decode code 895 = .ok (.aload_n 0, 1) ∧ decode code 896 = .ok (.iload_n 3, 1) ∧ decode code 897 = .ok (.iconst 1, 1) := by decide +kernel
theorem dL_law_888 : decode code 888 = .ok (.iadd, 1) := dLg_78.1
theorem dL_law_889 : decode code 889 = .ok (.iaload, 1) := dLg_78.2.1
theorem dL_law_890 : decode code 890 = .ok (.invokevirtual 85, 3) := dLg_78.2.2.1
theorem dL_law_893 : decode code 893 = .ok (.pop2, 1) := dLg_78.2.2.2.1
theorem dL_law_894 : decode code 894 = .ok (.aload_n 2, 1) := dLg_78.2.2.2.2.1
theorem dL_law_895 : decode code 895 = .ok (.aload_n 0, 1) := dLg_78.2.2.2.2.2.1
theorem dL_law_896 : decode code 896 = .ok (.iload_n 3, 1) := dLg_78.2.2.2.2.2.2.1
theorem dL_law_897 : decode code 897 = .ok (.iconst 1, 1) := dLg_78.2.2.2.2.2.2.2
theorem dLg_79 : decode code 898 = .ok (.iadd, 1) ∧ decode code 899 = .ok (.iaload, 1) ∧ decode code 900 = .ok (.aload_n 0, 1) ∧ decode code 901 = .ok (.iload_n 3, 1) ∧ decode code 902 = .ok (.iconst 2, 1) ∧ decode code 903 = .ok (.iadd, 1) ∧ decode code 904 = .ok (.iaload, 1) ∧ decode code 905 = .ok (.aload_n 0, 1) := by decide +kernel
theorem dL_law_898 : decode code 898 = .ok (.iadd, 1) := dLg_79.1
theorem dL_law_899 : decode code 899 = .ok (.iaload, 1) := dLg_79.2.1
theorem dL_law_900 : decode code 900 = .ok (.aload_n 0, 1) := dLg_79.2.2.1
theorem dL_law_901 : decode code 901 = .ok (.iload_n 3, 1) := dLg_79.2.2.2.1
theorem dL_law_902 : decode code 902 = .ok (.iconst 2, 1) := dLg_79.2.2.2.2.1
theorem dL_law_903 : decode code 903 = .ok (.iadd, 1) := dLg_79.2.2.2.2.2.1
theorem dL_law_904 : decode code 904 = .ok (.iaload, 1) := dLg_79.2.2.2.2.2.2.1
theorem dL_law_905 : decode code 905 = .ok (.aload_n 0, 1) := dLg_79.2.2.2.2.2.2.2
theorem dLg_80 : decode code 906 = .ok (.iload_n 3, 1) ∧ decode code 907 = .ok (.iconst 3, 1) ∧ decode code 908 = .ok (.iadd, 1) ∧ decode code 909 = .ok (.iaload, 1) ∧ decode code 910 = .ok (.aload_n 0, 1) ∧ decode code 911 = .ok (.iload_n 3, 1) ∧ decode code 912 = .ok (.iconst 4, 1) ∧ decode code 913 = .ok (.iadd, 1) := by decide +kernel
theorem dL_law_906 : decode code 906 = .ok (.iload_n 3, 1) := dLg_80.1
theorem dL_law_907 : decode code 907 = .ok (.iconst 3, 1) := dLg_80.2.1
theorem dL_law_908 : decode code 908 = .ok (.iadd, 1) := dLg_80.2.2.1
theorem dL_law_909 : decode code 909 = .ok (.iaload, 1) := dLg_80.2.2.2.1
theorem dL_law_910 : decode code 910 = .ok (.aload_n 0, 1) := dLg_80.2.2.2.2.1
theorem dL_law_911 : decode code 911 = .ok (.iload_n 3, 1) := dLg_80.2.2.2.2.2.1
theorem dL_law_912 : decode code 912 = .ok (.iconst 4, 1) := dLg_80.2.2.2.2.2.2.1
theorem dL_law_913 : decode code 913 = .ok (.iadd, 1) := dLg_80.2.2.2.2.2.2.2
theorem dLg_81 : decode code 914 = .ok (.iaload, 1) ∧ decode code 915 = .ok (.aload_n 0, 1) ∧ decode code 916 = .ok (.iload_n 3, 1) ∧ decode code 917 = .ok (.iconst 5, 1) ∧ decode code 918 = .ok (.iadd, 1) ∧ decode code 919 = .ok (.iaload, 1) ∧ decode code 920 = .ok (.invokevirtual 89, 3) ∧ decode code 923 = .ok (.pop2, 1) := by decide +kernel
theorem dL_law_914 : decode code 914 = .ok (.iaload, 1) := dLg_81.1
theorem dL_law_915 : decode code 915 = .ok (.aload_n 0, 1) := dLg_81.2.1
theorem dL_law_916 : decode code 916 = .ok (.iload_n 3, 1) := dLg_81.2.2.1
theorem dL_law_917 : decode code 917 = .ok (.iconst 5, 1) := dLg_81.2.2.2.1
theorem dL_law_918 : decode code 918 = .ok (.iadd, 1) := dLg_81.2.2.2.2.1
theorem dL_law_919 : decode code 919 = .ok (.iaload, 1) := dLg_81.2.2.2.2.2.1
theorem dL_law_920 : decode code 920 = .ok (.invokevirtual 89, 3) := dLg_81.2.2.2.2.2.2.1
theorem dL_law_923 : decode code 923 = .ok (.pop2, 1) := dLg_81.2.2.2.2.2.2.2
theorem dLg_82 : decode code 924 = .ok (.goto 571, 3) ∧ decode code 927 = .ok (.aload_n 1, 1) ∧ decode code 928 = .ok (.aload_n 0, 1) ∧ decode code 929 = .ok (.iload_n 3, 1) ∧ decode code 930 = .ok (.iconst 1, 1) ∧ decode code 931 = .ok (.iadd, 1) ∧ decode code 932 = .ok (.iaload, 1) ∧ decode code 933 = .ok (.aload_n 0, 1) := by decide +kernel
theorem dL_law_924 : decode code 924 = .ok (.goto 571, 3) := dLg_82.1
theorem dL_law_927 : decode code 927 = .ok (.aload_n 1, 1) := dLg_82.2.1
theorem dL_law_928 : decode code 928 = .ok (.aload_n 0, 1) := dLg_82.2.2.1
theorem dL_law_929 : decode code 929 = .ok (.iload_n 3, 1) := dLg_82.2.2.2.1
theorem dL_law_930 : decode code 930 = .ok (.iconst 1, 1) := dLg_82.2.2.2.2.1
theorem dL_law_931 : decode code 931 = .ok (.iadd, 1) := dLg_82.2.2.2.2.2.1
theorem dL_law_932 : decode code 932 = .ok (.iaload, 1) := dLg_82.2.2.2.2.2.2.1
theorem dL_law_933 : decode code 933 = .ok (.aload_n 0, 1) := dLg_82.2.2.2.2.2.2.2
theorem dLg_83 : decode code 934 = .ok (.iload_n 3, 1) ∧ decode code 935 = .ok (.iconst 2, 1) ∧ decode code 936 = .ok (.iadd, 1) ∧ decode code 937 = .ok (.iaload, 1) ∧ decode code 938 = .ok (.invokevirtual 90, 3) ∧ decode code 941 = .ok (.pop, 1) ∧ decode code 942 = .ok (.aload_n 2, 1) ∧ decode code 943 = .ok (.aload_n 0, 1) := by decide +kernel
theorem dL_law_934 : decode code 934 = .ok (.iload_n 3, 1) := dLg_83.1
theorem dL_law_935 : decode code 935 = .ok (.iconst 2, 1) := dLg_83.2.1
theorem dL_law_936 : decode code 936 = .ok (.iadd, 1) := dLg_83.2.2.1
theorem dL_law_937 : decode code 937 = .ok (.iaload, 1) := dLg_83.2.2.2.1
theorem dL_law_938 : decode code 938 = .ok (.invokevirtual 90, 3) := dLg_83.2.2.2.2.1
theorem dL_law_941 : decode code 941 = .ok (.pop, 1) := dLg_83.2.2.2.2.2.1
theorem dL_law_942 : decode code 942 = .ok (.aload_n 2, 1) := dLg_83.2.2.2.2.2.2.1
theorem dL_law_943 : decode code 943 = .ok (.aload_n 0, 1) := dLg_83.2.2.2.2.2.2.2
theorem dLg_84 : decode code 944 = .ok (.iload_n 3, 1) ∧ decode code 945 = .ok (.iconst 1, 1) ∧ decode code 946 = .ok (.iadd, 1) ∧ decode code 947 = .ok (.iaload, 1) ∧ decode code 948 = .ok (.aload_n 0, 1) ∧ decode code 949 = .ok (.iload_n 3, 1) ∧ decode code 950 = .ok (.iconst 2, 1) ∧ decode code 951 = .ok (.iadd, 1) := by decide +kernel
theorem dL_law_944 : decode code 944 = .ok (.iload_n 3, 1) := dLg_84.1
theorem dL_law_945 : decode code 945 = .ok (.iconst 1, 1) := dLg_84.2.1
theorem dL_law_946 : decode code 946 = .ok (.iadd, 1) := dLg_84.2.2.1
theorem dL_law_947 : decode code 947 = .ok (.iaload, 1) := dLg_84.2.2.2.1
theorem dL_law_948 : decode code 948 = .ok (.aload_n 0, 1) := dLg_84.2.2.2.2.1
theorem dL_law_949 : decode code 949 = .ok (.iload_n 3, 1) := dLg_84.2.2.2.2.2.1
theorem dL_law_950 : decode code 950 = .ok (.iconst 2, 1) := dLg_84.2.2.2.2.2.2.1
theorem dL_law_951 : decode code 951 = .ok (.iadd, 1) := dLg_84.2.2.2.2.2.2.2
theorem dLg_85 : decode code 952 = .ok (.iaload, 1) ∧ decode code 953 = .ok (.invokevirtual 93, 3) ∧ decode code 956 = .ok (.pop, 1) ∧ decode code 957 = .ok (.goto 538, 3) ∧ decode code 960 = .ok (.aload_n 1, 1) ∧ decode code 961 = .ok (.aload_n 0, 1) ∧ decode code 962 = .ok (.iload_n 3, 1) ∧ decode code 963 = .ok (.iconst 1, 1) := by decide +kernel
theorem dL_law_952 : decode code 952 = .ok (.iaload, 1) := dLg_85.1
theorem dL_law_953 : decode code 953 = .ok (.invokevirtual 93, 3) := dLg_85.2.1
theorem dL_law_956 : decode code 956 = .ok (.pop, 1) := dLg_85.2.2.1
theorem dL_law_957 : decode code 957 = .ok (.goto 538, 3) := dLg_85.2.2.2.1
theorem dL_law_960 : decode code 960 = .ok (.aload_n 1, 1) := dLg_85.2.2.2.2.1
theorem dL_law_961 : decode code 961 = .ok (.aload_n 0, 1) := dLg_85.2.2.2.2.2.1
theorem dL_law_962 : decode code 962 = .ok (.iload_n 3, 1) := dLg_85.2.2.2.2.2.2.1
theorem dL_law_963 : decode code 963 = .ok (.iconst 1, 1) := dLg_85.2.2.2.2.2.2.2
theorem dLg_86 : decode code 964 = .ok (.iadd, 1) ∧ decode code 965 = .ok (.iaload, 1) ∧ decode code 966 = .ok (.aload_n 0, 1) ∧ decode code 967 = .ok (.iload_n 3, 1) ∧ decode code 968 = .ok (.iconst 2, 1) ∧ decode code 969 = .ok (.iadd, 1) ∧ decode code 970 = .ok (.iaload, 1) ∧ decode code 971 = .ok (.invokevirtual 94, 3) := by decide +kernel
theorem dL_law_964 : decode code 964 = .ok (.iadd, 1) := dLg_86.1
theorem dL_law_965 : decode code 965 = .ok (.iaload, 1) := dLg_86.2.1
theorem dL_law_966 : decode code 966 = .ok (.aload_n 0, 1) := dLg_86.2.2.1
theorem dL_law_967 : decode code 967 = .ok (.iload_n 3, 1) := dLg_86.2.2.2.1
theorem dL_law_968 : decode code 968 = .ok (.iconst 2, 1) := dLg_86.2.2.2.2.1
theorem dL_law_969 : decode code 969 = .ok (.iadd, 1) := dLg_86.2.2.2.2.2.1
theorem dL_law_970 : decode code 970 = .ok (.iaload, 1) := dLg_86.2.2.2.2.2.2.1
theorem dL_law_971 : decode code 971 = .ok (.invokevirtual 94, 3) := dLg_86.2.2.2.2.2.2.2
theorem dLg_87 : decode code 974 = .ok (.pop, 1) ∧ decode code 975 = .ok (.aload_n 2, 1) ∧ decode code 976 = .ok (.aload_n 0, 1) ∧ decode code 977 = .ok (.iload_n 3, 1) ∧ decode code 978 = .ok (.iconst 1, 1) ∧ decode code 979 = .ok (.iadd, 1) ∧ decode code 980 = .ok (.iaload, 1) ∧ decode code 981 = .ok (.aload_n 0, 1) := by decide +kernel
theorem dL_law_974 : decode code 974 = .ok (.pop, 1) := dLg_87.1
theorem dL_law_975 : decode code 975 = .ok (.aload_n 2, 1) := dLg_87.2.1
theorem dL_law_976 : decode code 976 = .ok (.aload_n 0, 1) := dLg_87.2.2.1
theorem dL_law_977 : decode code 977 = .ok (.iload_n 3, 1) := dLg_87.2.2.2.1
theorem dL_law_978 : decode code 978 = .ok (.iconst 1, 1) := dLg_87.2.2.2.2.1
theorem dL_law_979 : decode code 979 = .ok (.iadd, 1) := dLg_87.2.2.2.2.2.1
theorem dL_law_980 : decode code 980 = .ok (.iaload, 1) := dLg_87.2.2.2.2.2.2.1
theorem dL_law_981 : decode code 981 = .ok (.aload_n 0, 1) := dLg_87.2.2.2.2.2.2.2
theorem dLg_88 : decode code 982 = .ok (.iload_n 3, 1) ∧ decode code 983 = .ok (.iconst 2, 1) ∧ decode code 984 = .ok (.iadd, 1) ∧ decode code 985 = .ok (.iaload, 1) ∧ decode code 986 = .ok (.invokevirtual 97, 3) ∧ decode code 989 = .ok (.pop, 1) ∧ decode code 990 = .ok (.goto 505, 3) ∧ decode code 993 = .ok (.aload_n 1, 1) := by decide +kernel
theorem dL_law_982 : decode code 982 = .ok (.iload_n 3, 1) := dLg_88.1
theorem dL_law_983 : decode code 983 = .ok (.iconst 2, 1) := dLg_88.2.1
theorem dL_law_984 : decode code 984 = .ok (.iadd, 1) := dLg_88.2.2.1
theorem dL_law_985 : decode code 985 = .ok (.iaload, 1) := dLg_88.2.2.2.1
theorem dL_law_986 : decode code 986 = .ok (.invokevirtual 97, 3) := dLg_88.2.2.2.2.1
theorem dL_law_989 : decode code 989 = .ok (.pop, 1) := dLg_88.2.2.2.2.2.1
theorem dL_law_990 : decode code 990 = .ok (.goto 505, 3) := dLg_88.2.2.2.2.2.2.1
theorem dL_law_993 : decode code 993 = .ok (.aload_n 1, 1) := dLg_88.2.2.2.2.2.2.2
theorem dLg_89 : decode code 994 = .ok (.aload_n 0, 1) ∧ decode code 995 = .ok (.iload_n 3, 1) ∧ decode code 996 = .ok (.iconst 1, 1) ∧ decode code 997 = .ok (.iadd, 1) ∧ decode code 998 = .ok (.iaload, 1) ∧ decode code 999 = .ok (.aload_n 0, 1) ∧ decode code 1000 = .ok (.iload_n 3, 1) ∧ decode code 1001 = .ok (.iconst 2, 1) := by decide +kernel
theorem dL_law_994 : decode code 994 = .ok (.aload_n 0, 1) := dLg_89.1
theorem dL_law_995 : decode code 995 = .ok (.iload_n 3, 1) := dLg_89.2.1
theorem dL_law_996 : decode code 996 = .ok (.iconst 1, 1) := dLg_89.2.2.1
theorem dL_law_997 : decode code 997 = .ok (.iadd, 1) := dLg_89.2.2.2.1
theorem dL_law_998 : decode code 998 = .ok (.iaload, 1) := dLg_89.2.2.2.2.1
theorem dL_law_999 : decode code 999 = .ok (.aload_n 0, 1) := dLg_89.2.2.2.2.2.1
theorem dL_law_1000 : decode code 1000 = .ok (.iload_n 3, 1) := dLg_89.2.2.2.2.2.2.1
theorem dL_law_1001 : decode code 1001 = .ok (.iconst 2, 1) := dLg_89.2.2.2.2.2.2.2
theorem dLg_90 : decode code 1002 = .ok (.iadd, 1) ∧ decode code 1003 = .ok (.iaload, 1) ∧ decode code 1004 = .ok (.aload_n 0, 1) ∧ decode code 1005 = .ok (.iload_n 3, 1) ∧ decode code 1006 = .ok (.iconst 3, 1) ∧ decode code 1007 = .ok (.iadd, 1) ∧ decode code 1008 = .ok (.iaload, 1) ∧ decode code 1009 = .ok (.invokevirtual 98, 3) := by decide +kernel
theorem dL_law_1002 : decode code 1002 = .ok (.iadd, 1) := dLg_90.1
theorem dL_law_1003 : decode code 1003 = .ok (.iaload, 1) := dLg_90.2.1
theorem dL_law_1004 : decode code 1004 = .ok (.aload_n 0, 1) := dLg_90.2.2.1
theorem dL_law_1005 : decode code 1005 = .ok (.iload_n 3, 1) := dLg_90.2.2.2.1
theorem dL_law_1006 : decode code 1006 = .ok (.iconst 3, 1) := dLg_90.2.2.2.2.1
theorem dL_law_1007 : decode code 1007 = .ok (.iadd, 1) := dLg_90.2.2.2.2.2.1
theorem dL_law_1008 : decode code 1008 = .ok (.iaload, 1) := dLg_90.2.2.2.2.2.2.1
theorem dL_law_1009 : decode code 1009 = .ok (.invokevirtual 98, 3) := dLg_90.2.2.2.2.2.2.2
theorem dLg_91 : decode code 1012 = .ok (.pop, 1) ∧ decode code 1013 = .ok (.aload_n 2, 1) ∧ decode code 1014 = .ok (.aload_n 0, 1) ∧ decode code 1015 = .ok (.iload_n 3, 1) ∧ decode code 1016 = .ok (.iconst 1, 1) ∧ decode code 1017 = .ok (.iadd, 1) ∧ decode code 1018 = .ok (.iaload, 1) ∧ decode code 1019 = .ok (.aload_n 0, 1) := by decide +kernel
theorem dL_law_1012 : decode code 1012 = .ok (.pop, 1) := dLg_91.1
theorem dL_law_1013 : decode code 1013 = .ok (.aload_n 2, 1) := dLg_91.2.1
theorem dL_law_1014 : decode code 1014 = .ok (.aload_n 0, 1) := dLg_91.2.2.1
theorem dL_law_1015 : decode code 1015 = .ok (.iload_n 3, 1) := dLg_91.2.2.2.1
theorem dL_law_1016 : decode code 1016 = .ok (.iconst 1, 1) := dLg_91.2.2.2.2.1
theorem dL_law_1017 : decode code 1017 = .ok (.iadd, 1) := dLg_91.2.2.2.2.2.1
theorem dL_law_1018 : decode code 1018 = .ok (.iaload, 1) := dLg_91.2.2.2.2.2.2.1
theorem dL_law_1019 : decode code 1019 = .ok (.aload_n 0, 1) := dLg_91.2.2.2.2.2.2.2
theorem dLg_92 : decode code 1020 = .ok (.iload_n 3, 1) ∧ decode code 1021 = .ok (.iconst 2, 1) ∧ decode code 1022 = .ok (.iadd, 1) ∧ decode code 1023 = .ok (.iaload, 1) ∧ decode code 1024 = .ok (.aload_n 0, 1) ∧ decode code 1025 = .ok (.iload_n 3, 1) ∧ decode code 1026 = .ok (.iconst 3, 1) ∧ decode code 1027 = .ok (.iadd, 1) := by decide +kernel
theorem dL_law_1020 : decode code 1020 = .ok (.iload_n 3, 1) := dLg_92.1
theorem dL_law_1021 : decode code 1021 = .ok (.iconst 2, 1) := dLg_92.2.1
theorem dL_law_1022 : decode code 1022 = .ok (.iadd, 1) := dLg_92.2.2.1
theorem dL_law_1023 : decode code 1023 = .ok (.iaload, 1) := dLg_92.2.2.2.1
theorem dL_law_1024 : decode code 1024 = .ok (.aload_n 0, 1) := dLg_92.2.2.2.2.1
theorem dL_law_1025 : decode code 1025 = .ok (.iload_n 3, 1) := dLg_92.2.2.2.2.2.1
theorem dL_law_1026 : decode code 1026 = .ok (.iconst 3, 1) := dLg_92.2.2.2.2.2.2.1
theorem dL_law_1027 : decode code 1027 = .ok (.iadd, 1) := dLg_92.2.2.2.2.2.2.2
theorem dLg_93 : decode code 1028 = .ok (.iaload, 1) ∧ decode code 1029 = .ok (.invokevirtual 102, 3) ∧ decode code 1032 = .ok (.pop, 1) ∧ decode code 1033 = .ok (.goto 462, 3) ∧ decode code 1036 = .ok (.aload_n 1, 1) ∧ decode code 1037 = .ok (.aload_n 0, 1) ∧ decode code 1038 = .ok (.iload_n 3, 1) ∧ decode code 1039 = .ok (.iconst 1, 1) := by decide +kernel
theorem dL_law_1028 : decode code 1028 = .ok (.iaload, 1) := dLg_93.1
theorem dL_law_1029 : decode code 1029 = .ok (.invokevirtual 102, 3) := dLg_93.2.1
theorem dL_law_1032 : decode code 1032 = .ok (.pop, 1) := dLg_93.2.2.1
theorem dL_law_1033 : decode code 1033 = .ok (.goto 462, 3) := dLg_93.2.2.2.1
theorem dL_law_1036 : decode code 1036 = .ok (.aload_n 1, 1) := dLg_93.2.2.2.2.1
theorem dL_law_1037 : decode code 1037 = .ok (.aload_n 0, 1) := dLg_93.2.2.2.2.2.1
theorem dL_law_1038 : decode code 1038 = .ok (.iload_n 3, 1) := dLg_93.2.2.2.2.2.2.1
theorem dL_law_1039 : decode code 1039 = .ok (.iconst 1, 1) := dLg_93.2.2.2.2.2.2.2
theorem dLg_94 : decode code 1040 = .ok (.iadd, 1) ∧ decode code 1041 = .ok (.iaload, 1) ∧ decode code 1042 = .ok (.aload_n 0, 1) ∧ decode code 1043 = .ok (.iload_n 3, 1) ∧ decode code 1044 = .ok (.iconst 2, 1) ∧ decode code 1045 = .ok (.iadd, 1) ∧ decode code 1046 = .ok (.iaload, 1) ∧ decode code 1047 = .ok (.aload_n 0, 1) := by decide +kernel
theorem dL_law_1040 : decode code 1040 = .ok (.iadd, 1) := dLg_94.1
theorem dL_law_1041 : decode code 1041 = .ok (.iaload, 1) := dLg_94.2.1
theorem dL_law_1042 : decode code 1042 = .ok (.aload_n 0, 1) := dLg_94.2.2.1
theorem dL_law_1043 : decode code 1043 = .ok (.iload_n 3, 1) := dLg_94.2.2.2.1
theorem dL_law_1044 : decode code 1044 = .ok (.iconst 2, 1) := dLg_94.2.2.2.2.1
theorem dL_law_1045 : decode code 1045 = .ok (.iadd, 1) := dLg_94.2.2.2.2.2.1
theorem dL_law_1046 : decode code 1046 = .ok (.iaload, 1) := dLg_94.2.2.2.2.2.2.1
theorem dL_law_1047 : decode code 1047 = .ok (.aload_n 0, 1) := dLg_94.2.2.2.2.2.2.2
theorem dLg_95 : decode code 1048 = .ok (.iload_n 3, 1) ∧ decode code 1049 = .ok (.iconst 3, 1) ∧ decode code 1050 = .ok (.iadd, 1) ∧ decode code 1051 = .ok (.iaload, 1) ∧ decode code 1052 = .ok (.aload_n 0, 1) ∧ decode code 1053 = .ok (.iload_n 3, 1) ∧ decode code 1054 = .ok (.iconst 4, 1) ∧ decode code 1055 = .ok (.iadd, 1) := by decide +kernel
theorem dL_law_1048 : decode code 1048 = .ok (.iload_n 3, 1) := dLg_95.1
theorem dL_law_1049 : decode code 1049 = .ok (.iconst 3, 1) := dLg_95.2.1
theorem dL_law_1050 : decode code 1050 = .ok (.iadd, 1) := dLg_95.2.2.1
theorem dL_law_1051 : decode code 1051 = .ok (.iaload, 1) := dLg_95.2.2.2.1
theorem dL_law_1052 : decode code 1052 = .ok (.aload_n 0, 1) := dLg_95.2.2.2.2.1
theorem dL_law_1053 : decode code 1053 = .ok (.iload_n 3, 1) := dLg_95.2.2.2.2.2.1
theorem dL_law_1054 : decode code 1054 = .ok (.iconst 4, 1) := dLg_95.2.2.2.2.2.2.1
theorem dL_law_1055 : decode code 1055 = .ok (.iadd, 1) := dLg_95.2.2.2.2.2.2.2
theorem dLg_96 : decode code 1056 = .ok (.iaload, 1) ∧ decode code 1057 = .ok (.invokevirtual 103, 3) ∧ decode code 1060 = .ok (.pop2, 1) ∧ decode code 1061 = .ok (.aload_n 2, 1) ∧ decode code 1062 = .ok (.aload_n 0, 1) ∧ decode code 1063 = .ok (.iload_n 3, 1) ∧ decode code 1064 = .ok (.iconst 1, 1) ∧ decode code 1065 = .ok (.iadd, 1) := by decide +kernel
theorem dL_law_1056 : decode code 1056 = .ok (.iaload, 1) := dLg_96.1
theorem dL_law_1057 : decode code 1057 = .ok (.invokevirtual 103, 3) := dLg_96.2.1
theorem dL_law_1060 : decode code 1060 = .ok (.pop2, 1) := dLg_96.2.2.1
theorem dL_law_1061 : decode code 1061 = .ok (.aload_n 2, 1) := dLg_96.2.2.2.1
theorem dL_law_1062 : decode code 1062 = .ok (.aload_n 0, 1) := dLg_96.2.2.2.2.1
theorem dL_law_1063 : decode code 1063 = .ok (.iload_n 3, 1) := dLg_96.2.2.2.2.2.1
theorem dL_law_1064 : decode code 1064 = .ok (.iconst 1, 1) := dLg_96.2.2.2.2.2.2.1
theorem dL_law_1065 : decode code 1065 = .ok (.iadd, 1) := dLg_96.2.2.2.2.2.2.2
theorem dLg_97 : decode code 1066 = .ok (.iaload, 1) ∧ decode code 1067 = .ok (.aload_n 0, 1) ∧ decode code 1068 = .ok (.iload_n 3, 1) ∧ decode code 1069 = .ok (.iconst 2, 1) ∧ decode code 1070 = .ok (.iadd, 1) ∧ decode code 1071 = .ok (.iaload, 1) ∧ decode code 1072 = .ok (.aload_n 0, 1) ∧ decode code 1073 = .ok (.iload_n 3, 1) := by decide +kernel
theorem dL_law_1066 : decode code 1066 = .ok (.iaload, 1) := dLg_97.1
theorem dL_law_1067 : decode code 1067 = .ok (.aload_n 0, 1) := dLg_97.2.1
theorem dL_law_1068 : decode code 1068 = .ok (.iload_n 3, 1) := dLg_97.2.2.1
theorem dL_law_1069 : decode code 1069 = .ok (.iconst 2, 1) := dLg_97.2.2.2.1
theorem dL_law_1070 : decode code 1070 = .ok (.iadd, 1) := dLg_97.2.2.2.2.1
theorem dL_law_1071 : decode code 1071 = .ok (.iaload, 1) := dLg_97.2.2.2.2.2.1
theorem dL_law_1072 : decode code 1072 = .ok (.aload_n 0, 1) := dLg_97.2.2.2.2.2.2.1
theorem dL_law_1073 : decode code 1073 = .ok (.iload_n 3, 1) := dLg_97.2.2.2.2.2.2.2
theorem dLg_98 : decode code 1074 = .ok (.iconst 3, 1) ∧ decode code 1075 = .ok (.iadd, 1) ∧ decode code 1076 = .ok (.iaload, 1) ∧ decode code 1077 = .ok (.aload_n 0, 1) ∧ decode code 1078 = .ok (.iload_n 3, 1) ∧ decode code 1079 = .ok (.iconst 4, 1) ∧ decode code 1080 = .ok (.iadd, 1) ∧ decode code 1081 = .ok (.iaload, 1) := by decide +kernel
theorem dL_law_1074 : decode code 1074 = .ok (.iconst 3, 1) := dLg_98.1
theorem dL_law_1075 : decode code 1075 = .ok (.iadd, 1) := dLg_98.2.1
theorem dL_law_1076 : decode code 1076 = .ok (.iaload, 1) := dLg_98.2.2.1
theorem dL_law_1077 : decode code 1077 = .ok (.aload_n 0, 1) := dLg_98.2.2.2.1
theorem dL_law_1078 : decode code 1078 = .ok (.iload_n 3, 1) := dLg_98.2.2.2.2.1
theorem dL_law_1079 : decode code 1079 = .ok (.iconst 4, 1) := dLg_98.2.2.2.2.2.1
theorem dL_law_1080 : decode code 1080 = .ok (.iadd, 1) := dLg_98.2.2.2.2.2.2.1
theorem dL_law_1081 : decode code 1081 = .ok (.iaload, 1) := dLg_98.2.2.2.2.2.2.2
theorem dLg_99 : decode code 1082 = .ok (.invokevirtual 106, 3) ∧ decode code 1085 = .ok (.pop2, 1) ∧ decode code 1086 = .ok (.goto 409, 3) ∧ decode code 1089 = .ok (.aload_n 1, 1) ∧ decode code 1090 = .ok (.aload_n 0, 1) ∧ decode code 1091 = .ok (.iload_n 3, 1) ∧ decode code 1092 = .ok (.iconst 1, 1) ∧ decode code 1093 = .ok (.iadd, 1) := by decide +kernel
theorem dL_law_1082 : decode code 1082 = .ok (.invokevirtual 106, 3) := dLg_99.1
theorem dL_law_1085 : decode code 1085 = .ok (.pop2, 1) := dLg_99.2.1
theorem dL_law_1086 : decode code 1086 = .ok (.goto 409, 3) := dLg_99.2.2.1
theorem dL_law_1089 : decode code 1089 = .ok (.aload_n 1, 1) := dLg_99.2.2.2.1
theorem dL_law_1090 : decode code 1090 = .ok (.aload_n 0, 1) := dLg_99.2.2.2.2.1
theorem dL_law_1091 : decode code 1091 = .ok (.iload_n 3, 1) := dLg_99.2.2.2.2.2.1
theorem dL_law_1092 : decode code 1092 = .ok (.iconst 1, 1) := dLg_99.2.2.2.2.2.2.1
theorem dL_law_1093 : decode code 1093 = .ok (.iadd, 1) := dLg_99.2.2.2.2.2.2.2
theorem dLg_100 : decode code 1094 = .ok (.iaload, 1) ∧ decode code 1095 = .ok (.aload_n 0, 1) ∧ decode code 1096 = .ok (.iload_n 3, 1) ∧ decode code 1097 = .ok (.iconst 2, 1) ∧ decode code 1098 = .ok (.iadd, 1) ∧ decode code 1099 = .ok (.iaload, 1) ∧ decode code 1100 = .ok (.invokevirtual 107, 3) ∧ decode code 1103 = .ok (.pop, 1) := by decide +kernel
theorem dL_law_1094 : decode code 1094 = .ok (.iaload, 1) := dLg_100.1
theorem dL_law_1095 : decode code 1095 = .ok (.aload_n 0, 1) := dLg_100.2.1
theorem dL_law_1096 : decode code 1096 = .ok (.iload_n 3, 1) := dLg_100.2.2.1
theorem dL_law_1097 : decode code 1097 = .ok (.iconst 2, 1) := dLg_100.2.2.2.1
theorem dL_law_1098 : decode code 1098 = .ok (.iadd, 1) := dLg_100.2.2.2.2.1
theorem dL_law_1099 : decode code 1099 = .ok (.iaload, 1) := dLg_100.2.2.2.2.2.1
theorem dL_law_1100 : decode code 1100 = .ok (.invokevirtual 107, 3) := dLg_100.2.2.2.2.2.2.1
theorem dL_law_1103 : decode code 1103 = .ok (.pop, 1) := dLg_100.2.2.2.2.2.2.2
theorem dLg_101 : decode code 1104 = .ok (.aload_n 2, 1) ∧ decode code 1105 = .ok (.aload_n 0, 1) ∧ decode code 1106 = .ok (.iload_n 3, 1) ∧ decode code 1107 = .ok (.iconst 1, 1) ∧ decode code 1108 = .ok (.iadd, 1) ∧ decode code 1109 = .ok (.iaload, 1) ∧ decode code 1110 = .ok (.aload_n 0, 1) ∧ decode code 1111 = .ok (.iload_n 3, 1) := by decide +kernel
theorem dL_law_1104 : decode code 1104 = .ok (.aload_n 2, 1) := dLg_101.1
theorem dL_law_1105 : decode code 1105 = .ok (.aload_n 0, 1) := dLg_101.2.1
theorem dL_law_1106 : decode code 1106 = .ok (.iload_n 3, 1) := dLg_101.2.2.1
theorem dL_law_1107 : decode code 1107 = .ok (.iconst 1, 1) := dLg_101.2.2.2.1
theorem dL_law_1108 : decode code 1108 = .ok (.iadd, 1) := dLg_101.2.2.2.2.1
theorem dL_law_1109 : decode code 1109 = .ok (.iaload, 1) := dLg_101.2.2.2.2.2.1
theorem dL_law_1110 : decode code 1110 = .ok (.aload_n 0, 1) := dLg_101.2.2.2.2.2.2.1
theorem dL_law_1111 : decode code 1111 = .ok (.iload_n 3, 1) := dLg_101.2.2.2.2.2.2.2
theorem dLg_102 : decode code 1112 = .ok (.iconst 2, 1) ∧ decode code 1113 = .ok (.iadd, 1) ∧ decode code 1114 = .ok (.iaload, 1) ∧ decode code 1115 = .ok (.invokevirtual 110, 3) ∧ decode code 1118 = .ok (.pop, 1) ∧ decode code 1119 = .ok (.goto 376, 3) ∧ decode code 1122 = .ok (.aload_n 1, 1) ∧ decode code 1123 = .ok (.aload_n 0, 1) := by decide +kernel
theorem dL_law_1112 : decode code 1112 = .ok (.iconst 2, 1) := dLg_102.1
theorem dL_law_1113 : decode code 1113 = .ok (.iadd, 1) := dLg_102.2.1
theorem dL_law_1114 : decode code 1114 = .ok (.iaload, 1) := dLg_102.2.2.1
theorem dL_law_1115 : decode code 1115 = .ok (.invokevirtual 110, 3) := dLg_102.2.2.2.1
theorem dL_law_1118 : decode code 1118 = .ok (.pop, 1) := dLg_102.2.2.2.2.1
theorem dL_law_1119 : decode code 1119 = .ok (.goto 376, 3) := dLg_102.2.2.2.2.2.1
theorem dL_law_1122 : decode code 1122 = .ok (.aload_n 1, 1) := dLg_102.2.2.2.2.2.2.1
theorem dL_law_1123 : decode code 1123 = .ok (.aload_n 0, 1) := dLg_102.2.2.2.2.2.2.2
theorem dLg_103 : decode code 1124 = .ok (.iload_n 3, 1) ∧ decode code 1125 = .ok (.iconst 1, 1) ∧ decode code 1126 = .ok (.iadd, 1) ∧ decode code 1127 = .ok (.iaload, 1) ∧ decode code 1128 = .ok (.aload_n 0, 1) ∧ decode code 1129 = .ok (.iload_n 3, 1) ∧ decode code 1130 = .ok (.iconst 2, 1) ∧ decode code 1131 = .ok (.iadd, 1) := by decide +kernel
theorem dL_law_1124 : decode code 1124 = .ok (.iload_n 3, 1) := dLg_103.1
theorem dL_law_1125 : decode code 1125 = .ok (.iconst 1, 1) := dLg_103.2.1
theorem dL_law_1126 : decode code 1126 = .ok (.iadd, 1) := dLg_103.2.2.1
theorem dL_law_1127 : decode code 1127 = .ok (.iaload, 1) := dLg_103.2.2.2.1
theorem dL_law_1128 : decode code 1128 = .ok (.aload_n 0, 1) := dLg_103.2.2.2.2.1
theorem dL_law_1129 : decode code 1129 = .ok (.iload_n 3, 1) := dLg_103.2.2.2.2.2.1
theorem dL_law_1130 : decode code 1130 = .ok (.iconst 2, 1) := dLg_103.2.2.2.2.2.2.1
theorem dL_law_1131 : decode code 1131 = .ok (.iadd, 1) := dLg_103.2.2.2.2.2.2.2
theorem dLg_104 : decode code 1132 = .ok (.iaload, 1) ∧ decode code 1133 = .ok (.aload_n 0, 1) ∧ decode code 1134 = .ok (.iload_n 3, 1) ∧ decode code 1135 = .ok (.iconst 3, 1) ∧ decode code 1136 = .ok (.iadd, 1) ∧ decode code 1137 = .ok (.iaload, 1) ∧ decode code 1138 = .ok (.invokevirtual 111, 3) ∧ decode code 1141 = .ok (.pop2, 1) := by decide +kernel
theorem dL_law_1132 : decode code 1132 = .ok (.iaload, 1) := dLg_104.1
theorem dL_law_1133 : decode code 1133 = .ok (.aload_n 0, 1) := dLg_104.2.1
theorem dL_law_1134 : decode code 1134 = .ok (.iload_n 3, 1) := dLg_104.2.2.1
theorem dL_law_1135 : decode code 1135 = .ok (.iconst 3, 1) := dLg_104.2.2.2.1
theorem dL_law_1136 : decode code 1136 = .ok (.iadd, 1) := dLg_104.2.2.2.2.1
theorem dL_law_1137 : decode code 1137 = .ok (.iaload, 1) := dLg_104.2.2.2.2.2.1
theorem dL_law_1138 : decode code 1138 = .ok (.invokevirtual 111, 3) := dLg_104.2.2.2.2.2.2.1
theorem dL_law_1141 : decode code 1141 = .ok (.pop2, 1) := dLg_104.2.2.2.2.2.2.2
theorem dLg_105 : decode code 1142 = .ok (.aload_n 2, 1) ∧ decode code 1143 = .ok (.aload_n 0, 1) ∧ decode code 1144 = .ok (.iload_n 3, 1) ∧ decode code 1145 = .ok (.iconst 1, 1) ∧ decode code 1146 = .ok (.iadd, 1) ∧ decode code 1147 = .ok (.iaload, 1) ∧ decode code 1148 = .ok (.aload_n 0, 1) ∧ decode code 1149 = .ok (.iload_n 3, 1) := by decide +kernel
theorem dL_law_1142 : decode code 1142 = .ok (.aload_n 2, 1) := dLg_105.1
theorem dL_law_1143 : decode code 1143 = .ok (.aload_n 0, 1) := dLg_105.2.1
theorem dL_law_1144 : decode code 1144 = .ok (.iload_n 3, 1) := dLg_105.2.2.1
theorem dL_law_1145 : decode code 1145 = .ok (.iconst 1, 1) := dLg_105.2.2.2.1
theorem dL_law_1146 : decode code 1146 = .ok (.iadd, 1) := dLg_105.2.2.2.2.1
theorem dL_law_1147 : decode code 1147 = .ok (.iaload, 1) := dLg_105.2.2.2.2.2.1
theorem dL_law_1148 : decode code 1148 = .ok (.aload_n 0, 1) := dLg_105.2.2.2.2.2.2.1
theorem dL_law_1149 : decode code 1149 = .ok (.iload_n 3, 1) := dLg_105.2.2.2.2.2.2.2
theorem dLg_106 : decode code 1150 = .ok (.iconst 2, 1) ∧ decode code 1151 = .ok (.iadd, 1) ∧ decode code 1152 = .ok (.iaload, 1) ∧ decode code 1153 = .ok (.aload_n 0, 1) ∧ decode code 1154 = .ok (.iload_n 3, 1) ∧ decode code 1155 = .ok (.iconst 3, 1) ∧ decode code 1156 = .ok (.iadd, 1) ∧ decode code 1157 = .ok (.iaload, 1) := by decide +kernel
theorem dL_law_1150 : decode code 1150 = .ok (.iconst 2, 1) := dLg_106.1
theorem dL_law_1151 : decode code 1151 = .ok (.iadd, 1) := dLg_106.2.1
theorem dL_law_1152 : decode code 1152 = .ok (.iaload, 1) := dLg_106.2.2.1
theorem dL_law_1153 : decode code 1153 = .ok (.aload_n 0, 1) := dLg_106.2.2.2.1
theorem dL_law_1154 : decode code 1154 = .ok (.iload_n 3, 1) := dLg_106.2.2.2.2.1
theorem dL_law_1155 : decode code 1155 = .ok (.iconst 3, 1) := dLg_106.2.2.2.2.2.1
theorem dL_law_1156 : decode code 1156 = .ok (.iadd, 1) := dLg_106.2.2.2.2.2.2.1
theorem dL_law_1157 : decode code 1157 = .ok (.iaload, 1) := dLg_106.2.2.2.2.2.2.2
theorem dLg_107 : decode code 1158 = .ok (.invokevirtual 115, 3) ∧ decode code 1161 = .ok (.pop2, 1) ∧ decode code 1162 = .ok (.goto 333, 3) ∧ decode code 1165 = .ok (.aload_n 1, 1) ∧ decode code 1166 = .ok (.aload_n 0, 1) ∧ decode code 1167 = .ok (.iload_n 3, 1) ∧ decode code 1168 = .ok (.iconst 1, 1) ∧ decode code 1169 = .ok (.iadd, 1) := by decide +kernel
theorem dL_law_1158 : decode code 1158 = .ok (.invokevirtual 115, 3) := dLg_107.1
theorem dL_law_1161 : decode code 1161 = .ok (.pop2, 1) := dLg_107.2.1
theorem dL_law_1162 : decode code 1162 = .ok (.goto 333, 3) := dLg_107.2.2.1
theorem dL_law_1165 : decode code 1165 = .ok (.aload_n 1, 1) := dLg_107.2.2.2.1
theorem dL_law_1166 : decode code 1166 = .ok (.aload_n 0, 1) := dLg_107.2.2.2.2.1
theorem dL_law_1167 : decode code 1167 = .ok (.iload_n 3, 1) := dLg_107.2.2.2.2.2.1
theorem dL_law_1168 : decode code 1168 = .ok (.iconst 1, 1) := dLg_107.2.2.2.2.2.2.1
theorem dL_law_1169 : decode code 1169 = .ok (.iadd, 1) := dLg_107.2.2.2.2.2.2.2
theorem dLg_108 : decode code 1170 = .ok (.iaload, 1) ∧ decode code 1171 = .ok (.aload_n 0, 1) ∧ decode code 1172 = .ok (.iload_n 3, 1) ∧ decode code 1173 = .ok (.iconst 2, 1) ∧ decode code 1174 = .ok (.iadd, 1) ∧ decode code 1175 = .ok (.iaload, 1) ∧ decode code 1176 = .ok (.invokevirtual 116, 3) ∧ decode code 1179 = .ok (.pop, 1) := by decide +kernel
theorem dL_law_1170 : decode code 1170 = .ok (.iaload, 1) := dLg_108.1
theorem dL_law_1171 : decode code 1171 = .ok (.aload_n 0, 1) := dLg_108.2.1
theorem dL_law_1172 : decode code 1172 = .ok (.iload_n 3, 1) := dLg_108.2.2.1
theorem dL_law_1173 : decode code 1173 = .ok (.iconst 2, 1) := dLg_108.2.2.2.1
theorem dL_law_1174 : decode code 1174 = .ok (.iadd, 1) := dLg_108.2.2.2.2.1
theorem dL_law_1175 : decode code 1175 = .ok (.iaload, 1) := dLg_108.2.2.2.2.2.1
theorem dL_law_1176 : decode code 1176 = .ok (.invokevirtual 116, 3) := dLg_108.2.2.2.2.2.2.1
theorem dL_law_1179 : decode code 1179 = .ok (.pop, 1) := dLg_108.2.2.2.2.2.2.2
theorem dLg_109 : decode code 1180 = .ok (.aload_n 2, 1) ∧ decode code 1181 = .ok (.aload_n 0, 1) ∧ decode code 1182 = .ok (.iload_n 3, 1) ∧ decode code 1183 = .ok (.iconst 1, 1) ∧ decode code 1184 = .ok (.iadd, 1) ∧ decode code 1185 = .ok (.iaload, 1) ∧ decode code 1186 = .ok (.aload_n 0, 1) ∧ decode code 1187 = .ok (.iload_n 3, 1) := by decide +kernel
theorem dL_law_1180 : decode code 1180 = .ok (.aload_n 2, 1) := dLg_109.1
theorem dL_law_1181 : decode code 1181 = .ok (.aload_n 0, 1) := dLg_109.2.1
theorem dL_law_1182 : decode code 1182 = .ok (.iload_n 3, 1) := dLg_109.2.2.1
theorem dL_law_1183 : decode code 1183 = .ok (.iconst 1, 1) := dLg_109.2.2.2.1
theorem dL_law_1184 : decode code 1184 = .ok (.iadd, 1) := dLg_109.2.2.2.2.1
theorem dL_law_1185 : decode code 1185 = .ok (.iaload, 1) := dLg_109.2.2.2.2.2.1
theorem dL_law_1186 : decode code 1186 = .ok (.aload_n 0, 1) := dLg_109.2.2.2.2.2.2.1
theorem dL_law_1187 : decode code 1187 = .ok (.iload_n 3, 1) := dLg_109.2.2.2.2.2.2.2
theorem dLg_110 : decode code 1188 = .ok (.iconst 2, 1) ∧ decode code 1189 = .ok (.iadd, 1) ∧ decode code 1190 = .ok (.iaload, 1) ∧ decode code 1191 = .ok (.invokevirtual 119, 3) ∧ decode code 1194 = .ok (.pop, 1) ∧ decode code 1195 = .ok (.goto 300, 3) ∧ decode code 1198 = .ok (.aload_n 1, 1) ∧ decode code 1199 = .ok (.aload_n 0, 1) := by decide +kernel
theorem dL_law_1188 : decode code 1188 = .ok (.iconst 2, 1) := dLg_110.1
theorem dL_law_1189 : decode code 1189 = .ok (.iadd, 1) := dLg_110.2.1
theorem dL_law_1190 : decode code 1190 = .ok (.iaload, 1) := dLg_110.2.2.1
theorem dL_law_1191 : decode code 1191 = .ok (.invokevirtual 119, 3) := dLg_110.2.2.2.1
theorem dL_law_1194 : decode code 1194 = .ok (.pop, 1) := dLg_110.2.2.2.2.1
theorem dL_law_1195 : decode code 1195 = .ok (.goto 300, 3) := dLg_110.2.2.2.2.2.1
theorem dL_law_1198 : decode code 1198 = .ok (.aload_n 1, 1) := dLg_110.2.2.2.2.2.2.1
theorem dL_law_1199 : decode code 1199 = .ok (.aload_n 0, 1) := dLg_110.2.2.2.2.2.2.2
theorem dLg_111 : decode code 1200 = .ok (.iload_n 3, 1) ∧ decode code 1201 = .ok (.iconst 1, 1) ∧ decode code 1202 = .ok (.iadd, 1) ∧ decode code 1203 = .ok (.iaload, 1) ∧ decode code 1204 = .ok (.aload_n 0, 1) ∧ decode code 1205 = .ok (.iload_n 3, 1) ∧ decode code 1206 = .ok (.iconst 2, 1) ∧ decode code 1207 = .ok (.iadd, 1) := by decide +kernel
theorem dL_law_1200 : decode code 1200 = .ok (.iload_n 3, 1) := dLg_111.1
theorem dL_law_1201 : decode code 1201 = .ok (.iconst 1, 1) := dLg_111.2.1
theorem dL_law_1202 : decode code 1202 = .ok (.iadd, 1) := dLg_111.2.2.1
theorem dL_law_1203 : decode code 1203 = .ok (.iaload, 1) := dLg_111.2.2.2.1
theorem dL_law_1204 : decode code 1204 = .ok (.aload_n 0, 1) := dLg_111.2.2.2.2.1
theorem dL_law_1205 : decode code 1205 = .ok (.iload_n 3, 1) := dLg_111.2.2.2.2.2.1
theorem dL_law_1206 : decode code 1206 = .ok (.iconst 2, 1) := dLg_111.2.2.2.2.2.2.1
theorem dL_law_1207 : decode code 1207 = .ok (.iadd, 1) := dLg_111.2.2.2.2.2.2.2
theorem dLg_112 : decode code 1208 = .ok (.iaload, 1) ∧ decode code 1209 = .ok (.aload_n 0, 1) ∧ decode code 1210 = .ok (.iload_n 3, 1) ∧ decode code 1211 = .ok (.iconst 3, 1) ∧ decode code 1212 = .ok (.iadd, 1) ∧ decode code 1213 = .ok (.iaload, 1) ∧ decode code 1214 = .ok (.invokevirtual 120, 3) ∧ decode code 1217 = .ok (.pop, 1) := by decide +kernel
theorem dL_law_1208 : decode code 1208 = .ok (.iaload, 1) := dLg_112.1
theorem dL_law_1209 : decode code 1209 = .ok (.aload_n 0, 1) := dLg_112.2.1
theorem dL_law_1210 : decode code 1210 = .ok (.iload_n 3, 1) := dLg_112.2.2.1
theorem dL_law_1211 : decode code 1211 = .ok (.iconst 3, 1) := dLg_112.2.2.2.1
theorem dL_law_1212 : decode code 1212 = .ok (.iadd, 1) := dLg_112.2.2.2.2.1
theorem dL_law_1213 : decode code 1213 = .ok (.iaload, 1) := dLg_112.2.2.2.2.2.1
theorem dL_law_1214 : decode code 1214 = .ok (.invokevirtual 120, 3) := dLg_112.2.2.2.2.2.2.1
theorem dL_law_1217 : decode code 1217 = .ok (.pop, 1) := dLg_112.2.2.2.2.2.2.2
theorem dLg_113 : decode code 1218 = .ok (.aload_n 2, 1) ∧ decode code 1219 = .ok (.aload_n 0, 1) ∧ decode code 1220 = .ok (.iload_n 3, 1) ∧ decode code 1221 = .ok (.iconst 1, 1) ∧ decode code 1222 = .ok (.iadd, 1) ∧ decode code 1223 = .ok (.iaload, 1) ∧ decode code 1224 = .ok (.aload_n 0, 1) ∧ decode code 1225 = .ok (.iload_n 3, 1) := by decide +kernel
theorem dL_law_1218 : decode code 1218 = .ok (.aload_n 2, 1) := dLg_113.1
theorem dL_law_1219 : decode code 1219 = .ok (.aload_n 0, 1) := dLg_113.2.1
theorem dL_law_1220 : decode code 1220 = .ok (.iload_n 3, 1) := dLg_113.2.2.1
theorem dL_law_1221 : decode code 1221 = .ok (.iconst 1, 1) := dLg_113.2.2.2.1
theorem dL_law_1222 : decode code 1222 = .ok (.iadd, 1) := dLg_113.2.2.2.2.1
theorem dL_law_1223 : decode code 1223 = .ok (.iaload, 1) := dLg_113.2.2.2.2.2.1
theorem dL_law_1224 : decode code 1224 = .ok (.aload_n 0, 1) := dLg_113.2.2.2.2.2.2.1
theorem dL_law_1225 : decode code 1225 = .ok (.iload_n 3, 1) := dLg_113.2.2.2.2.2.2.2
theorem dLg_114 : decode code 1226 = .ok (.iconst 2, 1) ∧ decode code 1227 = .ok (.iadd, 1) ∧ decode code 1228 = .ok (.iaload, 1) ∧ decode code 1229 = .ok (.aload_n 0, 1) ∧ decode code 1230 = .ok (.iload_n 3, 1) ∧ decode code 1231 = .ok (.iconst 3, 1) ∧ decode code 1232 = .ok (.iadd, 1) ∧ decode code 1233 = .ok (.iaload, 1) := by decide +kernel
theorem dL_law_1226 : decode code 1226 = .ok (.iconst 2, 1) := dLg_114.1
theorem dL_law_1227 : decode code 1227 = .ok (.iadd, 1) := dLg_114.2.1
theorem dL_law_1228 : decode code 1228 = .ok (.iaload, 1) := dLg_114.2.2.1
theorem dL_law_1229 : decode code 1229 = .ok (.aload_n 0, 1) := dLg_114.2.2.2.1
theorem dL_law_1230 : decode code 1230 = .ok (.iload_n 3, 1) := dLg_114.2.2.2.2.1
theorem dL_law_1231 : decode code 1231 = .ok (.iconst 3, 1) := dLg_114.2.2.2.2.2.1
theorem dL_law_1232 : decode code 1232 = .ok (.iadd, 1) := dLg_114.2.2.2.2.2.2.1
theorem dL_law_1233 : decode code 1233 = .ok (.iaload, 1) := dLg_114.2.2.2.2.2.2.2
theorem dLg_115 : decode code 1234 = .ok (.invokevirtual 123, 3) ∧ decode code 1237 = .ok (.pop, 1) ∧ decode code 1238 = .ok (.goto 257, 3) ∧ decode code 1241 = .ok (.aload_n 1, 1) ∧ decode code 1242 = .ok (.aload_n 0, 1) ∧ decode code 1243 = .ok (.iload_n 3, 1) ∧ decode code 1244 = .ok (.iconst 1, 1) ∧ decode code 1245 = .ok (.iadd, 1) := by decide +kernel
theorem dL_law_1234 : decode code 1234 = .ok (.invokevirtual 123, 3) := dLg_115.1
theorem dL_law_1237 : decode code 1237 = .ok (.pop, 1) := dLg_115.2.1
theorem dL_law_1238 : decode code 1238 = .ok (.goto 257, 3) := dLg_115.2.2.1
theorem dL_law_1241 : decode code 1241 = .ok (.aload_n 1, 1) := dLg_115.2.2.2.1
theorem dL_law_1242 : decode code 1242 = .ok (.aload_n 0, 1) := dLg_115.2.2.2.2.1
theorem dL_law_1243 : decode code 1243 = .ok (.iload_n 3, 1) := dLg_115.2.2.2.2.2.1
theorem dL_law_1244 : decode code 1244 = .ok (.iconst 1, 1) := dLg_115.2.2.2.2.2.2.1
theorem dL_law_1245 : decode code 1245 = .ok (.iadd, 1) := dLg_115.2.2.2.2.2.2.2
theorem dLg_116 : decode code 1246 = .ok (.iaload, 1) ∧ decode code 1247 = .ok (.aload_n 0, 1) ∧ decode code 1248 = .ok (.iload_n 3, 1) ∧ decode code 1249 = .ok (.iconst 2, 1) ∧ decode code 1250 = .ok (.iadd, 1) ∧ decode code 1251 = .ok (.iaload, 1) ∧ decode code 1252 = .ok (.invokevirtual 124, 3) ∧ decode code 1255 = .ok (.pop, 1) := by decide +kernel
theorem dL_law_1246 : decode code 1246 = .ok (.iaload, 1) := dLg_116.1
theorem dL_law_1247 : decode code 1247 = .ok (.aload_n 0, 1) := dLg_116.2.1
theorem dL_law_1248 : decode code 1248 = .ok (.iload_n 3, 1) := dLg_116.2.2.1
theorem dL_law_1249 : decode code 1249 = .ok (.iconst 2, 1) := dLg_116.2.2.2.1
theorem dL_law_1250 : decode code 1250 = .ok (.iadd, 1) := dLg_116.2.2.2.2.1
theorem dL_law_1251 : decode code 1251 = .ok (.iaload, 1) := dLg_116.2.2.2.2.2.1
theorem dL_law_1252 : decode code 1252 = .ok (.invokevirtual 124, 3) := dLg_116.2.2.2.2.2.2.1
theorem dL_law_1255 : decode code 1255 = .ok (.pop, 1) := dLg_116.2.2.2.2.2.2.2
theorem dLg_117 : decode code 1256 = .ok (.aload_n 2, 1) ∧ decode code 1257 = .ok (.aload_n 0, 1) ∧ decode code 1258 = .ok (.iload_n 3, 1) ∧ decode code 1259 = .ok (.iconst 1, 1) ∧ decode code 1260 = .ok (.iadd, 1) ∧ decode code 1261 = .ok (.iaload, 1) ∧ decode code 1262 = .ok (.aload_n 0, 1) ∧ decode code 1263 = .ok (.iload_n 3, 1) := by decide +kernel
theorem dL_law_1256 : decode code 1256 = .ok (.aload_n 2, 1) := dLg_117.1
theorem dL_law_1257 : decode code 1257 = .ok (.aload_n 0, 1) := dLg_117.2.1
theorem dL_law_1258 : decode code 1258 = .ok (.iload_n 3, 1) := dLg_117.2.2.1
theorem dL_law_1259 : decode code 1259 = .ok (.iconst 1, 1) := dLg_117.2.2.2.1
theorem dL_law_1260 : decode code 1260 = .ok (.iadd, 1) := dLg_117.2.2.2.2.1
theorem dL_law_1261 : decode code 1261 = .ok (.iaload, 1) := dLg_117.2.2.2.2.2.1
theorem dL_law_1262 : decode code 1262 = .ok (.aload_n 0, 1) := dLg_117.2.2.2.2.2.2.1
theorem dL_law_1263 : decode code 1263 = .ok (.iload_n 3, 1) := dLg_117.2.2.2.2.2.2.2
theorem dLg_118 : decode code 1264 = .ok (.iconst 2, 1) ∧ decode code 1265 = .ok (.iadd, 1) ∧ decode code 1266 = .ok (.iaload, 1) ∧ decode code 1267 = .ok (.invokevirtual 127, 3) ∧ decode code 1270 = .ok (.pop, 1) ∧ decode code 1271 = .ok (.goto 224, 3) ∧ decode code 1274 = .ok (.aload_n 1, 1) ∧ decode code 1275 = .ok (.aload_n 0, 1) := by decide +kernel
theorem dL_law_1264 : decode code 1264 = .ok (.iconst 2, 1) := dLg_118.1
theorem dL_law_1265 : decode code 1265 = .ok (.iadd, 1) := dLg_118.2.1
theorem dL_law_1266 : decode code 1266 = .ok (.iaload, 1) := dLg_118.2.2.1
theorem dL_law_1267 : decode code 1267 = .ok (.invokevirtual 127, 3) := dLg_118.2.2.2.1
theorem dL_law_1270 : decode code 1270 = .ok (.pop, 1) := dLg_118.2.2.2.2.1
theorem dL_law_1271 : decode code 1271 = .ok (.goto 224, 3) := dLg_118.2.2.2.2.2.1
theorem dL_law_1274 : decode code 1274 = .ok (.aload_n 1, 1) := dLg_118.2.2.2.2.2.2.1
theorem dL_law_1275 : decode code 1275 = .ok (.aload_n 0, 1) := dLg_118.2.2.2.2.2.2.2
theorem dLg_119 : decode code 1276 = .ok (.iload_n 3, 1) ∧ decode code 1277 = .ok (.iconst 1, 1) ∧ decode code 1278 = .ok (.iadd, 1) ∧ decode code 1279 = .ok (.iaload, 1) ∧ decode code 1280 = .ok (.aload_n 0, 1) ∧ decode code 1281 = .ok (.iload_n 3, 1) ∧ decode code 1282 = .ok (.iconst 2, 1) ∧ decode code 1283 = .ok (.iadd, 1) := by decide +kernel
theorem dL_law_1276 : decode code 1276 = .ok (.iload_n 3, 1) := dLg_119.1
theorem dL_law_1277 : decode code 1277 = .ok (.iconst 1, 1) := dLg_119.2.1
theorem dL_law_1278 : decode code 1278 = .ok (.iadd, 1) := dLg_119.2.2.1
theorem dL_law_1279 : decode code 1279 = .ok (.iaload, 1) := dLg_119.2.2.2.1
theorem dL_law_1280 : decode code 1280 = .ok (.aload_n 0, 1) := dLg_119.2.2.2.2.1
theorem dL_law_1281 : decode code 1281 = .ok (.iload_n 3, 1) := dLg_119.2.2.2.2.2.1
theorem dL_law_1282 : decode code 1282 = .ok (.iconst 2, 1) := dLg_119.2.2.2.2.2.2.1
theorem dL_law_1283 : decode code 1283 = .ok (.iadd, 1) := dLg_119.2.2.2.2.2.2.2
theorem dLg_120 : decode code 1284 = .ok (.iaload, 1) ∧ decode code 1285 = .ok (.aload_n 0, 1) ∧ decode code 1286 = .ok (.iload_n 3, 1) ∧ decode code 1287 = .ok (.iconst 3, 1) ∧ decode code 1288 = .ok (.iadd, 1) ∧ decode code 1289 = .ok (.iaload, 1) ∧ decode code 1290 = .ok (.aload_n 0, 1) ∧ decode code 1291 = .ok (.iload_n 3, 1) := by decide +kernel
theorem dL_law_1284 : decode code 1284 = .ok (.iaload, 1) := dLg_120.1
theorem dL_law_1285 : decode code 1285 = .ok (.aload_n 0, 1) := dLg_120.2.1
theorem dL_law_1286 : decode code 1286 = .ok (.iload_n 3, 1) := dLg_120.2.2.1
theorem dL_law_1287 : decode code 1287 = .ok (.iconst 3, 1) := dLg_120.2.2.2.1
theorem dL_law_1288 : decode code 1288 = .ok (.iadd, 1) := dLg_120.2.2.2.2.1
theorem dL_law_1289 : decode code 1289 = .ok (.iaload, 1) := dLg_120.2.2.2.2.2.1
theorem dL_law_1290 : decode code 1290 = .ok (.aload_n 0, 1) := dLg_120.2.2.2.2.2.2.1
theorem dL_law_1291 : decode code 1291 = .ok (.iload_n 3, 1) := dLg_120.2.2.2.2.2.2.2
theorem dLg_121 : decode code 1292 = .ok (.iconst 4, 1) ∧ decode code 1293 = .ok (.iadd, 1) ∧ decode code 1294 = .ok (.iaload, 1) ∧ decode code 1295 = .ok (.aload_n 0, 1) ∧ decode code 1296 = .ok (.iload_n 3, 1) ∧ decode code 1297 = .ok (.iconst 5, 1) ∧ decode code 1298 = .ok (.iadd, 1) ∧ decode code 1299 = .ok (.iaload, 1) := by decide +kernel
theorem dL_law_1292 : decode code 1292 = .ok (.iconst 4, 1) := dLg_121.1
theorem dL_law_1293 : decode code 1293 = .ok (.iadd, 1) := dLg_121.2.1
theorem dL_law_1294 : decode code 1294 = .ok (.iaload, 1) := dLg_121.2.2.1
theorem dL_law_1295 : decode code 1295 = .ok (.aload_n 0, 1) := dLg_121.2.2.2.1
theorem dL_law_1296 : decode code 1296 = .ok (.iload_n 3, 1) := dLg_121.2.2.2.2.1
theorem dL_law_1297 : decode code 1297 = .ok (.iconst 5, 1) := dLg_121.2.2.2.2.2.1
theorem dL_law_1298 : decode code 1298 = .ok (.iadd, 1) := dLg_121.2.2.2.2.2.2.1
theorem dL_law_1299 : decode code 1299 = .ok (.iaload, 1) := dLg_121.2.2.2.2.2.2.2
theorem dLg_122 : decode code 1300 = .ok (.invokevirtual 128, 3) ∧ decode code 1303 = .ok (.pop2, 1) ∧ decode code 1304 = .ok (.aload_n 2, 1) ∧ decode code 1305 = .ok (.aload_n 0, 1) ∧ decode code 1306 = .ok (.iload_n 3, 1) ∧ decode code 1307 = .ok (.iconst 1, 1) ∧ decode code 1308 = .ok (.iadd, 1) ∧ decode code 1309 = .ok (.iaload, 1) := by decide +kernel
theorem dL_law_1300 : decode code 1300 = .ok (.invokevirtual 128, 3) := dLg_122.1
theorem dL_law_1303 : decode code 1303 = .ok (.pop2, 1) := dLg_122.2.1
theorem dL_law_1304 : decode code 1304 = .ok (.aload_n 2, 1) := dLg_122.2.2.1
theorem dL_law_1305 : decode code 1305 = .ok (.aload_n 0, 1) := dLg_122.2.2.2.1
theorem dL_law_1306 : decode code 1306 = .ok (.iload_n 3, 1) := dLg_122.2.2.2.2.1
theorem dL_law_1307 : decode code 1307 = .ok (.iconst 1, 1) := dLg_122.2.2.2.2.2.1
theorem dL_law_1308 : decode code 1308 = .ok (.iadd, 1) := dLg_122.2.2.2.2.2.2.1
theorem dL_law_1309 : decode code 1309 = .ok (.iaload, 1) := dLg_122.2.2.2.2.2.2.2
theorem dLg_123 : decode code 1310 = .ok (.aload_n 0, 1) ∧ decode code 1311 = .ok (.iload_n 3, 1) ∧ decode code 1312 = .ok (.iconst 2, 1) ∧ decode code 1313 = .ok (.iadd, 1) ∧ decode code 1314 = .ok (.iaload, 1) ∧ decode code 1315 = .ok (.aload_n 0, 1) ∧ decode code 1316 = .ok (.iload_n 3, 1) ∧ decode code 1317 = .ok (.iconst 3, 1) := by decide +kernel
theorem dL_law_1310 : decode code 1310 = .ok (.aload_n 0, 1) := dLg_123.1
theorem dL_law_1311 : decode code 1311 = .ok (.iload_n 3, 1) := dLg_123.2.1
theorem dL_law_1312 : decode code 1312 = .ok (.iconst 2, 1) := dLg_123.2.2.1
theorem dL_law_1313 : decode code 1313 = .ok (.iadd, 1) := dLg_123.2.2.2.1
theorem dL_law_1314 : decode code 1314 = .ok (.iaload, 1) := dLg_123.2.2.2.2.1
theorem dL_law_1315 : decode code 1315 = .ok (.aload_n 0, 1) := dLg_123.2.2.2.2.2.1
theorem dL_law_1316 : decode code 1316 = .ok (.iload_n 3, 1) := dLg_123.2.2.2.2.2.2.1
theorem dL_law_1317 : decode code 1317 = .ok (.iconst 3, 1) := dLg_123.2.2.2.2.2.2.2
theorem dLg_124 : decode code 1318 = .ok (.iadd, 1) ∧ decode code 1319 = .ok (.iaload, 1) ∧ decode code 1320 = .ok (.aload_n 0, 1) ∧ decode code 1321 = .ok (.iload_n 3, 1) ∧ decode code 1322 = .ok (.iconst 4, 1) ∧ decode code 1323 = .ok (.iadd, 1) ∧ decode code 1324 = .ok (.iaload, 1) ∧ decode code 1325 = .ok (.aload_n 0, 1) := by decide +kernel
theorem dL_law_1318 : decode code 1318 = .ok (.iadd, 1) := dLg_124.1
theorem dL_law_1319 : decode code 1319 = .ok (.iaload, 1) := dLg_124.2.1
theorem dL_law_1320 : decode code 1320 = .ok (.aload_n 0, 1) := dLg_124.2.2.1
theorem dL_law_1321 : decode code 1321 = .ok (.iload_n 3, 1) := dLg_124.2.2.2.1
theorem dL_law_1322 : decode code 1322 = .ok (.iconst 4, 1) := dLg_124.2.2.2.2.1
theorem dL_law_1323 : decode code 1323 = .ok (.iadd, 1) := dLg_124.2.2.2.2.2.1
theorem dL_law_1324 : decode code 1324 = .ok (.iaload, 1) := dLg_124.2.2.2.2.2.2.1
theorem dL_law_1325 : decode code 1325 = .ok (.aload_n 0, 1) := dLg_124.2.2.2.2.2.2.2
theorem dLg_125 : decode code 1326 = .ok (.iload_n 3, 1) ∧ decode code 1327 = .ok (.iconst 5, 1) ∧ decode code 1328 = .ok (.iadd, 1) ∧ decode code 1329 = .ok (.iaload, 1) ∧ decode code 1330 = .ok (.invokevirtual 131, 3) ∧ decode code 1333 = .ok (.pop2, 1) ∧ decode code 1334 = .ok (.goto 161, 3) ∧ decode code 1337 = .ok (.aload_n 1, 1) := by decide +kernel
theorem dL_law_1326 : decode code 1326 = .ok (.iload_n 3, 1) := dLg_125.1
theorem dL_law_1327 : decode code 1327 = .ok (.iconst 5, 1) := dLg_125.2.1
theorem dL_law_1328 : decode code 1328 = .ok (.iadd, 1) := dLg_125.2.2.1
theorem dL_law_1329 : decode code 1329 = .ok (.iaload, 1) := dLg_125.2.2.2.1
theorem dL_law_1330 : decode code 1330 = .ok (.invokevirtual 131, 3) := dLg_125.2.2.2.2.1
theorem dL_law_1333 : decode code 1333 = .ok (.pop2, 1) := dLg_125.2.2.2.2.2.1
theorem dL_law_1334 : decode code 1334 = .ok (.goto 161, 3) := dLg_125.2.2.2.2.2.2.1
theorem dL_law_1337 : decode code 1337 = .ok (.aload_n 1, 1) := dLg_125.2.2.2.2.2.2.2
theorem dLg_126 : decode code 1338 = .ok (.aload_n 0, 1) ∧ decode code 1339 = .ok (.iload_n 3, 1) ∧ decode code 1340 = .ok (.iconst 1, 1) ∧ decode code 1341 = .ok (.iadd, 1) ∧ decode code 1342 = .ok (.iaload, 1) ∧ decode code 1343 = .ok (.aload_n 0, 1) ∧ decode code 1344 = .ok (.iload_n 3, 1) ∧ decode code 1345 = .ok (.iconst 2, 1) := by decide +kernel
theorem dL_law_1338 : decode code 1338 = .ok (.aload_n 0, 1) := dLg_126.1
theorem dL_law_1339 : decode code 1339 = .ok (.iload_n 3, 1) := dLg_126.2.1
theorem dL_law_1340 : decode code 1340 = .ok (.iconst 1, 1) := dLg_126.2.2.1
theorem dL_law_1341 : decode code 1341 = .ok (.iadd, 1) := dLg_126.2.2.2.1
theorem dL_law_1342 : decode code 1342 = .ok (.iaload, 1) := dLg_126.2.2.2.2.1
theorem dL_law_1343 : decode code 1343 = .ok (.aload_n 0, 1) := dLg_126.2.2.2.2.2.1
theorem dL_law_1344 : decode code 1344 = .ok (.iload_n 3, 1) := dLg_126.2.2.2.2.2.2.1
theorem dL_law_1345 : decode code 1345 = .ok (.iconst 2, 1) := dLg_126.2.2.2.2.2.2.2
theorem dLg_127 : decode code 1346 = .ok (.iadd, 1) ∧ decode code 1347 = .ok (.iaload, 1) ∧ decode code 1348 = .ok (.aload_n 0, 1) ∧ decode code 1349 = .ok (.iload_n 3, 1) ∧ decode code 1350 = .ok (.iconst 3, 1) ∧ decode code 1351 = .ok (.iadd, 1) ∧ decode code 1352 = .ok (.iaload, 1) ∧ decode code 1353 = .ok (.aload_n 0, 1) := by decide +kernel
theorem dL_law_1346 : decode code 1346 = .ok (.iadd, 1) := dLg_127.1
theorem dL_law_1347 : decode code 1347 = .ok (.iaload, 1) := dLg_127.2.1
theorem dL_law_1348 : decode code 1348 = .ok (.aload_n 0, 1) := dLg_127.2.2.1
theorem dL_law_1349 : decode code 1349 = .ok (.iload_n 3, 1) := dLg_127.2.2.2.1
theorem dL_law_1350 : decode code 1350 = .ok (.iconst 3, 1) := dLg_127.2.2.2.2.1
theorem dL_law_1351 : decode code 1351 = .ok (.iadd, 1) := dLg_127.2.2.2.2.2.1
theorem dL_law_1352 : decode code 1352 = .ok (.iaload, 1) := dLg_127.2.2.2.2.2.2.1
theorem dL_law_1353 : decode code 1353 = .ok (.aload_n 0, 1) := dLg_127.2.2.2.2.2.2.2
theorem dLg_128 : decode code 1354 = .ok (.iload_n 3, 1) ∧ decode code 1355 = .ok (.iconst 4, 1) ∧ decode code 1356 = .ok (.iadd, 1) ∧ decode code 1357 = .ok (.iaload, 1) ∧ decode code 1358 = .ok (.invokevirtual 132, 3) ∧ decode code 1361 = .ok (.pop2, 1) ∧ decode code 1362 = .ok (.aload_n 2, 1) ∧ decode code 1363 = .ok (.aload_n 0, 1) := by decide +kernel
theorem dL_law_1354 : decode code 1354 = .ok (.iload_n 3, 1) := dLg_128.1
theorem dL_law_1355 : decode code 1355 = .ok (.iconst 4, 1) := dLg_128.2.1
theorem dL_law_1356 : decode code 1356 = .ok (.iadd, 1) := dLg_128.2.2.1
theorem dL_law_1357 : decode code 1357 = .ok (.iaload, 1) := dLg_128.2.2.2.1
theorem dL_law_1358 : decode code 1358 = .ok (.invokevirtual 132, 3) := dLg_128.2.2.2.2.1
theorem dL_law_1361 : decode code 1361 = .ok (.pop2, 1) := dLg_128.2.2.2.2.2.1
theorem dL_law_1362 : decode code 1362 = .ok (.aload_n 2, 1) := dLg_128.2.2.2.2.2.2.1
theorem dL_law_1363 : decode code 1363 = .ok (.aload_n 0, 1) := dLg_128.2.2.2.2.2.2.2
theorem dLg_129 : decode code 1364 = .ok (.iload_n 3, 1) ∧ decode code 1365 = .ok (.iconst 1, 1) ∧ decode code 1366 = .ok (.iadd, 1) ∧ decode code 1367 = .ok (.iaload, 1) ∧ decode code 1368 = .ok (.aload_n 0, 1) ∧ decode code 1369 = .ok (.iload_n 3, 1) ∧ decode code 1370 = .ok (.iconst 2, 1) ∧ decode code 1371 = .ok (.iadd, 1) := by decide +kernel
theorem dL_law_1364 : decode code 1364 = .ok (.iload_n 3, 1) := dLg_129.1
theorem dL_law_1365 : decode code 1365 = .ok (.iconst 1, 1) := dLg_129.2.1
theorem dL_law_1366 : decode code 1366 = .ok (.iadd, 1) := dLg_129.2.2.1
theorem dL_law_1367 : decode code 1367 = .ok (.iaload, 1) := dLg_129.2.2.2.1
theorem dL_law_1368 : decode code 1368 = .ok (.aload_n 0, 1) := dLg_129.2.2.2.2.1
theorem dL_law_1369 : decode code 1369 = .ok (.iload_n 3, 1) := dLg_129.2.2.2.2.2.1
theorem dL_law_1370 : decode code 1370 = .ok (.iconst 2, 1) := dLg_129.2.2.2.2.2.2.1
theorem dL_law_1371 : decode code 1371 = .ok (.iadd, 1) := dLg_129.2.2.2.2.2.2.2
theorem dLg_130 : decode code 1372 = .ok (.iaload, 1) ∧ decode code 1373 = .ok (.aload_n 0, 1) ∧ decode code 1374 = .ok (.iload_n 3, 1) ∧ decode code 1375 = .ok (.iconst 3, 1) ∧ decode code 1376 = .ok (.iadd, 1) ∧ decode code 1377 = .ok (.iaload, 1) ∧ decode code 1378 = .ok (.aload_n 0, 1) ∧ decode code 1379 = .ok (.iload_n 3, 1) := by decide +kernel
theorem dL_law_1372 : decode code 1372 = .ok (.iaload, 1) := dLg_130.1
theorem dL_law_1373 : decode code 1373 = .ok (.aload_n 0, 1) := dLg_130.2.1
theorem dL_law_1374 : decode code 1374 = .ok (.iload_n 3, 1) := dLg_130.2.2.1
theorem dL_law_1375 : decode code 1375 = .ok (.iconst 3, 1) := dLg_130.2.2.2.1
theorem dL_law_1376 : decode code 1376 = .ok (.iadd, 1) := dLg_130.2.2.2.2.1
theorem dL_law_1377 : decode code 1377 = .ok (.iaload, 1) := dLg_130.2.2.2.2.2.1
theorem dL_law_1378 : decode code 1378 = .ok (.aload_n 0, 1) := dLg_130.2.2.2.2.2.2.1
theorem dL_law_1379 : decode code 1379 = .ok (.iload_n 3, 1) := dLg_130.2.2.2.2.2.2.2
theorem dLg_131 : decode code 1380 = .ok (.iconst 4, 1) ∧ decode code 1381 = .ok (.iadd, 1) ∧ decode code 1382 = .ok (.iaload, 1) ∧ decode code 1383 = .ok (.invokevirtual 135, 3) ∧ decode code 1386 = .ok (.pop2, 1) ∧ decode code 1387 = .ok (.goto 108, 3) ∧ decode code 1390 = .ok (.aload_n 1, 1) ∧ decode code 1391 = .ok (.aload_n 0, 1) := by decide +kernel
theorem dL_law_1380 : decode code 1380 = .ok (.iconst 4, 1) := dLg_131.1
theorem dL_law_1381 : decode code 1381 = .ok (.iadd, 1) := dLg_131.2.1
theorem dL_law_1382 : decode code 1382 = .ok (.iaload, 1) := dLg_131.2.2.1
theorem dL_law_1383 : decode code 1383 = .ok (.invokevirtual 135, 3) := dLg_131.2.2.2.1
theorem dL_law_1386 : decode code 1386 = .ok (.pop2, 1) := dLg_131.2.2.2.2.1
theorem dL_law_1387 : decode code 1387 = .ok (.goto 108, 3) := dLg_131.2.2.2.2.2.1
theorem dL_law_1390 : decode code 1390 = .ok (.aload_n 1, 1) := dLg_131.2.2.2.2.2.2.1
theorem dL_law_1391 : decode code 1391 = .ok (.aload_n 0, 1) := dLg_131.2.2.2.2.2.2.2
theorem dLg_132 : decode code 1392 = .ok (.iload_n 3, 1) ∧ decode code 1393 = .ok (.iconst 1, 1) ∧ decode code 1394 = .ok (.iadd, 1) ∧ decode code 1395 = .ok (.iaload, 1) ∧ decode code 1396 = .ok (.invokevirtual 136, 3) ∧ decode code 1399 = .ok (.pop, 1) ∧ decode code 1400 = .ok (.aload_n 2, 1) ∧ decode code 1401 = .ok (.aload_n 0, 1) := by decide +kernel
theorem dL_law_1392 : decode code 1392 = .ok (.iload_n 3, 1) := dLg_132.1
theorem dL_law_1393 : decode code 1393 = .ok (.iconst 1, 1) := dLg_132.2.1
theorem dL_law_1394 : decode code 1394 = .ok (.iadd, 1) := dLg_132.2.2.1
theorem dL_law_1395 : decode code 1395 = .ok (.iaload, 1) := dLg_132.2.2.2.1
theorem dL_law_1396 : decode code 1396 = .ok (.invokevirtual 136, 3) := dLg_132.2.2.2.2.1
theorem dL_law_1399 : decode code 1399 = .ok (.pop, 1) := dLg_132.2.2.2.2.2.1
theorem dL_law_1400 : decode code 1400 = .ok (.aload_n 2, 1) := dLg_132.2.2.2.2.2.2.1
theorem dL_law_1401 : decode code 1401 = .ok (.aload_n 0, 1) := dLg_132.2.2.2.2.2.2.2
theorem dLg_133 : decode code 1402 = .ok (.iload_n 3, 1) ∧ decode code 1403 = .ok (.iconst 1, 1) ∧ decode code 1404 = .ok (.iadd, 1) ∧ decode code 1405 = .ok (.iaload, 1) ∧ decode code 1406 = .ok (.invokevirtual 140, 3) ∧ decode code 1409 = .ok (.pop, 1) ∧ decode code 1410 = .ok (.goto 85, 3) ∧ decode code 1413 = .ok (.aload_n 1, 1) := by decide +kernel
theorem dL_law_1402 : decode code 1402 = .ok (.iload_n 3, 1) := dLg_133.1
theorem dL_law_1403 : decode code 1403 = .ok (.iconst 1, 1) := dLg_133.2.1
theorem dL_law_1404 : decode code 1404 = .ok (.iadd, 1) := dLg_133.2.2.1
theorem dL_law_1405 : decode code 1405 = .ok (.iaload, 1) := dLg_133.2.2.2.1
theorem dL_law_1406 : decode code 1406 = .ok (.invokevirtual 140, 3) := dLg_133.2.2.2.2.1
theorem dL_law_1409 : decode code 1409 = .ok (.pop, 1) := dLg_133.2.2.2.2.2.1
theorem dL_law_1410 : decode code 1410 = .ok (.goto 85, 3) := dLg_133.2.2.2.2.2.2.1
theorem dL_law_1413 : decode code 1413 = .ok (.aload_n 1, 1) := dLg_133.2.2.2.2.2.2.2
theorem dLg_134 : decode code 1414 = .ok (.invokevirtual 141, 3) ∧ decode code 1417 = .ok (.pop, 1) ∧ decode code 1418 = .ok (.aload_n 2, 1) ∧ decode code 1419 = .ok (.invokevirtual 145, 3) ∧ decode code 1422 = .ok (.pop, 1) ∧ decode code 1423 = .ok (.goto 72, 3) ∧ decode code 1426 = .ok (.aload_n 1, 1) ∧ decode code 1427 = .ok (.invokevirtual 146, 3) := by decide +kernel
theorem dL_law_1414 : decode code 1414 = .ok (.invokevirtual 141, 3) := dLg_134.1
theorem dL_law_1417 : decode code 1417 = .ok (.pop, 1) := dLg_134.2.1
theorem dL_law_1418 : decode code 1418 = .ok (.aload_n 2, 1) := dLg_134.2.2.1
theorem dL_law_1419 : decode code 1419 = .ok (.invokevirtual 145, 3) := dLg_134.2.2.2.1
theorem dL_law_1422 : decode code 1422 = .ok (.pop, 1) := dLg_134.2.2.2.2.1
theorem dL_law_1423 : decode code 1423 = .ok (.goto 72, 3) := dLg_134.2.2.2.2.2.1
theorem dL_law_1426 : decode code 1426 = .ok (.aload_n 1, 1) := dLg_134.2.2.2.2.2.2.1
theorem dL_law_1427 : decode code 1427 = .ok (.invokevirtual 146, 3) := dLg_134.2.2.2.2.2.2.2
theorem dLg_135 : decode code 1430 = .ok (.pop, 1) ∧ decode code 1431 = .ok (.aload_n 2, 1) ∧ decode code 1432 = .ok (.invokevirtual 150, 3) ∧ decode code 1435 = .ok (.pop, 1) ∧ decode code 1436 = .ok (.goto 59, 3) ∧ decode code 1439 = .ok (.aload_n 1, 1) ∧ decode code 1440 = .ok (.aload_n 0, 1) ∧ decode code 1441 = .ok (.iload_n 3, 1) := by decide +kernel
theorem dL_law_1430 : decode code 1430 = .ok (.pop, 1) := dLg_135.1
theorem dL_law_1431 : decode code 1431 = .ok (.aload_n 2, 1) := dLg_135.2.1
theorem dL_law_1432 : decode code 1432 = .ok (.invokevirtual 150, 3) := dLg_135.2.2.1
theorem dL_law_1435 : decode code 1435 = .ok (.pop, 1) := dLg_135.2.2.2.1
theorem dL_law_1436 : decode code 1436 = .ok (.goto 59, 3) := dLg_135.2.2.2.2.1
theorem dL_law_1439 : decode code 1439 = .ok (.aload_n 1, 1) := dLg_135.2.2.2.2.2.1
theorem dL_law_1440 : decode code 1440 = .ok (.aload_n 0, 1) := dLg_135.2.2.2.2.2.2.1
theorem dL_law_1441 : decode code 1441 = .ok (.iload_n 3, 1) := dLg_135.2.2.2.2.2.2.2
theorem dLg_136 : decode code 1442 = .ok (.iconst 1, 1) ∧ decode code 1443 = .ok (.iadd, 1) ∧ decode code 1444 = .ok (.iaload, 1) ∧ decode code 1445 = .ok (.aload_n 0, 1) ∧ decode code 1446 = .ok (.iload_n 3, 1) ∧ decode code 1447 = .ok (.iconst 2, 1) ∧ decode code 1448 = .ok (.iadd, 1) ∧ decode code 1449 = .ok (.iaload, 1) := by decide +kernel
theorem dL_law_1442 : decode code 1442 = .ok (.iconst 1, 1) := dLg_136.1
theorem dL_law_1443 : decode code 1443 = .ok (.iadd, 1) := dLg_136.2.1
theorem dL_law_1444 : decode code 1444 = .ok (.iaload, 1) := dLg_136.2.2.1
theorem dL_law_1445 : decode code 1445 = .ok (.aload_n 0, 1) := dLg_136.2.2.2.1
theorem dL_law_1446 : decode code 1446 = .ok (.iload_n 3, 1) := dLg_136.2.2.2.2.1
theorem dL_law_1447 : decode code 1447 = .ok (.iconst 2, 1) := dLg_136.2.2.2.2.2.1
theorem dL_law_1448 : decode code 1448 = .ok (.iadd, 1) := dLg_136.2.2.2.2.2.2.1
theorem dL_law_1449 : decode code 1449 = .ok (.iaload, 1) := dLg_136.2.2.2.2.2.2.2
theorem dLg_137 : decode code 1450 = .ok (.invokevirtual 151, 3) ∧ decode code 1453 = .ok (.pop, 1) ∧ decode code 1454 = .ok (.aload_n 2, 1) ∧ decode code 1455 = .ok (.aload_n 0, 1) ∧ decode code 1456 = .ok (.iload_n 3, 1) ∧ decode code 1457 = .ok (.iconst 1, 1) ∧ decode code 1458 = .ok (.iadd, 1) ∧ decode code 1459 = .ok (.iaload, 1) := by decide +kernel
theorem dL_law_1450 : decode code 1450 = .ok (.invokevirtual 151, 3) := dLg_137.1
theorem dL_law_1453 : decode code 1453 = .ok (.pop, 1) := dLg_137.2.1
theorem dL_law_1454 : decode code 1454 = .ok (.aload_n 2, 1) := dLg_137.2.2.1
theorem dL_law_1455 : decode code 1455 = .ok (.aload_n 0, 1) := dLg_137.2.2.2.1
theorem dL_law_1456 : decode code 1456 = .ok (.iload_n 3, 1) := dLg_137.2.2.2.2.1
theorem dL_law_1457 : decode code 1457 = .ok (.iconst 1, 1) := dLg_137.2.2.2.2.2.1
theorem dL_law_1458 : decode code 1458 = .ok (.iadd, 1) := dLg_137.2.2.2.2.2.2.1
theorem dL_law_1459 : decode code 1459 = .ok (.iaload, 1) := dLg_137.2.2.2.2.2.2.2
theorem dLg_138 : decode code 1460 = .ok (.aload_n 0, 1) ∧ decode code 1461 = .ok (.iload_n 3, 1) ∧ decode code 1462 = .ok (.iconst 2, 1) ∧ decode code 1463 = .ok (.iadd, 1) ∧ decode code 1464 = .ok (.iaload, 1) ∧ decode code 1465 = .ok (.invokevirtual 154, 3) ∧ decode code 1468 = .ok (.pop, 1) ∧ decode code 1469 = .ok (.goto 26, 3) := by decide +kernel
theorem dL_law_1460 : decode code 1460 = .ok (.aload_n 0, 1) := dLg_138.1
theorem dL_law_1461 : decode code 1461 = .ok (.iload_n 3, 1) := dLg_138.2.1
theorem dL_law_1462 : decode code 1462 = .ok (.iconst 2, 1) := dLg_138.2.2.1
theorem dL_law_1463 : decode code 1463 = .ok (.iadd, 1) := dLg_138.2.2.2.1
theorem dL_law_1464 : decode code 1464 = .ok (.iaload, 1) := dLg_138.2.2.2.2.1
theorem dL_law_1465 : decode code 1465 = .ok (.invokevirtual 154, 3) := dLg_138.2.2.2.2.2.1
theorem dL_law_1468 : decode code 1468 = .ok (.pop, 1) := dLg_138.2.2.2.2.2.2.1
theorem dL_law_1469 : decode code 1469 = .ok (.goto 26, 3) := dLg_138.2.2.2.2.2.2.2
theorem dLg_139 : decode code 1472 = .ok (.aload_n 1, 1) ∧ decode code 1473 = .ok (.aload_n 0, 1) ∧ decode code 1474 = .ok (.iload_n 3, 1) ∧ decode code 1475 = .ok (.iconst 1, 1) ∧ decode code 1476 = .ok (.iadd, 1) ∧ decode code 1477 = .ok (.iaload, 1) ∧ decode code 1478 = .ok (.invokevirtual 155, 3) ∧ decode code 1481 = .ok (.pop, 1) := by decide +kernel
theorem dL_law_1472 : decode code 1472 = .ok (.aload_n 1, 1) := dLg_139.1
theorem dL_law_1473 : decode code 1473 = .ok (.aload_n 0, 1) := dLg_139.2.1
theorem dL_law_1474 : decode code 1474 = .ok (.iload_n 3, 1) := dLg_139.2.2.1
theorem dL_law_1475 : decode code 1475 = .ok (.iconst 1, 1) := dLg_139.2.2.2.1
theorem dL_law_1476 : decode code 1476 = .ok (.iadd, 1) := dLg_139.2.2.2.2.1
theorem dL_law_1477 : decode code 1477 = .ok (.iaload, 1) := dLg_139.2.2.2.2.2.1
theorem dL_law_1478 : decode code 1478 = .ok (.invokevirtual 155, 3) := dLg_139.2.2.2.2.2.2.1
theorem dL_law_1481 : decode code 1481 = .ok (.pop, 1) := dLg_139.2.2.2.2.2.2.2
theorem dLg_140 : decode code 1482 = .ok (.aload_n 2, 1) ∧ decode code 1483 = .ok (.aload_n 0, 1) ∧ decode code 1484 = .ok (.iload_n 3, 1) ∧ decode code 1485 = .ok (.iconst 1, 1) ∧ decode code 1486 = .ok (.iadd, 1) ∧ decode code 1487 = .ok (.iaload, 1) ∧ decode code 1488 = .ok (.invokevirtual 158, 3) ∧ decode code 1491 = .ok (.pop, 1) := by decide +kernel
theorem dL_law_1482 : decode code 1482 = .ok (.aload_n 2, 1) := dLg_140.1
theorem dL_law_1483 : decode code 1483 = .ok (.aload_n 0, 1) := dLg_140.2.1
theorem dL_law_1484 : decode code 1484 = .ok (.iload_n 3, 1) := dLg_140.2.2.1
theorem dL_law_1485 : decode code 1485 = .ok (.iconst 1, 1) := dLg_140.2.2.2.1
theorem dL_law_1486 : decode code 1486 = .ok (.iadd, 1) := dLg_140.2.2.2.2.1
theorem dL_law_1487 : decode code 1487 = .ok (.iaload, 1) := dLg_140.2.2.2.2.2.1
theorem dL_law_1488 : decode code 1488 = .ok (.invokevirtual 158, 3) := dLg_140.2.2.2.2.2.2.1
theorem dL_law_1491 : decode code 1491 = .ok (.pop, 1) := dLg_140.2.2.2.2.2.2.2
theorem dLg_141 : decode code 1492 = .ok (.goto 3, 3) ∧ decode code 1495 = .ok (.iinc 3 6, 3) ∧ decode code 1498 = .ok (.goto (-1480), 3) ∧ decode code 1501 = .ok (.iconst 1, 1) ∧ decode code 1502 = .ok (.ireturn, 1) := by decide +kernel
theorem dL_law_1492 : decode code 1492 = .ok (.goto 3, 3) := dLg_141.1
theorem dL_law_1495 : decode code 1495 = .ok (.iinc 3 6, 3) := dLg_141.2.1
theorem dL_law_1498 : decode code 1498 = .ok (.goto (-1480), 3) := dLg_141.2.2.1
theorem dL_law_1501 : decode code 1501 = .ok (.iconst 1, 1) := dLg_141.2.2.2.1
theorem dL_law_1502 : decode code 1502 = .ok (.ireturn, 1) := dLg_141.2.2.2.2
