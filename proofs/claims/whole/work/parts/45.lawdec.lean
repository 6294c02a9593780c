theorem dLg_0 : (decode cL_law 0 = .ok (.new 7, 3)) ∧ (decode cL_law 3 = .ok (.dup, 1)) ∧ (decode cL_law 4 = .ok (.invokespecial 9, 3)) ∧ (decode cL_law 7 = .ok (.astore_n 1, 1)) ∧ (decode cL_law 8 = .ok (.new 10, 3)) ∧ (decode cL_law 11 = .ok (.dup, 1)) ∧ (decode cL_law 12 = .ok (.invokespecial 12, 3)) ∧ (decode cL_law 15 = .ok (.astore_n 2, 1)) ∧ (decode cL_law 16 = .ok (.iconst 0, 1)) ∧ (decode cL_law 17 = .ok (.istore_n 3, 1)) ∧ (decode cL_law 18 = .ok (.iload_n 3, 1)) ∧ (decode cL_law 19 = .ok (.aload_n 0, 1)) := by decide +kernel
theorem dL_law_0 : decode cL_law 0 = .ok (.new 7, 3) := dLg_0.1
theorem dL_law_3 : decode cL_law 3 = .ok (.dup, 1) := dLg_0.2.1
theorem dL_law_4 : decode cL_law 4 = .ok (.invokespecial 9, 3) := dLg_0.2.2.1
theorem dL_law_7 : decode cL_law 7 = .ok (.astore_n 1, 1) := dLg_0.2.2.2.1
theorem dL_law_8 : decode cL_law 8 = .ok (.new 10, 3) := dLg_0.2.2.2.2.1
theorem dL_law_11 : decode cL_law 11 = .ok (.dup, 1) := dLg_0.2.2.2.2.2.1
theorem dL_law_12 : decode cL_law 12 = .ok (.invokespecial 12, 3) := dLg_0.2.2.2.2.2.2.1
theorem dL_law_15 : decode cL_law 15 = .ok (.astore_n 2, 1) := dLg_0.2.2.2.2.2.2.2.1
theorem dL_law_16 : decode cL_law 16 = .ok (.iconst 0, 1) := dLg_0.2.2.2.2.2.2.2.2.1
theorem dL_law_17 : decode cL_law 17 = .ok (.istore_n 3, 1) := dLg_0.2.2.2.2.2.2.2.2.2.1
theorem dL_law_18 : decode cL_law 18 = .ok (.iload_n 3, 1) := dLg_0.2.2.2.2.2.2.2.2.2.2.1
theorem dL_law_19 : decode cL_law 19 = .ok (.aload_n 0, 1) := dLg_0.2.2.2.2.2.2.2.2.2.2.2
theorem dLg_1 : (decode cL_law 20 = .ok (.arraylength, 1)) ∧ (decode cL_law 21 = .ok (.bipush 6, 2)) ∧ (decode cL_law 23 = .ok (.isub, 1)) ∧ (decode cL_law 24 = .ok (.if_icmp .gt 1168, 3)) ∧ (decode cL_law 27 = .ok (.aload_n 0, 1)) ∧ (decode cL_law 28 = .ok (.iload_n 3, 1)) ∧ (decode cL_law 29 = .ok (.iaload, 1)) ∧ (decode cL_law 30 = .ok (.bipush 63, 2)) ∧ (decode cL_law 32 = .ok (.iand, 1)) ∧ (decode cL_law 33 = .ok (.tableswitch 1153 0 33 #[151, 194, 237, 300, 323, 346, 359, 372, 395, 418, 451, 484, 497, 510, 543, 576, 609, 622, 645, 678, 701, 734, 767, 830, 873, 916, 959, 982, 1005, 1028, 1061, 1094, 1117, 1140], 151)) := by decide +kernel
theorem dL_law_20 : decode cL_law 20 = .ok (.arraylength, 1) := dLg_1.1
theorem dL_law_21 : decode cL_law 21 = .ok (.bipush 6, 2) := dLg_1.2.1
theorem dL_law_23 : decode cL_law 23 = .ok (.isub, 1) := dLg_1.2.2.1
theorem dL_law_24 : decode cL_law 24 = .ok (.if_icmp .gt 1168, 3) := dLg_1.2.2.2.1
theorem dL_law_27 : decode cL_law 27 = .ok (.aload_n 0, 1) := dLg_1.2.2.2.2.1
theorem dL_law_28 : decode cL_law 28 = .ok (.iload_n 3, 1) := dLg_1.2.2.2.2.2.1
theorem dL_law_29 : decode cL_law 29 = .ok (.iaload, 1) := dLg_1.2.2.2.2.2.2.1
theorem dL_law_30 : decode cL_law 30 = .ok (.bipush 63, 2) := dLg_1.2.2.2.2.2.2.2.1
theorem dL_law_32 : decode cL_law 32 = .ok (.iand, 1) := dLg_1.2.2.2.2.2.2.2.2.1
theorem dL_law_33 : decode cL_law 33 = .ok (.tableswitch 1153 0 33 #[151, 194, 237, 300, 323, 346, 359, 372, 395, 418, 451, 484, 497, 510, 543, 576, 609, 622, 645, 678, 701, 734, 767, 830, 873, 916, 959, 982, 1005, 1028, 1061, 1094, 1117, 1140], 151) := dLg_1.2.2.2.2.2.2.2.2.2
theorem dLg_2 : (decode cL_law 184 = .ok (.aload_n 1, 1)) ∧ (decode cL_law 185 = .ok (.aload_n 0, 1)) ∧ (decode cL_law 186 = .ok (.iload_n 3, 1)) ∧ (decode cL_law 187 = .ok (.iconst 1, 1)) ∧ (decode cL_law 188 = .ok (.iadd, 1)) ∧ (decode cL_law 189 = .ok (.iaload, 1)) ∧ (decode cL_law 190 = .ok (.aload_n 0, 1)) ∧ (decode cL_law 191 = .ok (.iload_n 3, 1)) ∧ (decode cL_law 192 = .ok (.iconst 2, 1)) ∧ (decode cL_law 193 = .ok (.iadd, 1)) ∧ (decode cL_law 194 = .ok (.iaload, 1)) ∧ (decode cL_law 195 = .ok (.aload_n 0, 1)) := by decide +kernel
theorem dL_law_184 : decode cL_law 184 = .ok (.aload_n 1, 1) := dLg_2.1
theorem dL_law_185 : decode cL_law 185 = .ok (.aload_n 0, 1) := dLg_2.2.1
theorem dL_law_186 : decode cL_law 186 = .ok (.iload_n 3, 1) := dLg_2.2.2.1
theorem dL_law_187 : decode cL_law 187 = .ok (.iconst 1, 1) := dLg_2.2.2.2.1
theorem dL_law_188 : decode cL_law 188 = .ok (.iadd, 1) := dLg_2.2.2.2.2.1
theorem dL_law_189 : decode cL_law 189 = .ok (.iaload, 1) := dLg_2.2.2.2.2.2.1
theorem dL_law_190 : decode cL_law 190 = .ok (.aload_n 0, 1) := dLg_2.2.2.2.2.2.2.1
theorem dL_law_191 : decode cL_law 191 = .ok (.iload_n 3, 1) := dLg_2.2.2.2.2.2.2.2.1
theorem dL_law_192 : decode cL_law 192 = .ok (.iconst 2, 1) := dLg_2.2.2.2.2.2.2.2.2.1
theorem dL_law_193 : decode cL_law 193 = .ok (.iadd, 1) := dLg_2.2.2.2.2.2.2.2.2.2.1
theorem dL_law_194 : decode cL_law 194 = .ok (.iaload, 1) := dLg_2.2.2.2.2.2.2.2.2.2.2.1
theorem dL_law_195 : decode cL_law 195 = .ok (.aload_n 0, 1) := dLg_2.2.2.2.2.2.2.2.2.2.2.2
theorem dLg_3 : (decode cL_law 196 = .ok (.iload_n 3, 1)) ∧ (decode cL_law 197 = .ok (.iconst 3, 1)) ∧ (decode cL_law 198 = .ok (.iadd, 1)) ∧ (decode cL_law 199 = .ok (.iaload, 1)) ∧ (decode cL_law 200 = .ok (.invokevirtual 13, 3)) ∧ (decode cL_law 203 = .ok (.aload_n 2, 1)) ∧ (decode cL_law 204 = .ok (.aload_n 0, 1)) ∧ (decode cL_law 205 = .ok (.iload_n 3, 1)) ∧ (decode cL_law 206 = .ok (.iconst 1, 1)) ∧ (decode cL_law 207 = .ok (.iadd, 1)) ∧ (decode cL_law 208 = .ok (.iaload, 1)) ∧ (decode cL_law 209 = .ok (.aload_n 0, 1)) := by decide +kernel
theorem dL_law_196 : decode cL_law 196 = .ok (.iload_n 3, 1) := dLg_3.1
theorem dL_law_197 : decode cL_law 197 = .ok (.iconst 3, 1) := dLg_3.2.1
theorem dL_law_198 : decode cL_law 198 = .ok (.iadd, 1) := dLg_3.2.2.1
theorem dL_law_199 : decode cL_law 199 = .ok (.iaload, 1) := dLg_3.2.2.2.1
theorem dL_law_200 : decode cL_law 200 = .ok (.invokevirtual 13, 3) := dLg_3.2.2.2.2.1
theorem dL_law_203 : decode cL_law 203 = .ok (.aload_n 2, 1) := dLg_3.2.2.2.2.2.1
theorem dL_law_204 : decode cL_law 204 = .ok (.aload_n 0, 1) := dLg_3.2.2.2.2.2.2.1
theorem dL_law_205 : decode cL_law 205 = .ok (.iload_n 3, 1) := dLg_3.2.2.2.2.2.2.2.1
theorem dL_law_206 : decode cL_law 206 = .ok (.iconst 1, 1) := dLg_3.2.2.2.2.2.2.2.2.1
theorem dL_law_207 : decode cL_law 207 = .ok (.iadd, 1) := dLg_3.2.2.2.2.2.2.2.2.2.1
theorem dL_law_208 : decode cL_law 208 = .ok (.iaload, 1) := dLg_3.2.2.2.2.2.2.2.2.2.2.1
theorem dL_law_209 : decode cL_law 209 = .ok (.aload_n 0, 1) := dLg_3.2.2.2.2.2.2.2.2.2.2.2
theorem dLg_4 : (decode cL_law 210 = .ok (.iload_n 3, 1)) ∧ (decode cL_law 211 = .ok (.iconst 2, 1)) ∧ (decode cL_law 212 = .ok (.iadd, 1)) ∧ (decode cL_law 213 = .ok (.iaload, 1)) ∧ (decode cL_law 214 = .ok (.aload_n 0, 1)) ∧ (decode cL_law 215 = .ok (.iload_n 3, 1)) ∧ (decode cL_law 216 = .ok (.iconst 3, 1)) ∧ (decode cL_law 217 = .ok (.iadd, 1)) ∧ (decode cL_law 218 = .ok (.iaload, 1)) ∧ (decode cL_law 219 = .ok (.invokevirtual 17, 3)) ∧ (decode cL_law 222 = .ok (.if_icmp .eq 964, 3)) ∧ (decode cL_law 225 = .ok (.iconst 0, 1)) := by decide +kernel
theorem dL_law_210 : decode cL_law 210 = .ok (.iload_n 3, 1) := dLg_4.1
theorem dL_law_211 : decode cL_law 211 = .ok (.iconst 2, 1) := dLg_4.2.1
theorem dL_law_212 : decode cL_law 212 = .ok (.iadd, 1) := dLg_4.2.2.1
theorem dL_law_213 : decode cL_law 213 = .ok (.iaload, 1) := dLg_4.2.2.2.1
theorem dL_law_214 : decode cL_law 214 = .ok (.aload_n 0, 1) := dLg_4.2.2.2.2.1
theorem dL_law_215 : decode cL_law 215 = .ok (.iload_n 3, 1) := dLg_4.2.2.2.2.2.1
theorem dL_law_216 : decode cL_law 216 = .ok (.iconst 3, 1) := dLg_4.2.2.2.2.2.2.1
theorem dL_law_217 : decode cL_law 217 = .ok (.iadd, 1) := dLg_4.2.2.2.2.2.2.2.1
theorem dL_law_218 : decode cL_law 218 = .ok (.iaload, 1) := dLg_4.2.2.2.2.2.2.2.2.1
theorem dL_law_219 : decode cL_law 219 = .ok (.invokevirtual 17, 3) := dLg_4.2.2.2.2.2.2.2.2.2.1
theorem dL_law_222 : decode cL_law 222 = .ok (.if_icmp .eq 964, 3) := dLg_4.2.2.2.2.2.2.2.2.2.2.1
theorem dL_law_225 : decode cL_law 225 = .ok (.iconst 0, 1) := dLg_4.2.2.2.2.2.2.2.2.2.2.2
theorem dL_law_226 : decode cL_law 226 = .ok (.ireturn, 1) := by decide +kernel
theorem dLg_6 : (decode cL_law 227 = .ok (.aload_n 1, 1)) ∧ (decode cL_law 228 = .ok (.aload_n 0, 1)) ∧ (decode cL_law 229 = .ok (.iload_n 3, 1)) ∧ (decode cL_law 230 = .ok (.iconst 1, 1)) ∧ (decode cL_law 231 = .ok (.iadd, 1)) ∧ (decode cL_law 232 = .ok (.iaload, 1)) ∧ (decode cL_law 233 = .ok (.aload_n 0, 1)) ∧ (decode cL_law 234 = .ok (.iload_n 3, 1)) ∧ (decode cL_law 235 = .ok (.iconst 2, 1)) ∧ (decode cL_law 236 = .ok (.iadd, 1)) ∧ (decode cL_law 237 = .ok (.iaload, 1)) ∧ (decode cL_law 238 = .ok (.aload_n 0, 1)) := by decide +kernel
theorem dL_law_227 : decode cL_law 227 = .ok (.aload_n 1, 1) := dLg_6.1
theorem dL_law_228 : decode cL_law 228 = .ok (.aload_n 0, 1) := dLg_6.2.1
theorem dL_law_229 : decode cL_law 229 = .ok (.iload_n 3, 1) := dLg_6.2.2.1
theorem dL_law_230 : decode cL_law 230 = .ok (.iconst 1, 1) := dLg_6.2.2.2.1
theorem dL_law_231 : decode cL_law 231 = .ok (.iadd, 1) := dLg_6.2.2.2.2.1
theorem dL_law_232 : decode cL_law 232 = .ok (.iaload, 1) := dLg_6.2.2.2.2.2.1
theorem dL_law_233 : decode cL_law 233 = .ok (.aload_n 0, 1) := dLg_6.2.2.2.2.2.2.1
theorem dL_law_234 : decode cL_law 234 = .ok (.iload_n 3, 1) := dLg_6.2.2.2.2.2.2.2.1
theorem dL_law_235 : decode cL_law 235 = .ok (.iconst 2, 1) := dLg_6.2.2.2.2.2.2.2.2.1
theorem dL_law_236 : decode cL_law 236 = .ok (.iadd, 1) := dLg_6.2.2.2.2.2.2.2.2.2.1
theorem dL_law_237 : decode cL_law 237 = .ok (.iaload, 1) := dLg_6.2.2.2.2.2.2.2.2.2.2.1
theorem dL_law_238 : decode cL_law 238 = .ok (.aload_n 0, 1) := dLg_6.2.2.2.2.2.2.2.2.2.2.2
theorem dLg_7 : (decode cL_law 239 = .ok (.iload_n 3, 1)) ∧ (decode cL_law 240 = .ok (.iconst 3, 1)) ∧ (decode cL_law 241 = .ok (.iadd, 1)) ∧ (decode cL_law 242 = .ok (.iaload, 1)) ∧ (decode cL_law 243 = .ok (.invokevirtual 18, 3)) ∧ (decode cL_law 246 = .ok (.aload_n 2, 1)) ∧ (decode cL_law 247 = .ok (.aload_n 0, 1)) ∧ (decode cL_law 248 = .ok (.iload_n 3, 1)) ∧ (decode cL_law 249 = .ok (.iconst 1, 1)) ∧ (decode cL_law 250 = .ok (.iadd, 1)) ∧ (decode cL_law 251 = .ok (.iaload, 1)) ∧ (decode cL_law 252 = .ok (.aload_n 0, 1)) := by decide +kernel
theorem dL_law_239 : decode cL_law 239 = .ok (.iload_n 3, 1) := dLg_7.1
theorem dL_law_240 : decode cL_law 240 = .ok (.iconst 3, 1) := dLg_7.2.1
theorem dL_law_241 : decode cL_law 241 = .ok (.iadd, 1) := dLg_7.2.2.1
theorem dL_law_242 : decode cL_law 242 = .ok (.iaload, 1) := dLg_7.2.2.2.1
theorem dL_law_243 : decode cL_law 243 = .ok (.invokevirtual 18, 3) := dLg_7.2.2.2.2.1
theorem dL_law_246 : decode cL_law 246 = .ok (.aload_n 2, 1) := dLg_7.2.2.2.2.2.1
theorem dL_law_247 : decode cL_law 247 = .ok (.aload_n 0, 1) := dLg_7.2.2.2.2.2.2.1
theorem dL_law_248 : decode cL_law 248 = .ok (.iload_n 3, 1) := dLg_7.2.2.2.2.2.2.2.1
theorem dL_law_249 : decode cL_law 249 = .ok (.iconst 1, 1) := dLg_7.2.2.2.2.2.2.2.2.1
theorem dL_law_250 : decode cL_law 250 = .ok (.iadd, 1) := dLg_7.2.2.2.2.2.2.2.2.2.1
theorem dL_law_251 : decode cL_law 251 = .ok (.iaload, 1) := dLg_7.2.2.2.2.2.2.2.2.2.2.1
theorem dL_law_252 : decode cL_law 252 = .ok (.aload_n 0, 1) := dLg_7.2.2.2.2.2.2.2.2.2.2.2
theorem dLg_8 : (decode cL_law 253 = .ok (.iload_n 3, 1)) ∧ (decode cL_law 254 = .ok (.iconst 2, 1)) ∧ (decode cL_law 255 = .ok (.iadd, 1)) ∧ (decode cL_law 256 = .ok (.iaload, 1)) ∧ (decode cL_law 257 = .ok (.aload_n 0, 1)) ∧ (decode cL_law 258 = .ok (.iload_n 3, 1)) ∧ (decode cL_law 259 = .ok (.iconst 3, 1)) ∧ (decode cL_law 260 = .ok (.iadd, 1)) ∧ (decode cL_law 261 = .ok (.iaload, 1)) ∧ (decode cL_law 262 = .ok (.invokevirtual 21, 3)) ∧ (decode cL_law 265 = .ok (.if_icmp .eq 921, 3)) ∧ (decode cL_law 268 = .ok (.iconst 0, 1)) := by decide +kernel
theorem dL_law_253 : decode cL_law 253 = .ok (.iload_n 3, 1) := dLg_8.1
theorem dL_law_254 : decode cL_law 254 = .ok (.iconst 2, 1) := dLg_8.2.1
theorem dL_law_255 : decode cL_law 255 = .ok (.iadd, 1) := dLg_8.2.2.1
theorem dL_law_256 : decode cL_law 256 = .ok (.iaload, 1) := dLg_8.2.2.2.1
theorem dL_law_257 : decode cL_law 257 = .ok (.aload_n 0, 1) := dLg_8.2.2.2.2.1
theorem dL_law_258 : decode cL_law 258 = .ok (.iload_n 3, 1) := dLg_8.2.2.2.2.2.1
theorem dL_law_259 : decode cL_law 259 = .ok (.iconst 3, 1) := dLg_8.2.2.2.2.2.2.1
theorem dL_law_260 : decode cL_law 260 = .ok (.iadd, 1) := dLg_8.2.2.2.2.2.2.2.1
theorem dL_law_261 : decode cL_law 261 = .ok (.iaload, 1) := dLg_8.2.2.2.2.2.2.2.2.1
theorem dL_law_262 : decode cL_law 262 = .ok (.invokevirtual 21, 3) := dLg_8.2.2.2.2.2.2.2.2.2.1
theorem dL_law_265 : decode cL_law 265 = .ok (.if_icmp .eq 921, 3) := dLg_8.2.2.2.2.2.2.2.2.2.2.1
theorem dL_law_268 : decode cL_law 268 = .ok (.iconst 0, 1) := dLg_8.2.2.2.2.2.2.2.2.2.2.2
theorem dL_law_269 : decode cL_law 269 = .ok (.ireturn, 1) := by decide +kernel
theorem dLg_10 : (decode cL_law 270 = .ok (.aload_n 1, 1)) ∧ (decode cL_law 271 = .ok (.aload_n 0, 1)) ∧ (decode cL_law 272 = .ok (.iload_n 3, 1)) ∧ (decode cL_law 273 = .ok (.iconst 1, 1)) ∧ (decode cL_law 274 = .ok (.iadd, 1)) ∧ (decode cL_law 275 = .ok (.iaload, 1)) ∧ (decode cL_law 276 = .ok (.aload_n 0, 1)) ∧ (decode cL_law 277 = .ok (.iload_n 3, 1)) ∧ (decode cL_law 278 = .ok (.iconst 2, 1)) ∧ (decode cL_law 279 = .ok (.iadd, 1)) ∧ (decode cL_law 280 = .ok (.iaload, 1)) ∧ (decode cL_law 281 = .ok (.aload_n 0, 1)) := by decide +kernel
theorem dL_law_270 : decode cL_law 270 = .ok (.aload_n 1, 1) := dLg_10.1
theorem dL_law_271 : decode cL_law 271 = .ok (.aload_n 0, 1) := dLg_10.2.1
theorem dL_law_272 : decode cL_law 272 = .ok (.iload_n 3, 1) := dLg_10.2.2.1
theorem dL_law_273 : decode cL_law 273 = .ok (.iconst 1, 1) := dLg_10.2.2.2.1
theorem dL_law_274 : decode cL_law 274 = .ok (.iadd, 1) := dLg_10.2.2.2.2.1
theorem dL_law_275 : decode cL_law 275 = .ok (.iaload, 1) := dLg_10.2.2.2.2.2.1
theorem dL_law_276 : decode cL_law 276 = .ok (.aload_n 0, 1) := dLg_10.2.2.2.2.2.2.1
theorem dL_law_277 : decode cL_law 277 = .ok (.iload_n 3, 1) := dLg_10.2.2.2.2.2.2.2.1
theorem dL_law_278 : decode cL_law 278 = .ok (.iconst 2, 1) := dLg_10.2.2.2.2.2.2.2.2.1
theorem dL_law_279 : decode cL_law 279 = .ok (.iadd, 1) := dLg_10.2.2.2.2.2.2.2.2.2.1
theorem dL_law_280 : decode cL_law 280 = .ok (.iaload, 1) := dLg_10.2.2.2.2.2.2.2.2.2.2.1
theorem dL_law_281 : decode cL_law 281 = .ok (.aload_n 0, 1) := dLg_10.2.2.2.2.2.2.2.2.2.2.2
theorem dLg_11 : (decode cL_law 282 = .ok (.iload_n 3, 1)) ∧ (decode cL_law 283 = .ok (.iconst 3, 1)) ∧ (decode cL_law 284 = .ok (.iadd, 1)) ∧ (decode cL_law 285 = .ok (.iaload, 1)) ∧ (decode cL_law 286 = .ok (.aload_n 0, 1)) ∧ (decode cL_law 287 = .ok (.iload_n 3, 1)) ∧ (decode cL_law 288 = .ok (.iconst 4, 1)) ∧ (decode cL_law 289 = .ok (.iadd, 1)) ∧ (decode cL_law 290 = .ok (.iaload, 1)) ∧ (decode cL_law 291 = .ok (.aload_n 0, 1)) ∧ (decode cL_law 292 = .ok (.iload_n 3, 1)) ∧ (decode cL_law 293 = .ok (.iconst 5, 1)) := by decide +kernel
theorem dL_law_282 : decode cL_law 282 = .ok (.iload_n 3, 1) := dLg_11.1
theorem dL_law_283 : decode cL_law 283 = .ok (.iconst 3, 1) := dLg_11.2.1
theorem dL_law_284 : decode cL_law 284 = .ok (.iadd, 1) := dLg_11.2.2.1
theorem dL_law_285 : decode cL_law 285 = .ok (.iaload, 1) := dLg_11.2.2.2.1
theorem dL_law_286 : decode cL_law 286 = .ok (.aload_n 0, 1) := dLg_11.2.2.2.2.1
theorem dL_law_287 : decode cL_law 287 = .ok (.iload_n 3, 1) := dLg_11.2.2.2.2.2.1
theorem dL_law_288 : decode cL_law 288 = .ok (.iconst 4, 1) := dLg_11.2.2.2.2.2.2.1
theorem dL_law_289 : decode cL_law 289 = .ok (.iadd, 1) := dLg_11.2.2.2.2.2.2.2.1
theorem dL_law_290 : decode cL_law 290 = .ok (.iaload, 1) := dLg_11.2.2.2.2.2.2.2.2.1
theorem dL_law_291 : decode cL_law 291 = .ok (.aload_n 0, 1) := dLg_11.2.2.2.2.2.2.2.2.2.1
theorem dL_law_292 : decode cL_law 292 = .ok (.iload_n 3, 1) := dLg_11.2.2.2.2.2.2.2.2.2.2.1
theorem dL_law_293 : decode cL_law 293 = .ok (.iconst 5, 1) := dLg_11.2.2.2.2.2.2.2.2.2.2.2
theorem dLg_12 : (decode cL_law 294 = .ok (.iadd, 1)) ∧ (decode cL_law 295 = .ok (.iaload, 1)) ∧ (decode cL_law 296 = .ok (.invokevirtual 22, 3)) ∧ (decode cL_law 299 = .ok (.aload_n 2, 1)) ∧ (decode cL_law 300 = .ok (.aload_n 0, 1)) ∧ (decode cL_law 301 = .ok (.iload_n 3, 1)) ∧ (decode cL_law 302 = .ok (.iconst 1, 1)) ∧ (decode cL_law 303 = .ok (.iadd, 1)) ∧ (decode cL_law 304 = .ok (.iaload, 1)) ∧ (decode cL_law 305 = .ok (.aload_n 0, 1)) ∧ (decode cL_law 306 = .ok (.iload_n 3, 1)) ∧ (decode cL_law 307 = .ok (.iconst 2, 1)) := by decide +kernel
theorem dL_law_294 : decode cL_law 294 = .ok (.iadd, 1) := dLg_12.1
theorem dL_law_295 : decode cL_law 295 = .ok (.iaload, 1) := dLg_12.2.1
theorem dL_law_296 : decode cL_law 296 = .ok (.invokevirtual 22, 3) := dLg_12.2.2.1
theorem dL_law_299 : decode cL_law 299 = .ok (.aload_n 2, 1) := dLg_12.2.2.2.1
theorem dL_law_300 : decode cL_law 300 = .ok (.aload_n 0, 1) := dLg_12.2.2.2.2.1
theorem dL_law_301 : decode cL_law 301 = .ok (.iload_n 3, 1) := dLg_12.2.2.2.2.2.1
theorem dL_law_302 : decode cL_law 302 = .ok (.iconst 1, 1) := dLg_12.2.2.2.2.2.2.1
theorem dL_law_303 : decode cL_law 303 = .ok (.iadd, 1) := dLg_12.2.2.2.2.2.2.2.1
theorem dL_law_304 : decode cL_law 304 = .ok (.iaload, 1) := dLg_12.2.2.2.2.2.2.2.2.1
theorem dL_law_305 : decode cL_law 305 = .ok (.aload_n 0, 1) := dLg_12.2.2.2.2.2.2.2.2.2.1
theorem dL_law_306 : decode cL_law 306 = .ok (.iload_n 3, 1) := dLg_12.2.2.2.2.2.2.2.2.2.2.1
theorem dL_law_307 : decode cL_law 307 = .ok (.iconst 2, 1) := dLg_12.2.2.2.2.2.2.2.2.2.2.2
theorem dLg_13 : (decode cL_law 308 = .ok (.iadd, 1)) ∧ (decode cL_law 309 = .ok (.iaload, 1)) ∧ (decode cL_law 310 = .ok (.aload_n 0, 1)) ∧ (decode cL_law 311 = .ok (.iload_n 3, 1)) ∧ (decode cL_law 312 = .ok (.iconst 3, 1)) ∧ (decode cL_law 313 = .ok (.iadd, 1)) ∧ (decode cL_law 314 = .ok (.iaload, 1)) ∧ (decode cL_law 315 = .ok (.aload_n 0, 1)) ∧ (decode cL_law 316 = .ok (.iload_n 3, 1)) ∧ (decode cL_law 317 = .ok (.iconst 4, 1)) ∧ (decode cL_law 318 = .ok (.iadd, 1)) ∧ (decode cL_law 319 = .ok (.iaload, 1)) := by decide +kernel
theorem dL_law_308 : decode cL_law 308 = .ok (.iadd, 1) := dLg_13.1
theorem dL_law_309 : decode cL_law 309 = .ok (.iaload, 1) := dLg_13.2.1
theorem dL_law_310 : decode cL_law 310 = .ok (.aload_n 0, 1) := dLg_13.2.2.1
theorem dL_law_311 : decode cL_law 311 = .ok (.iload_n 3, 1) := dLg_13.2.2.2.1
theorem dL_law_312 : decode cL_law 312 = .ok (.iconst 3, 1) := dLg_13.2.2.2.2.1
theorem dL_law_313 : decode cL_law 313 = .ok (.iadd, 1) := dLg_13.2.2.2.2.2.1
theorem dL_law_314 : decode cL_law 314 = .ok (.iaload, 1) := dLg_13.2.2.2.2.2.2.1
theorem dL_law_315 : decode cL_law 315 = .ok (.aload_n 0, 1) := dLg_13.2.2.2.2.2.2.2.1
theorem dL_law_316 : decode cL_law 316 = .ok (.iload_n 3, 1) := dLg_13.2.2.2.2.2.2.2.2.1
theorem dL_law_317 : decode cL_law 317 = .ok (.iconst 4, 1) := dLg_13.2.2.2.2.2.2.2.2.2.1
theorem dL_law_318 : decode cL_law 318 = .ok (.iadd, 1) := dLg_13.2.2.2.2.2.2.2.2.2.2.1
theorem dL_law_319 : decode cL_law 319 = .ok (.iaload, 1) := dLg_13.2.2.2.2.2.2.2.2.2.2.2
theorem dLg_14 : (decode cL_law 320 = .ok (.aload_n 0, 1)) ∧ (decode cL_law 321 = .ok (.iload_n 3, 1)) ∧ (decode cL_law 322 = .ok (.iconst 5, 1)) ∧ (decode cL_law 323 = .ok (.iadd, 1)) ∧ (decode cL_law 324 = .ok (.iaload, 1)) ∧ (decode cL_law 325 = .ok (.invokevirtual 26, 3)) ∧ (decode cL_law 328 = .ok (.if_icmp .eq 858, 3)) ∧ (decode cL_law 331 = .ok (.iconst 0, 1)) ∧ (decode cL_law 332 = .ok (.ireturn, 1)) := by decide +kernel
theorem dL_law_320 : decode cL_law 320 = .ok (.aload_n 0, 1) := dLg_14.1
theorem dL_law_321 : decode cL_law 321 = .ok (.iload_n 3, 1) := dLg_14.2.1
theorem dL_law_322 : decode cL_law 322 = .ok (.iconst 5, 1) := dLg_14.2.2.1
theorem dL_law_323 : decode cL_law 323 = .ok (.iadd, 1) := dLg_14.2.2.2.1
theorem dL_law_324 : decode cL_law 324 = .ok (.iaload, 1) := dLg_14.2.2.2.2.1
theorem dL_law_325 : decode cL_law 325 = .ok (.invokevirtual 26, 3) := dLg_14.2.2.2.2.2.1
theorem dL_law_328 : decode cL_law 328 = .ok (.if_icmp .eq 858, 3) := dLg_14.2.2.2.2.2.2.1
theorem dL_law_331 : decode cL_law 331 = .ok (.iconst 0, 1) := dLg_14.2.2.2.2.2.2.2.1
theorem dL_law_332 : decode cL_law 332 = .ok (.ireturn, 1) := dLg_14.2.2.2.2.2.2.2.2
theorem dLg_15 : (decode cL_law 333 = .ok (.aload_n 1, 1)) ∧ (decode cL_law 334 = .ok (.aload_n 0, 1)) ∧ (decode cL_law 335 = .ok (.iload_n 3, 1)) ∧ (decode cL_law 336 = .ok (.iconst 1, 1)) ∧ (decode cL_law 337 = .ok (.iadd, 1)) ∧ (decode cL_law 338 = .ok (.iaload, 1)) ∧ (decode cL_law 339 = .ok (.invokevirtual 27, 3)) ∧ (decode cL_law 342 = .ok (.aload_n 2, 1)) ∧ (decode cL_law 343 = .ok (.aload_n 0, 1)) ∧ (decode cL_law 344 = .ok (.iload_n 3, 1)) ∧ (decode cL_law 345 = .ok (.iconst 1, 1)) ∧ (decode cL_law 346 = .ok (.iadd, 1)) := by decide +kernel
theorem dL_law_333 : decode cL_law 333 = .ok (.aload_n 1, 1) := dLg_15.1
theorem dL_law_334 : decode cL_law 334 = .ok (.aload_n 0, 1) := dLg_15.2.1
theorem dL_law_335 : decode cL_law 335 = .ok (.iload_n 3, 1) := dLg_15.2.2.1
theorem dL_law_336 : decode cL_law 336 = .ok (.iconst 1, 1) := dLg_15.2.2.2.1
theorem dL_law_337 : decode cL_law 337 = .ok (.iadd, 1) := dLg_15.2.2.2.2.1
theorem dL_law_338 : decode cL_law 338 = .ok (.iaload, 1) := dLg_15.2.2.2.2.2.1
theorem dL_law_339 : decode cL_law 339 = .ok (.invokevirtual 27, 3) := dLg_15.2.2.2.2.2.2.1
theorem dL_law_342 : decode cL_law 342 = .ok (.aload_n 2, 1) := dLg_15.2.2.2.2.2.2.2.1
theorem dL_law_343 : decode cL_law 343 = .ok (.aload_n 0, 1) := dLg_15.2.2.2.2.2.2.2.2.1
theorem dL_law_344 : decode cL_law 344 = .ok (.iload_n 3, 1) := dLg_15.2.2.2.2.2.2.2.2.2.1
theorem dL_law_345 : decode cL_law 345 = .ok (.iconst 1, 1) := dLg_15.2.2.2.2.2.2.2.2.2.2.1
theorem dL_law_346 : decode cL_law 346 = .ok (.iadd, 1) := dLg_15.2.2.2.2.2.2.2.2.2.2.2
theorem dLg_16 : (decode cL_law 347 = .ok (.iaload, 1)) ∧ (decode cL_law 348 = .ok (.invokevirtual 31, 3)) ∧ (decode cL_law 351 = .ok (.if_icmp .eq 835, 3)) ∧ (decode cL_law 354 = .ok (.iconst 0, 1)) ∧ (decode cL_law 355 = .ok (.ireturn, 1)) := by decide +kernel
theorem dL_law_347 : decode cL_law 347 = .ok (.iaload, 1) := dLg_16.1
theorem dL_law_348 : decode cL_law 348 = .ok (.invokevirtual 31, 3) := dLg_16.2.1
theorem dL_law_351 : decode cL_law 351 = .ok (.if_icmp .eq 835, 3) := dLg_16.2.2.1
theorem dL_law_354 : decode cL_law 354 = .ok (.iconst 0, 1) := dLg_16.2.2.2.1
theorem dL_law_355 : decode cL_law 355 = .ok (.ireturn, 1) := dLg_16.2.2.2.2
theorem dLg_17 : (decode cL_law 356 = .ok (.aload_n 1, 1)) ∧ (decode cL_law 357 = .ok (.aload_n 0, 1)) ∧ (decode cL_law 358 = .ok (.iload_n 3, 1)) ∧ (decode cL_law 359 = .ok (.iconst 1, 1)) ∧ (decode cL_law 360 = .ok (.iadd, 1)) ∧ (decode cL_law 361 = .ok (.iaload, 1)) ∧ (decode cL_law 362 = .ok (.invokevirtual 32, 3)) ∧ (decode cL_law 365 = .ok (.aload_n 2, 1)) ∧ (decode cL_law 366 = .ok (.aload_n 0, 1)) ∧ (decode cL_law 367 = .ok (.iload_n 3, 1)) ∧ (decode cL_law 368 = .ok (.iconst 1, 1)) ∧ (decode cL_law 369 = .ok (.iadd, 1)) := by decide +kernel
theorem dL_law_356 : decode cL_law 356 = .ok (.aload_n 1, 1) := dLg_17.1
theorem dL_law_357 : decode cL_law 357 = .ok (.aload_n 0, 1) := dLg_17.2.1
theorem dL_law_358 : decode cL_law 358 = .ok (.iload_n 3, 1) := dLg_17.2.2.1
theorem dL_law_359 : decode cL_law 359 = .ok (.iconst 1, 1) := dLg_17.2.2.2.1
theorem dL_law_360 : decode cL_law 360 = .ok (.iadd, 1) := dLg_17.2.2.2.2.1
theorem dL_law_361 : decode cL_law 361 = .ok (.iaload, 1) := dLg_17.2.2.2.2.2.1
theorem dL_law_362 : decode cL_law 362 = .ok (.invokevirtual 32, 3) := dLg_17.2.2.2.2.2.2.1
theorem dL_law_365 : decode cL_law 365 = .ok (.aload_n 2, 1) := dLg_17.2.2.2.2.2.2.2.1
theorem dL_law_366 : decode cL_law 366 = .ok (.aload_n 0, 1) := dLg_17.2.2.2.2.2.2.2.2.1
theorem dL_law_367 : decode cL_law 367 = .ok (.iload_n 3, 1) := dLg_17.2.2.2.2.2.2.2.2.2.1
theorem dL_law_368 : decode cL_law 368 = .ok (.iconst 1, 1) := dLg_17.2.2.2.2.2.2.2.2.2.2.1
theorem dL_law_369 : decode cL_law 369 = .ok (.iadd, 1) := dLg_17.2.2.2.2.2.2.2.2.2.2.2
theorem dLg_18 : (decode cL_law 370 = .ok (.iaload, 1)) ∧ (decode cL_law 371 = .ok (.invokevirtual 35, 3)) ∧ (decode cL_law 374 = .ok (.if_icmp .eq 812, 3)) ∧ (decode cL_law 377 = .ok (.iconst 0, 1)) ∧ (decode cL_law 378 = .ok (.ireturn, 1)) := by decide +kernel
theorem dL_law_370 : decode cL_law 370 = .ok (.iaload, 1) := dLg_18.1
theorem dL_law_371 : decode cL_law 371 = .ok (.invokevirtual 35, 3) := dLg_18.2.1
theorem dL_law_374 : decode cL_law 374 = .ok (.if_icmp .eq 812, 3) := dLg_18.2.2.1
theorem dL_law_377 : decode cL_law 377 = .ok (.iconst 0, 1) := dLg_18.2.2.2.1
theorem dL_law_378 : decode cL_law 378 = .ok (.ireturn, 1) := dLg_18.2.2.2.2
theorem dLg_19 : (decode cL_law 379 = .ok (.aload_n 1, 1)) ∧ (decode cL_law 380 = .ok (.invokevirtual 36, 3)) ∧ (decode cL_law 383 = .ok (.aload_n 2, 1)) ∧ (decode cL_law 384 = .ok (.invokevirtual 40, 3)) ∧ (decode cL_law 387 = .ok (.if_icmp .eq 799, 3)) ∧ (decode cL_law 390 = .ok (.iconst 0, 1)) ∧ (decode cL_law 391 = .ok (.ireturn, 1)) := by decide +kernel
theorem dL_law_379 : decode cL_law 379 = .ok (.aload_n 1, 1) := dLg_19.1
theorem dL_law_380 : decode cL_law 380 = .ok (.invokevirtual 36, 3) := dLg_19.2.1
theorem dL_law_383 : decode cL_law 383 = .ok (.aload_n 2, 1) := dLg_19.2.2.1
theorem dL_law_384 : decode cL_law 384 = .ok (.invokevirtual 40, 3) := dLg_19.2.2.2.1
theorem dL_law_387 : decode cL_law 387 = .ok (.if_icmp .eq 799, 3) := dLg_19.2.2.2.2.1
theorem dL_law_390 : decode cL_law 390 = .ok (.iconst 0, 1) := dLg_19.2.2.2.2.2.1
theorem dL_law_391 : decode cL_law 391 = .ok (.ireturn, 1) := dLg_19.2.2.2.2.2.2
theorem dLg_20 : (decode cL_law 392 = .ok (.aload_n 1, 1)) ∧ (decode cL_law 393 = .ok (.invokevirtual 41, 3)) ∧ (decode cL_law 396 = .ok (.aload_n 2, 1)) ∧ (decode cL_law 397 = .ok (.invokevirtual 44, 3)) ∧ (decode cL_law 400 = .ok (.if_icmp .eq 786, 3)) ∧ (decode cL_law 403 = .ok (.iconst 0, 1)) ∧ (decode cL_law 404 = .ok (.ireturn, 1)) := by decide +kernel
theorem dL_law_392 : decode cL_law 392 = .ok (.aload_n 1, 1) := dLg_20.1
theorem dL_law_393 : decode cL_law 393 = .ok (.invokevirtual 41, 3) := dLg_20.2.1
theorem dL_law_396 : decode cL_law 396 = .ok (.aload_n 2, 1) := dLg_20.2.2.1
theorem dL_law_397 : decode cL_law 397 = .ok (.invokevirtual 44, 3) := dLg_20.2.2.2.1
theorem dL_law_400 : decode cL_law 400 = .ok (.if_icmp .eq 786, 3) := dLg_20.2.2.2.2.1
theorem dL_law_403 : decode cL_law 403 = .ok (.iconst 0, 1) := dLg_20.2.2.2.2.2.1
theorem dL_law_404 : decode cL_law 404 = .ok (.ireturn, 1) := dLg_20.2.2.2.2.2.2
theorem dLg_21 : (decode cL_law 405 = .ok (.aload_n 1, 1)) ∧ (decode cL_law 406 = .ok (.aload_n 0, 1)) ∧ (decode cL_law 407 = .ok (.iload_n 3, 1)) ∧ (decode cL_law 408 = .ok (.iconst 1, 1)) ∧ (decode cL_law 409 = .ok (.iadd, 1)) ∧ (decode cL_law 410 = .ok (.iaload, 1)) ∧ (decode cL_law 411 = .ok (.invokevirtual 45, 3)) ∧ (decode cL_law 414 = .ok (.aload_n 2, 1)) ∧ (decode cL_law 415 = .ok (.aload_n 0, 1)) ∧ (decode cL_law 416 = .ok (.iload_n 3, 1)) ∧ (decode cL_law 417 = .ok (.iconst 1, 1)) ∧ (decode cL_law 418 = .ok (.iadd, 1)) := by decide +kernel
theorem dL_law_405 : decode cL_law 405 = .ok (.aload_n 1, 1) := dLg_21.1
theorem dL_law_406 : decode cL_law 406 = .ok (.aload_n 0, 1) := dLg_21.2.1
theorem dL_law_407 : decode cL_law 407 = .ok (.iload_n 3, 1) := dLg_21.2.2.1
theorem dL_law_408 : decode cL_law 408 = .ok (.iconst 1, 1) := dLg_21.2.2.2.1
theorem dL_law_409 : decode cL_law 409 = .ok (.iadd, 1) := dLg_21.2.2.2.2.1
theorem dL_law_410 : decode cL_law 410 = .ok (.iaload, 1) := dLg_21.2.2.2.2.2.1
theorem dL_law_411 : decode cL_law 411 = .ok (.invokevirtual 45, 3) := dLg_21.2.2.2.2.2.2.1
theorem dL_law_414 : decode cL_law 414 = .ok (.aload_n 2, 1) := dLg_21.2.2.2.2.2.2.2.1
theorem dL_law_415 : decode cL_law 415 = .ok (.aload_n 0, 1) := dLg_21.2.2.2.2.2.2.2.2.1
theorem dL_law_416 : decode cL_law 416 = .ok (.iload_n 3, 1) := dLg_21.2.2.2.2.2.2.2.2.2.1
theorem dL_law_417 : decode cL_law 417 = .ok (.iconst 1, 1) := dLg_21.2.2.2.2.2.2.2.2.2.2.1
theorem dL_law_418 : decode cL_law 418 = .ok (.iadd, 1) := dLg_21.2.2.2.2.2.2.2.2.2.2.2
theorem dLg_22 : (decode cL_law 419 = .ok (.iaload, 1)) ∧ (decode cL_law 420 = .ok (.invokevirtual 48, 3)) ∧ (decode cL_law 423 = .ok (.if_icmp .eq 763, 3)) ∧ (decode cL_law 426 = .ok (.iconst 0, 1)) ∧ (decode cL_law 427 = .ok (.ireturn, 1)) := by decide +kernel
theorem dL_law_419 : decode cL_law 419 = .ok (.iaload, 1) := dLg_22.1
theorem dL_law_420 : decode cL_law 420 = .ok (.invokevirtual 48, 3) := dLg_22.2.1
theorem dL_law_423 : decode cL_law 423 = .ok (.if_icmp .eq 763, 3) := dLg_22.2.2.1
theorem dL_law_426 : decode cL_law 426 = .ok (.iconst 0, 1) := dLg_22.2.2.2.1
theorem dL_law_427 : decode cL_law 427 = .ok (.ireturn, 1) := dLg_22.2.2.2.2
theorem dLg_23 : (decode cL_law 428 = .ok (.aload_n 1, 1)) ∧ (decode cL_law 429 = .ok (.aload_n 0, 1)) ∧ (decode cL_law 430 = .ok (.iload_n 3, 1)) ∧ (decode cL_law 431 = .ok (.iconst 1, 1)) ∧ (decode cL_law 432 = .ok (.iadd, 1)) ∧ (decode cL_law 433 = .ok (.iaload, 1)) ∧ (decode cL_law 434 = .ok (.invokevirtual 49, 3)) ∧ (decode cL_law 437 = .ok (.aload_n 2, 1)) ∧ (decode cL_law 438 = .ok (.aload_n 0, 1)) ∧ (decode cL_law 439 = .ok (.iload_n 3, 1)) ∧ (decode cL_law 440 = .ok (.iconst 1, 1)) ∧ (decode cL_law 441 = .ok (.iadd, 1)) := by decide +kernel
theorem dL_law_428 : decode cL_law 428 = .ok (.aload_n 1, 1) := dLg_23.1
theorem dL_law_429 : decode cL_law 429 = .ok (.aload_n 0, 1) := dLg_23.2.1
theorem dL_law_430 : decode cL_law 430 = .ok (.iload_n 3, 1) := dLg_23.2.2.1
theorem dL_law_431 : decode cL_law 431 = .ok (.iconst 1, 1) := dLg_23.2.2.2.1
theorem dL_law_432 : decode cL_law 432 = .ok (.iadd, 1) := dLg_23.2.2.2.2.1
theorem dL_law_433 : decode cL_law 433 = .ok (.iaload, 1) := dLg_23.2.2.2.2.2.1
theorem dL_law_434 : decode cL_law 434 = .ok (.invokevirtual 49, 3) := dLg_23.2.2.2.2.2.2.1
theorem dL_law_437 : decode cL_law 437 = .ok (.aload_n 2, 1) := dLg_23.2.2.2.2.2.2.2.1
theorem dL_law_438 : decode cL_law 438 = .ok (.aload_n 0, 1) := dLg_23.2.2.2.2.2.2.2.2.1
theorem dL_law_439 : decode cL_law 439 = .ok (.iload_n 3, 1) := dLg_23.2.2.2.2.2.2.2.2.2.1
theorem dL_law_440 : decode cL_law 440 = .ok (.iconst 1, 1) := dLg_23.2.2.2.2.2.2.2.2.2.2.1
theorem dL_law_441 : decode cL_law 441 = .ok (.iadd, 1) := dLg_23.2.2.2.2.2.2.2.2.2.2.2
theorem dLg_24 : (decode cL_law 442 = .ok (.iaload, 1)) ∧ (decode cL_law 443 = .ok (.invokevirtual 52, 3)) ∧ (decode cL_law 446 = .ok (.if_icmp .eq 740, 3)) ∧ (decode cL_law 449 = .ok (.iconst 0, 1)) ∧ (decode cL_law 450 = .ok (.ireturn, 1)) := by decide +kernel
theorem dL_law_442 : decode cL_law 442 = .ok (.iaload, 1) := dLg_24.1
theorem dL_law_443 : decode cL_law 443 = .ok (.invokevirtual 52, 3) := dLg_24.2.1
theorem dL_law_446 : decode cL_law 446 = .ok (.if_icmp .eq 740, 3) := dLg_24.2.2.1
theorem dL_law_449 : decode cL_law 449 = .ok (.iconst 0, 1) := dLg_24.2.2.2.1
theorem dL_law_450 : decode cL_law 450 = .ok (.ireturn, 1) := dLg_24.2.2.2.2
theorem dLg_25 : (decode cL_law 451 = .ok (.aload_n 1, 1)) ∧ (decode cL_law 452 = .ok (.aload_n 0, 1)) ∧ (decode cL_law 453 = .ok (.iload_n 3, 1)) ∧ (decode cL_law 454 = .ok (.iconst 1, 1)) ∧ (decode cL_law 455 = .ok (.iadd, 1)) ∧ (decode cL_law 456 = .ok (.iaload, 1)) ∧ (decode cL_law 457 = .ok (.aload_n 0, 1)) ∧ (decode cL_law 458 = .ok (.iload_n 3, 1)) ∧ (decode cL_law 459 = .ok (.iconst 2, 1)) ∧ (decode cL_law 460 = .ok (.iadd, 1)) ∧ (decode cL_law 461 = .ok (.iaload, 1)) ∧ (decode cL_law 462 = .ok (.invokevirtual 53, 3)) := by decide +kernel
theorem dL_law_451 : decode cL_law 451 = .ok (.aload_n 1, 1) := dLg_25.1
theorem dL_law_452 : decode cL_law 452 = .ok (.aload_n 0, 1) := dLg_25.2.1
theorem dL_law_453 : decode cL_law 453 = .ok (.iload_n 3, 1) := dLg_25.2.2.1
theorem dL_law_454 : decode cL_law 454 = .ok (.iconst 1, 1) := dLg_25.2.2.2.1
theorem dL_law_455 : decode cL_law 455 = .ok (.iadd, 1) := dLg_25.2.2.2.2.1
theorem dL_law_456 : decode cL_law 456 = .ok (.iaload, 1) := dLg_25.2.2.2.2.2.1
theorem dL_law_457 : decode cL_law 457 = .ok (.aload_n 0, 1) := dLg_25.2.2.2.2.2.2.1
theorem dL_law_458 : decode cL_law 458 = .ok (.iload_n 3, 1) := dLg_25.2.2.2.2.2.2.2.1
theorem dL_law_459 : decode cL_law 459 = .ok (.iconst 2, 1) := dLg_25.2.2.2.2.2.2.2.2.1
theorem dL_law_460 : decode cL_law 460 = .ok (.iadd, 1) := dLg_25.2.2.2.2.2.2.2.2.2.1
theorem dL_law_461 : decode cL_law 461 = .ok (.iaload, 1) := dLg_25.2.2.2.2.2.2.2.2.2.2.1
theorem dL_law_462 : decode cL_law 462 = .ok (.invokevirtual 53, 3) := dLg_25.2.2.2.2.2.2.2.2.2.2.2
theorem dLg_26 : (decode cL_law 465 = .ok (.aload_n 2, 1)) ∧ (decode cL_law 466 = .ok (.aload_n 0, 1)) ∧ (decode cL_law 467 = .ok (.iload_n 3, 1)) ∧ (decode cL_law 468 = .ok (.iconst 1, 1)) ∧ (decode cL_law 469 = .ok (.iadd, 1)) ∧ (decode cL_law 470 = .ok (.iaload, 1)) ∧ (decode cL_law 471 = .ok (.aload_n 0, 1)) ∧ (decode cL_law 472 = .ok (.iload_n 3, 1)) ∧ (decode cL_law 473 = .ok (.iconst 2, 1)) ∧ (decode cL_law 474 = .ok (.iadd, 1)) ∧ (decode cL_law 475 = .ok (.iaload, 1)) ∧ (decode cL_law 476 = .ok (.invokevirtual 57, 3)) := by decide +kernel
theorem dL_law_465 : decode cL_law 465 = .ok (.aload_n 2, 1) := dLg_26.1
theorem dL_law_466 : decode cL_law 466 = .ok (.aload_n 0, 1) := dLg_26.2.1
theorem dL_law_467 : decode cL_law 467 = .ok (.iload_n 3, 1) := dLg_26.2.2.1
theorem dL_law_468 : decode cL_law 468 = .ok (.iconst 1, 1) := dLg_26.2.2.2.1
theorem dL_law_469 : decode cL_law 469 = .ok (.iadd, 1) := dLg_26.2.2.2.2.1
theorem dL_law_470 : decode cL_law 470 = .ok (.iaload, 1) := dLg_26.2.2.2.2.2.1
theorem dL_law_471 : decode cL_law 471 = .ok (.aload_n 0, 1) := dLg_26.2.2.2.2.2.2.1
theorem dL_law_472 : decode cL_law 472 = .ok (.iload_n 3, 1) := dLg_26.2.2.2.2.2.2.2.1
theorem dL_law_473 : decode cL_law 473 = .ok (.iconst 2, 1) := dLg_26.2.2.2.2.2.2.2.2.1
theorem dL_law_474 : decode cL_law 474 = .ok (.iadd, 1) := dLg_26.2.2.2.2.2.2.2.2.2.1
theorem dL_law_475 : decode cL_law 475 = .ok (.iaload, 1) := dLg_26.2.2.2.2.2.2.2.2.2.2.1
theorem dL_law_476 : decode cL_law 476 = .ok (.invokevirtual 57, 3) := dLg_26.2.2.2.2.2.2.2.2.2.2.2
theorem dLg_27 : (decode cL_law 479 = .ok (.if_icmp .eq 707, 3)) ∧ (decode cL_law 482 = .ok (.iconst 0, 1)) ∧ (decode cL_law 483 = .ok (.ireturn, 1)) := by decide +kernel
theorem dL_law_479 : decode cL_law 479 = .ok (.if_icmp .eq 707, 3) := dLg_27.1
theorem dL_law_482 : decode cL_law 482 = .ok (.iconst 0, 1) := dLg_27.2.1
theorem dL_law_483 : decode cL_law 483 = .ok (.ireturn, 1) := dLg_27.2.2
theorem dLg_28 : (decode cL_law 484 = .ok (.aload_n 1, 1)) ∧ (decode cL_law 485 = .ok (.aload_n 0, 1)) ∧ (decode cL_law 486 = .ok (.iload_n 3, 1)) ∧ (decode cL_law 487 = .ok (.iconst 1, 1)) ∧ (decode cL_law 488 = .ok (.iadd, 1)) ∧ (decode cL_law 489 = .ok (.iaload, 1)) ∧ (decode cL_law 490 = .ok (.aload_n 0, 1)) ∧ (decode cL_law 491 = .ok (.iload_n 3, 1)) ∧ (decode cL_law 492 = .ok (.iconst 2, 1)) ∧ (decode cL_law 493 = .ok (.iadd, 1)) ∧ (decode cL_law 494 = .ok (.iaload, 1)) ∧ (decode cL_law 495 = .ok (.invokevirtual 58, 3)) := by decide +kernel
theorem dL_law_484 : decode cL_law 484 = .ok (.aload_n 1, 1) := dLg_28.1
theorem dL_law_485 : decode cL_law 485 = .ok (.aload_n 0, 1) := dLg_28.2.1
theorem dL_law_486 : decode cL_law 486 = .ok (.iload_n 3, 1) := dLg_28.2.2.1
theorem dL_law_487 : decode cL_law 487 = .ok (.iconst 1, 1) := dLg_28.2.2.2.1
theorem dL_law_488 : decode cL_law 488 = .ok (.iadd, 1) := dLg_28.2.2.2.2.1
theorem dL_law_489 : decode cL_law 489 = .ok (.iaload, 1) := dLg_28.2.2.2.2.2.1
theorem dL_law_490 : decode cL_law 490 = .ok (.aload_n 0, 1) := dLg_28.2.2.2.2.2.2.1
theorem dL_law_491 : decode cL_law 491 = .ok (.iload_n 3, 1) := dLg_28.2.2.2.2.2.2.2.1
theorem dL_law_492 : decode cL_law 492 = .ok (.iconst 2, 1) := dLg_28.2.2.2.2.2.2.2.2.1
theorem dL_law_493 : decode cL_law 493 = .ok (.iadd, 1) := dLg_28.2.2.2.2.2.2.2.2.2.1
theorem dL_law_494 : decode cL_law 494 = .ok (.iaload, 1) := dLg_28.2.2.2.2.2.2.2.2.2.2.1
theorem dL_law_495 : decode cL_law 495 = .ok (.invokevirtual 58, 3) := dLg_28.2.2.2.2.2.2.2.2.2.2.2
theorem dLg_29 : (decode cL_law 498 = .ok (.aload_n 2, 1)) ∧ (decode cL_law 499 = .ok (.aload_n 0, 1)) ∧ (decode cL_law 500 = .ok (.iload_n 3, 1)) ∧ (decode cL_law 501 = .ok (.iconst 1, 1)) ∧ (decode cL_law 502 = .ok (.iadd, 1)) ∧ (decode cL_law 503 = .ok (.iaload, 1)) ∧ (decode cL_law 504 = .ok (.aload_n 0, 1)) ∧ (decode cL_law 505 = .ok (.iload_n 3, 1)) ∧ (decode cL_law 506 = .ok (.iconst 2, 1)) ∧ (decode cL_law 507 = .ok (.iadd, 1)) ∧ (decode cL_law 508 = .ok (.iaload, 1)) ∧ (decode cL_law 509 = .ok (.invokevirtual 61, 3)) := by decide +kernel
theorem dL_law_498 : decode cL_law 498 = .ok (.aload_n 2, 1) := dLg_29.1
theorem dL_law_499 : decode cL_law 499 = .ok (.aload_n 0, 1) := dLg_29.2.1
theorem dL_law_500 : decode cL_law 500 = .ok (.iload_n 3, 1) := dLg_29.2.2.1
theorem dL_law_501 : decode cL_law 501 = .ok (.iconst 1, 1) := dLg_29.2.2.2.1
theorem dL_law_502 : decode cL_law 502 = .ok (.iadd, 1) := dLg_29.2.2.2.2.1
theorem dL_law_503 : decode cL_law 503 = .ok (.iaload, 1) := dLg_29.2.2.2.2.2.1
theorem dL_law_504 : decode cL_law 504 = .ok (.aload_n 0, 1) := dLg_29.2.2.2.2.2.2.1
theorem dL_law_505 : decode cL_law 505 = .ok (.iload_n 3, 1) := dLg_29.2.2.2.2.2.2.2.1
theorem dL_law_506 : decode cL_law 506 = .ok (.iconst 2, 1) := dLg_29.2.2.2.2.2.2.2.2.1
theorem dL_law_507 : decode cL_law 507 = .ok (.iadd, 1) := dLg_29.2.2.2.2.2.2.2.2.2.1
theorem dL_law_508 : decode cL_law 508 = .ok (.iaload, 1) := dLg_29.2.2.2.2.2.2.2.2.2.2.1
theorem dL_law_509 : decode cL_law 509 = .ok (.invokevirtual 61, 3) := dLg_29.2.2.2.2.2.2.2.2.2.2.2
theorem dLg_30 : (decode cL_law 512 = .ok (.if_icmp .eq 674, 3)) ∧ (decode cL_law 515 = .ok (.iconst 0, 1)) ∧ (decode cL_law 516 = .ok (.ireturn, 1)) := by decide +kernel
theorem dL_law_512 : decode cL_law 512 = .ok (.if_icmp .eq 674, 3) := dLg_30.1
theorem dL_law_515 : decode cL_law 515 = .ok (.iconst 0, 1) := dLg_30.2.1
theorem dL_law_516 : decode cL_law 516 = .ok (.ireturn, 1) := dLg_30.2.2
theorem dLg_31 : (decode cL_law 517 = .ok (.aload_n 1, 1)) ∧ (decode cL_law 518 = .ok (.invokevirtual 62, 3)) ∧ (decode cL_law 521 = .ok (.aload_n 2, 1)) ∧ (decode cL_law 522 = .ok (.invokevirtual 65, 3)) ∧ (decode cL_law 525 = .ok (.if_icmp .eq 661, 3)) ∧ (decode cL_law 528 = .ok (.iconst 0, 1)) ∧ (decode cL_law 529 = .ok (.ireturn, 1)) := by decide +kernel
theorem dL_law_517 : decode cL_law 517 = .ok (.aload_n 1, 1) := dLg_31.1
theorem dL_law_518 : decode cL_law 518 = .ok (.invokevirtual 62, 3) := dLg_31.2.1
theorem dL_law_521 : decode cL_law 521 = .ok (.aload_n 2, 1) := dLg_31.2.2.1
theorem dL_law_522 : decode cL_law 522 = .ok (.invokevirtual 65, 3) := dLg_31.2.2.2.1
theorem dL_law_525 : decode cL_law 525 = .ok (.if_icmp .eq 661, 3) := dLg_31.2.2.2.2.1
theorem dL_law_528 : decode cL_law 528 = .ok (.iconst 0, 1) := dLg_31.2.2.2.2.2.1
theorem dL_law_529 : decode cL_law 529 = .ok (.ireturn, 1) := dLg_31.2.2.2.2.2.2
theorem dLg_32 : (decode cL_law 530 = .ok (.aload_n 1, 1)) ∧ (decode cL_law 531 = .ok (.invokevirtual 66, 3)) ∧ (decode cL_law 534 = .ok (.aload_n 2, 1)) ∧ (decode cL_law 535 = .ok (.invokevirtual 69, 3)) ∧ (decode cL_law 538 = .ok (.if_icmp .eq 648, 3)) ∧ (decode cL_law 541 = .ok (.iconst 0, 1)) ∧ (decode cL_law 542 = .ok (.ireturn, 1)) := by decide +kernel
theorem dL_law_530 : decode cL_law 530 = .ok (.aload_n 1, 1) := dLg_32.1
theorem dL_law_531 : decode cL_law 531 = .ok (.invokevirtual 66, 3) := dLg_32.2.1
theorem dL_law_534 : decode cL_law 534 = .ok (.aload_n 2, 1) := dLg_32.2.2.1
theorem dL_law_535 : decode cL_law 535 = .ok (.invokevirtual 69, 3) := dLg_32.2.2.2.1
theorem dL_law_538 : decode cL_law 538 = .ok (.if_icmp .eq 648, 3) := dLg_32.2.2.2.2.1
theorem dL_law_541 : decode cL_law 541 = .ok (.iconst 0, 1) := dLg_32.2.2.2.2.2.1
theorem dL_law_542 : decode cL_law 542 = .ok (.ireturn, 1) := dLg_32.2.2.2.2.2.2
theorem dLg_33 : (decode cL_law 543 = .ok (.aload_n 1, 1)) ∧ (decode cL_law 544 = .ok (.aload_n 0, 1)) ∧ (decode cL_law 545 = .ok (.iload_n 3, 1)) ∧ (decode cL_law 546 = .ok (.iconst 1, 1)) ∧ (decode cL_law 547 = .ok (.iadd, 1)) ∧ (decode cL_law 548 = .ok (.iaload, 1)) ∧ (decode cL_law 549 = .ok (.aload_n 0, 1)) ∧ (decode cL_law 550 = .ok (.iload_n 3, 1)) ∧ (decode cL_law 551 = .ok (.iconst 2, 1)) ∧ (decode cL_law 552 = .ok (.iadd, 1)) ∧ (decode cL_law 553 = .ok (.iaload, 1)) ∧ (decode cL_law 554 = .ok (.invokevirtual 70, 3)) := by decide +kernel
theorem dL_law_543 : decode cL_law 543 = .ok (.aload_n 1, 1) := dLg_33.1
theorem dL_law_544 : decode cL_law 544 = .ok (.aload_n 0, 1) := dLg_33.2.1
theorem dL_law_545 : decode cL_law 545 = .ok (.iload_n 3, 1) := dLg_33.2.2.1
theorem dL_law_546 : decode cL_law 546 = .ok (.iconst 1, 1) := dLg_33.2.2.2.1
theorem dL_law_547 : decode cL_law 547 = .ok (.iadd, 1) := dLg_33.2.2.2.2.1
theorem dL_law_548 : decode cL_law 548 = .ok (.iaload, 1) := dLg_33.2.2.2.2.2.1
theorem dL_law_549 : decode cL_law 549 = .ok (.aload_n 0, 1) := dLg_33.2.2.2.2.2.2.1
theorem dL_law_550 : decode cL_law 550 = .ok (.iload_n 3, 1) := dLg_33.2.2.2.2.2.2.2.1
theorem dL_law_551 : decode cL_law 551 = .ok (.iconst 2, 1) := dLg_33.2.2.2.2.2.2.2.2.1
theorem dL_law_552 : decode cL_law 552 = .ok (.iadd, 1) := dLg_33.2.2.2.2.2.2.2.2.2.1
theorem dL_law_553 : decode cL_law 553 = .ok (.iaload, 1) := dLg_33.2.2.2.2.2.2.2.2.2.2.1
theorem dL_law_554 : decode cL_law 554 = .ok (.invokevirtual 70, 3) := dLg_33.2.2.2.2.2.2.2.2.2.2.2
theorem dLg_34 : (decode cL_law 557 = .ok (.aload_n 2, 1)) ∧ (decode cL_law 558 = .ok (.aload_n 0, 1)) ∧ (decode cL_law 559 = .ok (.iload_n 3, 1)) ∧ (decode cL_law 560 = .ok (.iconst 1, 1)) ∧ (decode cL_law 561 = .ok (.iadd, 1)) ∧ (decode cL_law 562 = .ok (.iaload, 1)) ∧ (decode cL_law 563 = .ok (.aload_n 0, 1)) ∧ (decode cL_law 564 = .ok (.iload_n 3, 1)) ∧ (decode cL_law 565 = .ok (.iconst 2, 1)) ∧ (decode cL_law 566 = .ok (.iadd, 1)) ∧ (decode cL_law 567 = .ok (.iaload, 1)) ∧ (decode cL_law 568 = .ok (.invokevirtual 73, 3)) := by decide +kernel
theorem dL_law_557 : decode cL_law 557 = .ok (.aload_n 2, 1) := dLg_34.1
theorem dL_law_558 : decode cL_law 558 = .ok (.aload_n 0, 1) := dLg_34.2.1
theorem dL_law_559 : decode cL_law 559 = .ok (.iload_n 3, 1) := dLg_34.2.2.1
theorem dL_law_560 : decode cL_law 560 = .ok (.iconst 1, 1) := dLg_34.2.2.2.1
theorem dL_law_561 : decode cL_law 561 = .ok (.iadd, 1) := dLg_34.2.2.2.2.1
theorem dL_law_562 : decode cL_law 562 = .ok (.iaload, 1) := dLg_34.2.2.2.2.2.1
theorem dL_law_563 : decode cL_law 563 = .ok (.aload_n 0, 1) := dLg_34.2.2.2.2.2.2.1
theorem dL_law_564 : decode cL_law 564 = .ok (.iload_n 3, 1) := dLg_34.2.2.2.2.2.2.2.1
theorem dL_law_565 : decode cL_law 565 = .ok (.iconst 2, 1) := dLg_34.2.2.2.2.2.2.2.2.1
theorem dL_law_566 : decode cL_law 566 = .ok (.iadd, 1) := dLg_34.2.2.2.2.2.2.2.2.2.1
theorem dL_law_567 : decode cL_law 567 = .ok (.iaload, 1) := dLg_34.2.2.2.2.2.2.2.2.2.2.1
theorem dL_law_568 : decode cL_law 568 = .ok (.invokevirtual 73, 3) := dLg_34.2.2.2.2.2.2.2.2.2.2.2
theorem dLg_35 : (decode cL_law 571 = .ok (.if_icmp .eq 615, 3)) ∧ (decode cL_law 574 = .ok (.iconst 0, 1)) ∧ (decode cL_law 575 = .ok (.ireturn, 1)) := by decide +kernel
theorem dL_law_571 : decode cL_law 571 = .ok (.if_icmp .eq 615, 3) := dLg_35.1
theorem dL_law_574 : decode cL_law 574 = .ok (.iconst 0, 1) := dLg_35.2.1
theorem dL_law_575 : decode cL_law 575 = .ok (.ireturn, 1) := dLg_35.2.2
theorem dLg_36 : (decode cL_law 576 = .ok (.aload_n 1, 1)) ∧ (decode cL_law 577 = .ok (.aload_n 0, 1)) ∧ (decode cL_law 578 = .ok (.iload_n 3, 1)) ∧ (decode cL_law 579 = .ok (.iconst 1, 1)) ∧ (decode cL_law 580 = .ok (.iadd, 1)) ∧ (decode cL_law 581 = .ok (.iaload, 1)) ∧ (decode cL_law 582 = .ok (.aload_n 0, 1)) ∧ (decode cL_law 583 = .ok (.iload_n 3, 1)) ∧ (decode cL_law 584 = .ok (.iconst 2, 1)) ∧ (decode cL_law 585 = .ok (.iadd, 1)) ∧ (decode cL_law 586 = .ok (.iaload, 1)) ∧ (decode cL_law 587 = .ok (.invokevirtual 74, 3)) := by decide +kernel
theorem dL_law_576 : decode cL_law 576 = .ok (.aload_n 1, 1) := dLg_36.1
theorem dL_law_577 : decode cL_law 577 = .ok (.aload_n 0, 1) := dLg_36.2.1
theorem dL_law_578 : decode cL_law 578 = .ok (.iload_n 3, 1) := dLg_36.2.2.1
theorem dL_law_579 : decode cL_law 579 = .ok (.iconst 1, 1) := dLg_36.2.2.2.1
theorem dL_law_580 : decode cL_law 580 = .ok (.iadd, 1) := dLg_36.2.2.2.2.1
theorem dL_law_581 : decode cL_law 581 = .ok (.iaload, 1) := dLg_36.2.2.2.2.2.1
theorem dL_law_582 : decode cL_law 582 = .ok (.aload_n 0, 1) := dLg_36.2.2.2.2.2.2.1
theorem dL_law_583 : decode cL_law 583 = .ok (.iload_n 3, 1) := dLg_36.2.2.2.2.2.2.2.1
theorem dL_law_584 : decode cL_law 584 = .ok (.iconst 2, 1) := dLg_36.2.2.2.2.2.2.2.2.1
theorem dL_law_585 : decode cL_law 585 = .ok (.iadd, 1) := dLg_36.2.2.2.2.2.2.2.2.2.1
theorem dL_law_586 : decode cL_law 586 = .ok (.iaload, 1) := dLg_36.2.2.2.2.2.2.2.2.2.2.1
theorem dL_law_587 : decode cL_law 587 = .ok (.invokevirtual 74, 3) := dLg_36.2.2.2.2.2.2.2.2.2.2.2
theorem dLg_37 : (decode cL_law 590 = .ok (.aload_n 2, 1)) ∧ (decode cL_law 591 = .ok (.aload_n 0, 1)) ∧ (decode cL_law 592 = .ok (.iload_n 3, 1)) ∧ (decode cL_law 593 = .ok (.iconst 1, 1)) ∧ (decode cL_law 594 = .ok (.iadd, 1)) ∧ (decode cL_law 595 = .ok (.iaload, 1)) ∧ (decode cL_law 596 = .ok (.aload_n 0, 1)) ∧ (decode cL_law 597 = .ok (.iload_n 3, 1)) ∧ (decode cL_law 598 = .ok (.iconst 2, 1)) ∧ (decode cL_law 599 = .ok (.iadd, 1)) ∧ (decode cL_law 600 = .ok (.iaload, 1)) ∧ (decode cL_law 601 = .ok (.invokevirtual 77, 3)) := by decide +kernel
theorem dL_law_590 : decode cL_law 590 = .ok (.aload_n 2, 1) := dLg_37.1
theorem dL_law_591 : decode cL_law 591 = .ok (.aload_n 0, 1) := dLg_37.2.1
theorem dL_law_592 : decode cL_law 592 = .ok (.iload_n 3, 1) := dLg_37.2.2.1
theorem dL_law_593 : decode cL_law 593 = .ok (.iconst 1, 1) := dLg_37.2.2.2.1
theorem dL_law_594 : decode cL_law 594 = .ok (.iadd, 1) := dLg_37.2.2.2.2.1
theorem dL_law_595 : decode cL_law 595 = .ok (.iaload, 1) := dLg_37.2.2.2.2.2.1
theorem dL_law_596 : decode cL_law 596 = .ok (.aload_n 0, 1) := dLg_37.2.2.2.2.2.2.1
theorem dL_law_597 : decode cL_law 597 = .ok (.iload_n 3, 1) := dLg_37.2.2.2.2.2.2.2.1
theorem dL_law_598 : decode cL_law 598 = .ok (.iconst 2, 1) := dLg_37.2.2.2.2.2.2.2.2.1
theorem dL_law_599 : decode cL_law 599 = .ok (.iadd, 1) := dLg_37.2.2.2.2.2.2.2.2.2.1
theorem dL_law_600 : decode cL_law 600 = .ok (.iaload, 1) := dLg_37.2.2.2.2.2.2.2.2.2.2.1
theorem dL_law_601 : decode cL_law 601 = .ok (.invokevirtual 77, 3) := dLg_37.2.2.2.2.2.2.2.2.2.2.2
theorem dLg_38 : (decode cL_law 604 = .ok (.if_icmp .eq 582, 3)) ∧ (decode cL_law 607 = .ok (.iconst 0, 1)) ∧ (decode cL_law 608 = .ok (.ireturn, 1)) := by decide +kernel
theorem dL_law_604 : decode cL_law 604 = .ok (.if_icmp .eq 582, 3) := dLg_38.1
theorem dL_law_607 : decode cL_law 607 = .ok (.iconst 0, 1) := dLg_38.2.1
theorem dL_law_608 : decode cL_law 608 = .ok (.ireturn, 1) := dLg_38.2.2
theorem dLg_39 : (decode cL_law 609 = .ok (.aload_n 1, 1)) ∧ (decode cL_law 610 = .ok (.aload_n 0, 1)) ∧ (decode cL_law 611 = .ok (.iload_n 3, 1)) ∧ (decode cL_law 612 = .ok (.iconst 1, 1)) ∧ (decode cL_law 613 = .ok (.iadd, 1)) ∧ (decode cL_law 614 = .ok (.iaload, 1)) ∧ (decode cL_law 615 = .ok (.aload_n 0, 1)) ∧ (decode cL_law 616 = .ok (.iload_n 3, 1)) ∧ (decode cL_law 617 = .ok (.iconst 2, 1)) ∧ (decode cL_law 618 = .ok (.iadd, 1)) ∧ (decode cL_law 619 = .ok (.iaload, 1)) ∧ (decode cL_law 620 = .ok (.invokevirtual 78, 3)) := by decide +kernel
theorem dL_law_609 : decode cL_law 609 = .ok (.aload_n 1, 1) := dLg_39.1
theorem dL_law_610 : decode cL_law 610 = .ok (.aload_n 0, 1) := dLg_39.2.1
theorem dL_law_611 : decode cL_law 611 = .ok (.iload_n 3, 1) := dLg_39.2.2.1
theorem dL_law_612 : decode cL_law 612 = .ok (.iconst 1, 1) := dLg_39.2.2.2.1
theorem dL_law_613 : decode cL_law 613 = .ok (.iadd, 1) := dLg_39.2.2.2.2.1
theorem dL_law_614 : decode cL_law 614 = .ok (.iaload, 1) := dLg_39.2.2.2.2.2.1
theorem dL_law_615 : decode cL_law 615 = .ok (.aload_n 0, 1) := dLg_39.2.2.2.2.2.2.1
theorem dL_law_616 : decode cL_law 616 = .ok (.iload_n 3, 1) := dLg_39.2.2.2.2.2.2.2.1
theorem dL_law_617 : decode cL_law 617 = .ok (.iconst 2, 1) := dLg_39.2.2.2.2.2.2.2.2.1
theorem dL_law_618 : decode cL_law 618 = .ok (.iadd, 1) := dLg_39.2.2.2.2.2.2.2.2.2.1
theorem dL_law_619 : decode cL_law 619 = .ok (.iaload, 1) := dLg_39.2.2.2.2.2.2.2.2.2.2.1
theorem dL_law_620 : decode cL_law 620 = .ok (.invokevirtual 78, 3) := dLg_39.2.2.2.2.2.2.2.2.2.2.2
theorem dLg_40 : (decode cL_law 623 = .ok (.aload_n 2, 1)) ∧ (decode cL_law 624 = .ok (.aload_n 0, 1)) ∧ (decode cL_law 625 = .ok (.iload_n 3, 1)) ∧ (decode cL_law 626 = .ok (.iconst 1, 1)) ∧ (decode cL_law 627 = .ok (.iadd, 1)) ∧ (decode cL_law 628 = .ok (.iaload, 1)) ∧ (decode cL_law 629 = .ok (.aload_n 0, 1)) ∧ (decode cL_law 630 = .ok (.iload_n 3, 1)) ∧ (decode cL_law 631 = .ok (.iconst 2, 1)) ∧ (decode cL_law 632 = .ok (.iadd, 1)) ∧ (decode cL_law 633 = .ok (.iaload, 1)) ∧ (decode cL_law 634 = .ok (.invokevirtual 81, 3)) := by decide +kernel
theorem dL_law_623 : decode cL_law 623 = .ok (.aload_n 2, 1) := dLg_40.1
theorem dL_law_624 : decode cL_law 624 = .ok (.aload_n 0, 1) := dLg_40.2.1
theorem dL_law_625 : decode cL_law 625 = .ok (.iload_n 3, 1) := dLg_40.2.2.1
theorem dL_law_626 : decode cL_law 626 = .ok (.iconst 1, 1) := dLg_40.2.2.2.1
theorem dL_law_627 : decode cL_law 627 = .ok (.iadd, 1) := dLg_40.2.2.2.2.1
theorem dL_law_628 : decode cL_law 628 = .ok (.iaload, 1) := dLg_40.2.2.2.2.2.1
theorem dL_law_629 : decode cL_law 629 = .ok (.aload_n 0, 1) := dLg_40.2.2.2.2.2.2.1
theorem dL_law_630 : decode cL_law 630 = .ok (.iload_n 3, 1) := dLg_40.2.2.2.2.2.2.2.1
theorem dL_law_631 : decode cL_law 631 = .ok (.iconst 2, 1) := dLg_40.2.2.2.2.2.2.2.2.1
theorem dL_law_632 : decode cL_law 632 = .ok (.iadd, 1) := dLg_40.2.2.2.2.2.2.2.2.2.1
theorem dL_law_633 : decode cL_law 633 = .ok (.iaload, 1) := dLg_40.2.2.2.2.2.2.2.2.2.2.1
theorem dL_law_634 : decode cL_law 634 = .ok (.invokevirtual 81, 3) := dLg_40.2.2.2.2.2.2.2.2.2.2.2
theorem dLg_41 : (decode cL_law 637 = .ok (.if_icmp .eq 549, 3)) ∧ (decode cL_law 640 = .ok (.iconst 0, 1)) ∧ (decode cL_law 641 = .ok (.ireturn, 1)) := by decide +kernel
theorem dL_law_637 : decode cL_law 637 = .ok (.if_icmp .eq 549, 3) := dLg_41.1
theorem dL_law_640 : decode cL_law 640 = .ok (.iconst 0, 1) := dLg_41.2.1
theorem dL_law_641 : decode cL_law 641 = .ok (.ireturn, 1) := dLg_41.2.2
theorem dLg_42 : (decode cL_law 642 = .ok (.aload_n 1, 1)) ∧ (decode cL_law 643 = .ok (.invokevirtual 82, 3)) ∧ (decode cL_law 646 = .ok (.aload_n 2, 1)) ∧ (decode cL_law 647 = .ok (.invokevirtual 85, 3)) ∧ (decode cL_law 650 = .ok (.if_icmp .eq 536, 3)) ∧ (decode cL_law 653 = .ok (.iconst 0, 1)) ∧ (decode cL_law 654 = .ok (.ireturn, 1)) := by decide +kernel
theorem dL_law_642 : decode cL_law 642 = .ok (.aload_n 1, 1) := dLg_42.1
theorem dL_law_643 : decode cL_law 643 = .ok (.invokevirtual 82, 3) := dLg_42.2.1
theorem dL_law_646 : decode cL_law 646 = .ok (.aload_n 2, 1) := dLg_42.2.2.1
theorem dL_law_647 : decode cL_law 647 = .ok (.invokevirtual 85, 3) := dLg_42.2.2.2.1
theorem dL_law_650 : decode cL_law 650 = .ok (.if_icmp .eq 536, 3) := dLg_42.2.2.2.2.1
theorem dL_law_653 : decode cL_law 653 = .ok (.iconst 0, 1) := dLg_42.2.2.2.2.2.1
theorem dL_law_654 : decode cL_law 654 = .ok (.ireturn, 1) := dLg_42.2.2.2.2.2.2
theorem dLg_43 : (decode cL_law 655 = .ok (.aload_n 1, 1)) ∧ (decode cL_law 656 = .ok (.aload_n 0, 1)) ∧ (decode cL_law 657 = .ok (.iload_n 3, 1)) ∧ (decode cL_law 658 = .ok (.iconst 1, 1)) ∧ (decode cL_law 659 = .ok (.iadd, 1)) ∧ (decode cL_law 660 = .ok (.iaload, 1)) ∧ (decode cL_law 661 = .ok (.invokevirtual 86, 3)) ∧ (decode cL_law 664 = .ok (.aload_n 2, 1)) ∧ (decode cL_law 665 = .ok (.aload_n 0, 1)) ∧ (decode cL_law 666 = .ok (.iload_n 3, 1)) ∧ (decode cL_law 667 = .ok (.iconst 1, 1)) ∧ (decode cL_law 668 = .ok (.iadd, 1)) := by decide +kernel
theorem dL_law_655 : decode cL_law 655 = .ok (.aload_n 1, 1) := dLg_43.1
theorem dL_law_656 : decode cL_law 656 = .ok (.aload_n 0, 1) := dLg_43.2.1
theorem dL_law_657 : decode cL_law 657 = .ok (.iload_n 3, 1) := dLg_43.2.2.1
theorem dL_law_658 : decode cL_law 658 = .ok (.iconst 1, 1) := dLg_43.2.2.2.1
theorem dL_law_659 : decode cL_law 659 = .ok (.iadd, 1) := dLg_43.2.2.2.2.1
theorem dL_law_660 : decode cL_law 660 = .ok (.iaload, 1) := dLg_43.2.2.2.2.2.1
theorem dL_law_661 : decode cL_law 661 = .ok (.invokevirtual 86, 3) := dLg_43.2.2.2.2.2.2.1
theorem dL_law_664 : decode cL_law 664 = .ok (.aload_n 2, 1) := dLg_43.2.2.2.2.2.2.2.1
theorem dL_law_665 : decode cL_law 665 = .ok (.aload_n 0, 1) := dLg_43.2.2.2.2.2.2.2.2.1
theorem dL_law_666 : decode cL_law 666 = .ok (.iload_n 3, 1) := dLg_43.2.2.2.2.2.2.2.2.2.1
theorem dL_law_667 : decode cL_law 667 = .ok (.iconst 1, 1) := dLg_43.2.2.2.2.2.2.2.2.2.2.1
theorem dL_law_668 : decode cL_law 668 = .ok (.iadd, 1) := dLg_43.2.2.2.2.2.2.2.2.2.2.2
theorem dLg_44 : (decode cL_law 669 = .ok (.iaload, 1)) ∧ (decode cL_law 670 = .ok (.invokevirtual 89, 3)) ∧ (decode cL_law 673 = .ok (.if_icmp .eq 513, 3)) ∧ (decode cL_law 676 = .ok (.iconst 0, 1)) ∧ (decode cL_law 677 = .ok (.ireturn, 1)) := by decide +kernel
theorem dL_law_669 : decode cL_law 669 = .ok (.iaload, 1) := dLg_44.1
theorem dL_law_670 : decode cL_law 670 = .ok (.invokevirtual 89, 3) := dLg_44.2.1
theorem dL_law_673 : decode cL_law 673 = .ok (.if_icmp .eq 513, 3) := dLg_44.2.2.1
theorem dL_law_676 : decode cL_law 676 = .ok (.iconst 0, 1) := dLg_44.2.2.2.1
theorem dL_law_677 : decode cL_law 677 = .ok (.ireturn, 1) := dLg_44.2.2.2.2
theorem dLg_45 : (decode cL_law 678 = .ok (.aload_n 1, 1)) ∧ (decode cL_law 679 = .ok (.aload_n 0, 1)) ∧ (decode cL_law 680 = .ok (.iload_n 3, 1)) ∧ (decode cL_law 681 = .ok (.iconst 1, 1)) ∧ (decode cL_law 682 = .ok (.iadd, 1)) ∧ (decode cL_law 683 = .ok (.iaload, 1)) ∧ (decode cL_law 684 = .ok (.aload_n 0, 1)) ∧ (decode cL_law 685 = .ok (.iload_n 3, 1)) ∧ (decode cL_law 686 = .ok (.iconst 2, 1)) ∧ (decode cL_law 687 = .ok (.iadd, 1)) ∧ (decode cL_law 688 = .ok (.iaload, 1)) ∧ (decode cL_law 689 = .ok (.invokevirtual 90, 3)) := by decide +kernel
theorem dL_law_678 : decode cL_law 678 = .ok (.aload_n 1, 1) := dLg_45.1
theorem dL_law_679 : decode cL_law 679 = .ok (.aload_n 0, 1) := dLg_45.2.1
theorem dL_law_680 : decode cL_law 680 = .ok (.iload_n 3, 1) := dLg_45.2.2.1
theorem dL_law_681 : decode cL_law 681 = .ok (.iconst 1, 1) := dLg_45.2.2.2.1
theorem dL_law_682 : decode cL_law 682 = .ok (.iadd, 1) := dLg_45.2.2.2.2.1
theorem dL_law_683 : decode cL_law 683 = .ok (.iaload, 1) := dLg_45.2.2.2.2.2.1
theorem dL_law_684 : decode cL_law 684 = .ok (.aload_n 0, 1) := dLg_45.2.2.2.2.2.2.1
theorem dL_law_685 : decode cL_law 685 = .ok (.iload_n 3, 1) := dLg_45.2.2.2.2.2.2.2.1
theorem dL_law_686 : decode cL_law 686 = .ok (.iconst 2, 1) := dLg_45.2.2.2.2.2.2.2.2.1
theorem dL_law_687 : decode cL_law 687 = .ok (.iadd, 1) := dLg_45.2.2.2.2.2.2.2.2.2.1
theorem dL_law_688 : decode cL_law 688 = .ok (.iaload, 1) := dLg_45.2.2.2.2.2.2.2.2.2.2.1
theorem dL_law_689 : decode cL_law 689 = .ok (.invokevirtual 90, 3) := dLg_45.2.2.2.2.2.2.2.2.2.2.2
theorem dLg_46 : (decode cL_law 692 = .ok (.aload_n 2, 1)) ∧ (decode cL_law 693 = .ok (.aload_n 0, 1)) ∧ (decode cL_law 694 = .ok (.iload_n 3, 1)) ∧ (decode cL_law 695 = .ok (.iconst 1, 1)) ∧ (decode cL_law 696 = .ok (.iadd, 1)) ∧ (decode cL_law 697 = .ok (.iaload, 1)) ∧ (decode cL_law 698 = .ok (.aload_n 0, 1)) ∧ (decode cL_law 699 = .ok (.iload_n 3, 1)) ∧ (decode cL_law 700 = .ok (.iconst 2, 1)) ∧ (decode cL_law 701 = .ok (.iadd, 1)) ∧ (decode cL_law 702 = .ok (.iaload, 1)) ∧ (decode cL_law 703 = .ok (.invokevirtual 93, 3)) := by decide +kernel
theorem dL_law_692 : decode cL_law 692 = .ok (.aload_n 2, 1) := dLg_46.1
theorem dL_law_693 : decode cL_law 693 = .ok (.aload_n 0, 1) := dLg_46.2.1
theorem dL_law_694 : decode cL_law 694 = .ok (.iload_n 3, 1) := dLg_46.2.2.1
theorem dL_law_695 : decode cL_law 695 = .ok (.iconst 1, 1) := dLg_46.2.2.2.1
theorem dL_law_696 : decode cL_law 696 = .ok (.iadd, 1) := dLg_46.2.2.2.2.1
theorem dL_law_697 : decode cL_law 697 = .ok (.iaload, 1) := dLg_46.2.2.2.2.2.1
theorem dL_law_698 : decode cL_law 698 = .ok (.aload_n 0, 1) := dLg_46.2.2.2.2.2.2.1
theorem dL_law_699 : decode cL_law 699 = .ok (.iload_n 3, 1) := dLg_46.2.2.2.2.2.2.2.1
theorem dL_law_700 : decode cL_law 700 = .ok (.iconst 2, 1) := dLg_46.2.2.2.2.2.2.2.2.1
theorem dL_law_701 : decode cL_law 701 = .ok (.iadd, 1) := dLg_46.2.2.2.2.2.2.2.2.2.1
theorem dL_law_702 : decode cL_law 702 = .ok (.iaload, 1) := dLg_46.2.2.2.2.2.2.2.2.2.2.1
theorem dL_law_703 : decode cL_law 703 = .ok (.invokevirtual 93, 3) := dLg_46.2.2.2.2.2.2.2.2.2.2.2
theorem dLg_47 : (decode cL_law 706 = .ok (.if_icmp .eq 480, 3)) ∧ (decode cL_law 709 = .ok (.iconst 0, 1)) ∧ (decode cL_law 710 = .ok (.ireturn, 1)) := by decide +kernel
theorem dL_law_706 : decode cL_law 706 = .ok (.if_icmp .eq 480, 3) := dLg_47.1
theorem dL_law_709 : decode cL_law 709 = .ok (.iconst 0, 1) := dLg_47.2.1
theorem dL_law_710 : decode cL_law 710 = .ok (.ireturn, 1) := dLg_47.2.2
theorem dLg_48 : (decode cL_law 711 = .ok (.aload_n 1, 1)) ∧ (decode cL_law 712 = .ok (.aload_n 0, 1)) ∧ (decode cL_law 713 = .ok (.iload_n 3, 1)) ∧ (decode cL_law 714 = .ok (.iconst 1, 1)) ∧ (decode cL_law 715 = .ok (.iadd, 1)) ∧ (decode cL_law 716 = .ok (.iaload, 1)) ∧ (decode cL_law 717 = .ok (.invokevirtual 94, 3)) ∧ (decode cL_law 720 = .ok (.aload_n 2, 1)) ∧ (decode cL_law 721 = .ok (.aload_n 0, 1)) ∧ (decode cL_law 722 = .ok (.iload_n 3, 1)) ∧ (decode cL_law 723 = .ok (.iconst 1, 1)) ∧ (decode cL_law 724 = .ok (.iadd, 1)) := by decide +kernel
theorem dL_law_711 : decode cL_law 711 = .ok (.aload_n 1, 1) := dLg_48.1
theorem dL_law_712 : decode cL_law 712 = .ok (.aload_n 0, 1) := dLg_48.2.1
theorem dL_law_713 : decode cL_law 713 = .ok (.iload_n 3, 1) := dLg_48.2.2.1
theorem dL_law_714 : decode cL_law 714 = .ok (.iconst 1, 1) := dLg_48.2.2.2.1
theorem dL_law_715 : decode cL_law 715 = .ok (.iadd, 1) := dLg_48.2.2.2.2.1
theorem dL_law_716 : decode cL_law 716 = .ok (.iaload, 1) := dLg_48.2.2.2.2.2.1
theorem dL_law_717 : decode cL_law 717 = .ok (.invokevirtual 94, 3) := dLg_48.2.2.2.2.2.2.1
theorem dL_law_720 : decode cL_law 720 = .ok (.aload_n 2, 1) := dLg_48.2.2.2.2.2.2.2.1
theorem dL_law_721 : decode cL_law 721 = .ok (.aload_n 0, 1) := dLg_48.2.2.2.2.2.2.2.2.1
theorem dL_law_722 : decode cL_law 722 = .ok (.iload_n 3, 1) := dLg_48.2.2.2.2.2.2.2.2.2.1
theorem dL_law_723 : decode cL_law 723 = .ok (.iconst 1, 1) := dLg_48.2.2.2.2.2.2.2.2.2.2.1
theorem dL_law_724 : decode cL_law 724 = .ok (.iadd, 1) := dLg_48.2.2.2.2.2.2.2.2.2.2.2
theorem dLg_49 : (decode cL_law 725 = .ok (.iaload, 1)) ∧ (decode cL_law 726 = .ok (.invokevirtual 97, 3)) ∧ (decode cL_law 729 = .ok (.if_icmp .eq 457, 3)) ∧ (decode cL_law 732 = .ok (.iconst 0, 1)) ∧ (decode cL_law 733 = .ok (.ireturn, 1)) := by decide +kernel
theorem dL_law_725 : decode cL_law 725 = .ok (.iaload, 1) := dLg_49.1
theorem dL_law_726 : decode cL_law 726 = .ok (.invokevirtual 97, 3) := dLg_49.2.1
theorem dL_law_729 : decode cL_law 729 = .ok (.if_icmp .eq 457, 3) := dLg_49.2.2.1
theorem dL_law_732 : decode cL_law 732 = .ok (.iconst 0, 1) := dLg_49.2.2.2.1
theorem dL_law_733 : decode cL_law 733 = .ok (.ireturn, 1) := dLg_49.2.2.2.2
theorem dLg_50 : (decode cL_law 734 = .ok (.aload_n 1, 1)) ∧ (decode cL_law 735 = .ok (.aload_n 0, 1)) ∧ (decode cL_law 736 = .ok (.iload_n 3, 1)) ∧ (decode cL_law 737 = .ok (.iconst 1, 1)) ∧ (decode cL_law 738 = .ok (.iadd, 1)) ∧ (decode cL_law 739 = .ok (.iaload, 1)) ∧ (decode cL_law 740 = .ok (.aload_n 0, 1)) ∧ (decode cL_law 741 = .ok (.iload_n 3, 1)) ∧ (decode cL_law 742 = .ok (.iconst 2, 1)) ∧ (decode cL_law 743 = .ok (.iadd, 1)) ∧ (decode cL_law 744 = .ok (.iaload, 1)) ∧ (decode cL_law 745 = .ok (.invokevirtual 98, 3)) := by decide +kernel
theorem dL_law_734 : decode cL_law 734 = .ok (.aload_n 1, 1) := dLg_50.1
theorem dL_law_735 : decode cL_law 735 = .ok (.aload_n 0, 1) := dLg_50.2.1
theorem dL_law_736 : decode cL_law 736 = .ok (.iload_n 3, 1) := dLg_50.2.2.1
theorem dL_law_737 : decode cL_law 737 = .ok (.iconst 1, 1) := dLg_50.2.2.2.1
theorem dL_law_738 : decode cL_law 738 = .ok (.iadd, 1) := dLg_50.2.2.2.2.1
theorem dL_law_739 : decode cL_law 739 = .ok (.iaload, 1) := dLg_50.2.2.2.2.2.1
theorem dL_law_740 : decode cL_law 740 = .ok (.aload_n 0, 1) := dLg_50.2.2.2.2.2.2.1
theorem dL_law_741 : decode cL_law 741 = .ok (.iload_n 3, 1) := dLg_50.2.2.2.2.2.2.2.1
theorem dL_law_742 : decode cL_law 742 = .ok (.iconst 2, 1) := dLg_50.2.2.2.2.2.2.2.2.1
theorem dL_law_743 : decode cL_law 743 = .ok (.iadd, 1) := dLg_50.2.2.2.2.2.2.2.2.2.1
theorem dL_law_744 : decode cL_law 744 = .ok (.iaload, 1) := dLg_50.2.2.2.2.2.2.2.2.2.2.1
theorem dL_law_745 : decode cL_law 745 = .ok (.invokevirtual 98, 3) := dLg_50.2.2.2.2.2.2.2.2.2.2.2
theorem dLg_51 : (decode cL_law 748 = .ok (.aload_n 2, 1)) ∧ (decode cL_law 749 = .ok (.aload_n 0, 1)) ∧ (decode cL_law 750 = .ok (.iload_n 3, 1)) ∧ (decode cL_law 751 = .ok (.iconst 1, 1)) ∧ (decode cL_law 752 = .ok (.iadd, 1)) ∧ (decode cL_law 753 = .ok (.iaload, 1)) ∧ (decode cL_law 754 = .ok (.aload_n 0, 1)) ∧ (decode cL_law 755 = .ok (.iload_n 3, 1)) ∧ (decode cL_law 756 = .ok (.iconst 2, 1)) ∧ (decode cL_law 757 = .ok (.iadd, 1)) ∧ (decode cL_law 758 = .ok (.iaload, 1)) ∧ (decode cL_law 759 = .ok (.invokevirtual 101, 3)) := by decide +kernel
theorem dL_law_748 : decode cL_law 748 = .ok (.aload_n 2, 1) := dLg_51.1
theorem dL_law_749 : decode cL_law 749 = .ok (.aload_n 0, 1) := dLg_51.2.1
theorem dL_law_750 : decode cL_law 750 = .ok (.iload_n 3, 1) := dLg_51.2.2.1
theorem dL_law_751 : decode cL_law 751 = .ok (.iconst 1, 1) := dLg_51.2.2.2.1
theorem dL_law_752 : decode cL_law 752 = .ok (.iadd, 1) := dLg_51.2.2.2.2.1
theorem dL_law_753 : decode cL_law 753 = .ok (.iaload, 1) := dLg_51.2.2.2.2.2.1
theorem dL_law_754 : decode cL_law 754 = .ok (.aload_n 0, 1) := dLg_51.2.2.2.2.2.2.1
theorem dL_law_755 : decode cL_law 755 = .ok (.iload_n 3, 1) := dLg_51.2.2.2.2.2.2.2.1
theorem dL_law_756 : decode cL_law 756 = .ok (.iconst 2, 1) := dLg_51.2.2.2.2.2.2.2.2.1
theorem dL_law_757 : decode cL_law 757 = .ok (.iadd, 1) := dLg_51.2.2.2.2.2.2.2.2.2.1
theorem dL_law_758 : decode cL_law 758 = .ok (.iaload, 1) := dLg_51.2.2.2.2.2.2.2.2.2.2.1
theorem dL_law_759 : decode cL_law 759 = .ok (.invokevirtual 101, 3) := dLg_51.2.2.2.2.2.2.2.2.2.2.2
theorem dLg_52 : (decode cL_law 762 = .ok (.if_icmp .eq 424, 3)) ∧ (decode cL_law 765 = .ok (.iconst 0, 1)) ∧ (decode cL_law 766 = .ok (.ireturn, 1)) := by decide +kernel
theorem dL_law_762 : decode cL_law 762 = .ok (.if_icmp .eq 424, 3) := dLg_52.1
theorem dL_law_765 : decode cL_law 765 = .ok (.iconst 0, 1) := dLg_52.2.1
theorem dL_law_766 : decode cL_law 766 = .ok (.ireturn, 1) := dLg_52.2.2
theorem dLg_53 : (decode cL_law 767 = .ok (.aload_n 1, 1)) ∧ (decode cL_law 768 = .ok (.aload_n 0, 1)) ∧ (decode cL_law 769 = .ok (.iload_n 3, 1)) ∧ (decode cL_law 770 = .ok (.iconst 1, 1)) ∧ (decode cL_law 771 = .ok (.iadd, 1)) ∧ (decode cL_law 772 = .ok (.iaload, 1)) ∧ (decode cL_law 773 = .ok (.aload_n 0, 1)) ∧ (decode cL_law 774 = .ok (.iload_n 3, 1)) ∧ (decode cL_law 775 = .ok (.iconst 2, 1)) ∧ (decode cL_law 776 = .ok (.iadd, 1)) ∧ (decode cL_law 777 = .ok (.iaload, 1)) ∧ (decode cL_law 778 = .ok (.invokevirtual 102, 3)) := by decide +kernel
theorem dL_law_767 : decode cL_law 767 = .ok (.aload_n 1, 1) := dLg_53.1
theorem dL_law_768 : decode cL_law 768 = .ok (.aload_n 0, 1) := dLg_53.2.1
theorem dL_law_769 : decode cL_law 769 = .ok (.iload_n 3, 1) := dLg_53.2.2.1
theorem dL_law_770 : decode cL_law 770 = .ok (.iconst 1, 1) := dLg_53.2.2.2.1
theorem dL_law_771 : decode cL_law 771 = .ok (.iadd, 1) := dLg_53.2.2.2.2.1
theorem dL_law_772 : decode cL_law 772 = .ok (.iaload, 1) := dLg_53.2.2.2.2.2.1
theorem dL_law_773 : decode cL_law 773 = .ok (.aload_n 0, 1) := dLg_53.2.2.2.2.2.2.1
theorem dL_law_774 : decode cL_law 774 = .ok (.iload_n 3, 1) := dLg_53.2.2.2.2.2.2.2.1
theorem dL_law_775 : decode cL_law 775 = .ok (.iconst 2, 1) := dLg_53.2.2.2.2.2.2.2.2.1
theorem dL_law_776 : decode cL_law 776 = .ok (.iadd, 1) := dLg_53.2.2.2.2.2.2.2.2.2.1
theorem dL_law_777 : decode cL_law 777 = .ok (.iaload, 1) := dLg_53.2.2.2.2.2.2.2.2.2.2.1
theorem dL_law_778 : decode cL_law 778 = .ok (.invokevirtual 102, 3) := dLg_53.2.2.2.2.2.2.2.2.2.2.2
theorem dLg_54 : (decode cL_law 781 = .ok (.aload_n 2, 1)) ∧ (decode cL_law 782 = .ok (.aload_n 0, 1)) ∧ (decode cL_law 783 = .ok (.iload_n 3, 1)) ∧ (decode cL_law 784 = .ok (.iconst 1, 1)) ∧ (decode cL_law 785 = .ok (.iadd, 1)) ∧ (decode cL_law 786 = .ok (.iaload, 1)) ∧ (decode cL_law 787 = .ok (.aload_n 0, 1)) ∧ (decode cL_law 788 = .ok (.iload_n 3, 1)) ∧ (decode cL_law 789 = .ok (.iconst 2, 1)) ∧ (decode cL_law 790 = .ok (.iadd, 1)) ∧ (decode cL_law 791 = .ok (.iaload, 1)) ∧ (decode cL_law 792 = .ok (.invokevirtual 105, 3)) := by decide +kernel
theorem dL_law_781 : decode cL_law 781 = .ok (.aload_n 2, 1) := dLg_54.1
theorem dL_law_782 : decode cL_law 782 = .ok (.aload_n 0, 1) := dLg_54.2.1
theorem dL_law_783 : decode cL_law 783 = .ok (.iload_n 3, 1) := dLg_54.2.2.1
theorem dL_law_784 : decode cL_law 784 = .ok (.iconst 1, 1) := dLg_54.2.2.2.1
theorem dL_law_785 : decode cL_law 785 = .ok (.iadd, 1) := dLg_54.2.2.2.2.1
theorem dL_law_786 : decode cL_law 786 = .ok (.iaload, 1) := dLg_54.2.2.2.2.2.1
theorem dL_law_787 : decode cL_law 787 = .ok (.aload_n 0, 1) := dLg_54.2.2.2.2.2.2.1
theorem dL_law_788 : decode cL_law 788 = .ok (.iload_n 3, 1) := dLg_54.2.2.2.2.2.2.2.1
theorem dL_law_789 : decode cL_law 789 = .ok (.iconst 2, 1) := dLg_54.2.2.2.2.2.2.2.2.1
theorem dL_law_790 : decode cL_law 790 = .ok (.iadd, 1) := dLg_54.2.2.2.2.2.2.2.2.2.1
theorem dL_law_791 : decode cL_law 791 = .ok (.iaload, 1) := dLg_54.2.2.2.2.2.2.2.2.2.2.1
theorem dL_law_792 : decode cL_law 792 = .ok (.invokevirtual 105, 3) := dLg_54.2.2.2.2.2.2.2.2.2.2.2
theorem dLg_55 : (decode cL_law 795 = .ok (.if_icmp .eq 391, 3)) ∧ (decode cL_law 798 = .ok (.iconst 0, 1)) ∧ (decode cL_law 799 = .ok (.ireturn, 1)) := by decide +kernel
theorem dL_law_795 : decode cL_law 795 = .ok (.if_icmp .eq 391, 3) := dLg_55.1
theorem dL_law_798 : decode cL_law 798 = .ok (.iconst 0, 1) := dLg_55.2.1
theorem dL_law_799 : decode cL_law 799 = .ok (.ireturn, 1) := dLg_55.2.2
theorem dLg_56 : (decode cL_law 800 = .ok (.aload_n 1, 1)) ∧ (decode cL_law 801 = .ok (.aload_n 0, 1)) ∧ (decode cL_law 802 = .ok (.iload_n 3, 1)) ∧ (decode cL_law 803 = .ok (.iconst 1, 1)) ∧ (decode cL_law 804 = .ok (.iadd, 1)) ∧ (decode cL_law 805 = .ok (.iaload, 1)) ∧ (decode cL_law 806 = .ok (.aload_n 0, 1)) ∧ (decode cL_law 807 = .ok (.iload_n 3, 1)) ∧ (decode cL_law 808 = .ok (.iconst 2, 1)) ∧ (decode cL_law 809 = .ok (.iadd, 1)) ∧ (decode cL_law 810 = .ok (.iaload, 1)) ∧ (decode cL_law 811 = .ok (.aload_n 0, 1)) := by decide +kernel
theorem dL_law_800 : decode cL_law 800 = .ok (.aload_n 1, 1) := dLg_56.1
theorem dL_law_801 : decode cL_law 801 = .ok (.aload_n 0, 1) := dLg_56.2.1
theorem dL_law_802 : decode cL_law 802 = .ok (.iload_n 3, 1) := dLg_56.2.2.1
theorem dL_law_803 : decode cL_law 803 = .ok (.iconst 1, 1) := dLg_56.2.2.2.1
theorem dL_law_804 : decode cL_law 804 = .ok (.iadd, 1) := dLg_56.2.2.2.2.1
theorem dL_law_805 : decode cL_law 805 = .ok (.iaload, 1) := dLg_56.2.2.2.2.2.1
theorem dL_law_806 : decode cL_law 806 = .ok (.aload_n 0, 1) := dLg_56.2.2.2.2.2.2.1
theorem dL_law_807 : decode cL_law 807 = .ok (.iload_n 3, 1) := dLg_56.2.2.2.2.2.2.2.1
theorem dL_law_808 : decode cL_law 808 = .ok (.iconst 2, 1) := dLg_56.2.2.2.2.2.2.2.2.1
theorem dL_law_809 : decode cL_law 809 = .ok (.iadd, 1) := dLg_56.2.2.2.2.2.2.2.2.2.1
theorem dL_law_810 : decode cL_law 810 = .ok (.iaload, 1) := dLg_56.2.2.2.2.2.2.2.2.2.2.1
theorem dL_law_811 : decode cL_law 811 = .ok (.aload_n 0, 1) := dLg_56.2.2.2.2.2.2.2.2.2.2.2
theorem dLg_57 : (decode cL_law 812 = .ok (.iload_n 3, 1)) ∧ (decode cL_law 813 = .ok (.iconst 3, 1)) ∧ (decode cL_law 814 = .ok (.iadd, 1)) ∧ (decode cL_law 815 = .ok (.iaload, 1)) ∧ (decode cL_law 816 = .ok (.aload_n 0, 1)) ∧ (decode cL_law 817 = .ok (.iload_n 3, 1)) ∧ (decode cL_law 818 = .ok (.iconst 4, 1)) ∧ (decode cL_law 819 = .ok (.iadd, 1)) ∧ (decode cL_law 820 = .ok (.iaload, 1)) ∧ (decode cL_law 821 = .ok (.aload_n 0, 1)) ∧ (decode cL_law 822 = .ok (.iload_n 3, 1)) ∧ (decode cL_law 823 = .ok (.iconst 5, 1)) := by decide +kernel
theorem dL_law_812 : decode cL_law 812 = .ok (.iload_n 3, 1) := dLg_57.1
theorem dL_law_813 : decode cL_law 813 = .ok (.iconst 3, 1) := dLg_57.2.1
theorem dL_law_814 : decode cL_law 814 = .ok (.iadd, 1) := dLg_57.2.2.1
theorem dL_law_815 : decode cL_law 815 = .ok (.iaload, 1) := dLg_57.2.2.2.1
theorem dL_law_816 : decode cL_law 816 = .ok (.aload_n 0, 1) := dLg_57.2.2.2.2.1
theorem dL_law_817 : decode cL_law 817 = .ok (.iload_n 3, 1) := dLg_57.2.2.2.2.2.1
theorem dL_law_818 : decode cL_law 818 = .ok (.iconst 4, 1) := dLg_57.2.2.2.2.2.2.1
theorem dL_law_819 : decode cL_law 819 = .ok (.iadd, 1) := dLg_57.2.2.2.2.2.2.2.1
theorem dL_law_820 : decode cL_law 820 = .ok (.iaload, 1) := dLg_57.2.2.2.2.2.2.2.2.1
theorem dL_law_821 : decode cL_law 821 = .ok (.aload_n 0, 1) := dLg_57.2.2.2.2.2.2.2.2.2.1
theorem dL_law_822 : decode cL_law 822 = .ok (.iload_n 3, 1) := dLg_57.2.2.2.2.2.2.2.2.2.2.1
theorem dL_law_823 : decode cL_law 823 = .ok (.iconst 5, 1) := dLg_57.2.2.2.2.2.2.2.2.2.2.2
theorem dLg_58 : (decode cL_law 824 = .ok (.iadd, 1)) ∧ (decode cL_law 825 = .ok (.iaload, 1)) ∧ (decode cL_law 826 = .ok (.invokevirtual 106, 3)) ∧ (decode cL_law 829 = .ok (.aload_n 2, 1)) ∧ (decode cL_law 830 = .ok (.aload_n 0, 1)) ∧ (decode cL_law 831 = .ok (.iload_n 3, 1)) ∧ (decode cL_law 832 = .ok (.iconst 1, 1)) ∧ (decode cL_law 833 = .ok (.iadd, 1)) ∧ (decode cL_law 834 = .ok (.iaload, 1)) ∧ (decode cL_law 835 = .ok (.aload_n 0, 1)) ∧ (decode cL_law 836 = .ok (.iload_n 3, 1)) ∧ (decode cL_law 837 = .ok (.iconst 2, 1)) := by decide +kernel
theorem dL_law_824 : decode cL_law 824 = .ok (.iadd, 1) := dLg_58.1
theorem dL_law_825 : decode cL_law 825 = .ok (.iaload, 1) := dLg_58.2.1
theorem dL_law_826 : decode cL_law 826 = .ok (.invokevirtual 106, 3) := dLg_58.2.2.1
theorem dL_law_829 : decode cL_law 829 = .ok (.aload_n 2, 1) := dLg_58.2.2.2.1
theorem dL_law_830 : decode cL_law 830 = .ok (.aload_n 0, 1) := dLg_58.2.2.2.2.1
theorem dL_law_831 : decode cL_law 831 = .ok (.iload_n 3, 1) := dLg_58.2.2.2.2.2.1
theorem dL_law_832 : decode cL_law 832 = .ok (.iconst 1, 1) := dLg_58.2.2.2.2.2.2.1
theorem dL_law_833 : decode cL_law 833 = .ok (.iadd, 1) := dLg_58.2.2.2.2.2.2.2.1
theorem dL_law_834 : decode cL_law 834 = .ok (.iaload, 1) := dLg_58.2.2.2.2.2.2.2.2.1
theorem dL_law_835 : decode cL_law 835 = .ok (.aload_n 0, 1) := dLg_58.2.2.2.2.2.2.2.2.2.1
theorem dL_law_836 : decode cL_law 836 = .ok (.iload_n 3, 1) := dLg_58.2.2.2.2.2.2.2.2.2.2.1
theorem dL_law_837 : decode cL_law 837 = .ok (.iconst 2, 1) := dLg_58.2.2.2.2.2.2.2.2.2.2.2
theorem dLg_59 : (decode cL_law 838 = .ok (.iadd, 1)) ∧ (decode cL_law 839 = .ok (.iaload, 1)) ∧ (decode cL_law 840 = .ok (.aload_n 0, 1)) ∧ (decode cL_law 841 = .ok (.iload_n 3, 1)) ∧ (decode cL_law 842 = .ok (.iconst 3, 1)) ∧ (decode cL_law 843 = .ok (.iadd, 1)) ∧ (decode cL_law 844 = .ok (.iaload, 1)) ∧ (decode cL_law 845 = .ok (.aload_n 0, 1)) ∧ (decode cL_law 846 = .ok (.iload_n 3, 1)) ∧ (decode cL_law 847 = .ok (.iconst 4, 1)) ∧ (decode cL_law 848 = .ok (.iadd, 1)) ∧ (decode cL_law 849 = .ok (.iaload, 1)) := by decide +kernel
theorem dL_law_838 : decode cL_law 838 = .ok (.iadd, 1) := dLg_59.1
theorem dL_law_839 : decode cL_law 839 = .ok (.iaload, 1) := dLg_59.2.1
theorem dL_law_840 : decode cL_law 840 = .ok (.aload_n 0, 1) := dLg_59.2.2.1
theorem dL_law_841 : decode cL_law 841 = .ok (.iload_n 3, 1) := dLg_59.2.2.2.1
theorem dL_law_842 : decode cL_law 842 = .ok (.iconst 3, 1) := dLg_59.2.2.2.2.1
theorem dL_law_843 : decode cL_law 843 = .ok (.iadd, 1) := dLg_59.2.2.2.2.2.1
theorem dL_law_844 : decode cL_law 844 = .ok (.iaload, 1) := dLg_59.2.2.2.2.2.2.1
theorem dL_law_845 : decode cL_law 845 = .ok (.aload_n 0, 1) := dLg_59.2.2.2.2.2.2.2.1
theorem dL_law_846 : decode cL_law 846 = .ok (.iload_n 3, 1) := dLg_59.2.2.2.2.2.2.2.2.1
theorem dL_law_847 : decode cL_law 847 = .ok (.iconst 4, 1) := dLg_59.2.2.2.2.2.2.2.2.2.1
theorem dL_law_848 : decode cL_law 848 = .ok (.iadd, 1) := dLg_59.2.2.2.2.2.2.2.2.2.2.1
theorem dL_law_849 : decode cL_law 849 = .ok (.iaload, 1) := dLg_59.2.2.2.2.2.2.2.2.2.2.2
theorem dLg_60 : (decode cL_law 850 = .ok (.aload_n 0, 1)) ∧ (decode cL_law 851 = .ok (.iload_n 3, 1)) ∧ (decode cL_law 852 = .ok (.iconst 5, 1)) ∧ (decode cL_law 853 = .ok (.iadd, 1)) ∧ (decode cL_law 854 = .ok (.iaload, 1)) ∧ (decode cL_law 855 = .ok (.invokevirtual 109, 3)) ∧ (decode cL_law 858 = .ok (.if_icmp .eq 328, 3)) ∧ (decode cL_law 861 = .ok (.iconst 0, 1)) ∧ (decode cL_law 862 = .ok (.ireturn, 1)) := by decide +kernel
theorem dL_law_850 : decode cL_law 850 = .ok (.aload_n 0, 1) := dLg_60.1
theorem dL_law_851 : decode cL_law 851 = .ok (.iload_n 3, 1) := dLg_60.2.1
theorem dL_law_852 : decode cL_law 852 = .ok (.iconst 5, 1) := dLg_60.2.2.1
theorem dL_law_853 : decode cL_law 853 = .ok (.iadd, 1) := dLg_60.2.2.2.1
theorem dL_law_854 : decode cL_law 854 = .ok (.iaload, 1) := dLg_60.2.2.2.2.1
theorem dL_law_855 : decode cL_law 855 = .ok (.invokevirtual 109, 3) := dLg_60.2.2.2.2.2.1
theorem dL_law_858 : decode cL_law 858 = .ok (.if_icmp .eq 328, 3) := dLg_60.2.2.2.2.2.2.1
theorem dL_law_861 : decode cL_law 861 = .ok (.iconst 0, 1) := dLg_60.2.2.2.2.2.2.2.1
theorem dL_law_862 : decode cL_law 862 = .ok (.ireturn, 1) := dLg_60.2.2.2.2.2.2.2.2
theorem dLg_61 : (decode cL_law 863 = .ok (.aload_n 1, 1)) ∧ (decode cL_law 864 = .ok (.aload_n 0, 1)) ∧ (decode cL_law 865 = .ok (.iload_n 3, 1)) ∧ (decode cL_law 866 = .ok (.iconst 1, 1)) ∧ (decode cL_law 867 = .ok (.iadd, 1)) ∧ (decode cL_law 868 = .ok (.iaload, 1)) ∧ (decode cL_law 869 = .ok (.aload_n 0, 1)) ∧ (decode cL_law 870 = .ok (.iload_n 3, 1)) ∧ (decode cL_law 871 = .ok (.iconst 2, 1)) ∧ (decode cL_law 872 = .ok (.iadd, 1)) ∧ (decode cL_law 873 = .ok (.iaload, 1)) ∧ (decode cL_law 874 = .ok (.aload_n 0, 1)) := by decide +kernel
theorem dL_law_863 : decode cL_law 863 = .ok (.aload_n 1, 1) := dLg_61.1
theorem dL_law_864 : decode cL_law 864 = .ok (.aload_n 0, 1) := dLg_61.2.1
theorem dL_law_865 : decode cL_law 865 = .ok (.iload_n 3, 1) := dLg_61.2.2.1
theorem dL_law_866 : decode cL_law 866 = .ok (.iconst 1, 1) := dLg_61.2.2.2.1
theorem dL_law_867 : decode cL_law 867 = .ok (.iadd, 1) := dLg_61.2.2.2.2.1
theorem dL_law_868 : decode cL_law 868 = .ok (.iaload, 1) := dLg_61.2.2.2.2.2.1
theorem dL_law_869 : decode cL_law 869 = .ok (.aload_n 0, 1) := dLg_61.2.2.2.2.2.2.1
theorem dL_law_870 : decode cL_law 870 = .ok (.iload_n 3, 1) := dLg_61.2.2.2.2.2.2.2.1
theorem dL_law_871 : decode cL_law 871 = .ok (.iconst 2, 1) := dLg_61.2.2.2.2.2.2.2.2.1
theorem dL_law_872 : decode cL_law 872 = .ok (.iadd, 1) := dLg_61.2.2.2.2.2.2.2.2.2.1
theorem dL_law_873 : decode cL_law 873 = .ok (.iaload, 1) := dLg_61.2.2.2.2.2.2.2.2.2.2.1
theorem dL_law_874 : decode cL_law 874 = .ok (.aload_n 0, 1) := dLg_61.2.2.2.2.2.2.2.2.2.2.2
theorem dLg_62 : (decode cL_law 875 = .ok (.iload_n 3, 1)) ∧ (decode cL_law 876 = .ok (.iconst 3, 1)) ∧ (decode cL_law 877 = .ok (.iadd, 1)) ∧ (decode cL_law 878 = .ok (.iaload, 1)) ∧ (decode cL_law 879 = .ok (.invokevirtual 110, 3)) ∧ (decode cL_law 882 = .ok (.aload_n 2, 1)) ∧ (decode cL_law 883 = .ok (.aload_n 0, 1)) ∧ (decode cL_law 884 = .ok (.iload_n 3, 1)) ∧ (decode cL_law 885 = .ok (.iconst 1, 1)) ∧ (decode cL_law 886 = .ok (.iadd, 1)) ∧ (decode cL_law 887 = .ok (.iaload, 1)) ∧ (decode cL_law 888 = .ok (.aload_n 0, 1)) := by decide +kernel
theorem dL_law_875 : decode cL_law 875 = .ok (.iload_n 3, 1) := dLg_62.1
theorem dL_law_876 : decode cL_law 876 = .ok (.iconst 3, 1) := dLg_62.2.1
theorem dL_law_877 : decode cL_law 877 = .ok (.iadd, 1) := dLg_62.2.2.1
theorem dL_law_878 : decode cL_law 878 = .ok (.iaload, 1) := dLg_62.2.2.2.1
theorem dL_law_879 : decode cL_law 879 = .ok (.invokevirtual 110, 3) := dLg_62.2.2.2.2.1
theorem dL_law_882 : decode cL_law 882 = .ok (.aload_n 2, 1) := dLg_62.2.2.2.2.2.1
theorem dL_law_883 : decode cL_law 883 = .ok (.aload_n 0, 1) := dLg_62.2.2.2.2.2.2.1
theorem dL_law_884 : decode cL_law 884 = .ok (.iload_n 3, 1) := dLg_62.2.2.2.2.2.2.2.1
theorem dL_law_885 : decode cL_law 885 = .ok (.iconst 1, 1) := dLg_62.2.2.2.2.2.2.2.2.1
theorem dL_law_886 : decode cL_law 886 = .ok (.iadd, 1) := dLg_62.2.2.2.2.2.2.2.2.2.1
theorem dL_law_887 : decode cL_law 887 = .ok (.iaload, 1) := dLg_62.2.2.2.2.2.2.2.2.2.2.1
theorem dL_law_888 : decode cL_law 888 = .ok (.aload_n 0, 1) := dLg_62.2.2.2.2.2.2.2.2.2.2.2
theorem dLg_63 : (decode cL_law 889 = .ok (.iload_n 3, 1)) ∧ (decode cL_law 890 = .ok (.iconst 2, 1)) ∧ (decode cL_law 891 = .ok (.iadd, 1)) ∧ (decode cL_law 892 = .ok (.iaload, 1)) ∧ (decode cL_law 893 = .ok (.aload_n 0, 1)) ∧ (decode cL_law 894 = .ok (.iload_n 3, 1)) ∧ (decode cL_law 895 = .ok (.iconst 3, 1)) ∧ (decode cL_law 896 = .ok (.iadd, 1)) ∧ (decode cL_law 897 = .ok (.iaload, 1)) ∧ (decode cL_law 898 = .ok (.invokevirtual 113, 3)) ∧ (decode cL_law 901 = .ok (.if_icmp .eq 285, 3)) ∧ (decode cL_law 904 = .ok (.iconst 0, 1)) := by decide +kernel
theorem dL_law_889 : decode cL_law 889 = .ok (.iload_n 3, 1) := dLg_63.1
theorem dL_law_890 : decode cL_law 890 = .ok (.iconst 2, 1) := dLg_63.2.1
theorem dL_law_891 : decode cL_law 891 = .ok (.iadd, 1) := dLg_63.2.2.1
theorem dL_law_892 : decode cL_law 892 = .ok (.iaload, 1) := dLg_63.2.2.2.1
theorem dL_law_893 : decode cL_law 893 = .ok (.aload_n 0, 1) := dLg_63.2.2.2.2.1
theorem dL_law_894 : decode cL_law 894 = .ok (.iload_n 3, 1) := dLg_63.2.2.2.2.2.1
theorem dL_law_895 : decode cL_law 895 = .ok (.iconst 3, 1) := dLg_63.2.2.2.2.2.2.1
theorem dL_law_896 : decode cL_law 896 = .ok (.iadd, 1) := dLg_63.2.2.2.2.2.2.2.1
theorem dL_law_897 : decode cL_law 897 = .ok (.iaload, 1) := dLg_63.2.2.2.2.2.2.2.2.1
theorem dL_law_898 : decode cL_law 898 = .ok (.invokevirtual 113, 3) := dLg_63.2.2.2.2.2.2.2.2.2.1
theorem dL_law_901 : decode cL_law 901 = .ok (.if_icmp .eq 285, 3) := dLg_63.2.2.2.2.2.2.2.2.2.2.1
theorem dL_law_904 : decode cL_law 904 = .ok (.iconst 0, 1) := dLg_63.2.2.2.2.2.2.2.2.2.2.2
theorem dL_law_905 : decode cL_law 905 = .ok (.ireturn, 1) := by decide +kernel
theorem dLg_65 : (decode cL_law 906 = .ok (.aload_n 1, 1)) ∧ (decode cL_law 907 = .ok (.aload_n 0, 1)) ∧ (decode cL_law 908 = .ok (.iload_n 3, 1)) ∧ (decode cL_law 909 = .ok (.iconst 1, 1)) ∧ (decode cL_law 910 = .ok (.iadd, 1)) ∧ (decode cL_law 911 = .ok (.iaload, 1)) ∧ (decode cL_law 912 = .ok (.aload_n 0, 1)) ∧ (decode cL_law 913 = .ok (.iload_n 3, 1)) ∧ (decode cL_law 914 = .ok (.iconst 2, 1)) ∧ (decode cL_law 915 = .ok (.iadd, 1)) ∧ (decode cL_law 916 = .ok (.iaload, 1)) ∧ (decode cL_law 917 = .ok (.aload_n 0, 1)) := by decide +kernel
theorem dL_law_906 : decode cL_law 906 = .ok (.aload_n 1, 1) := dLg_65.1
theorem dL_law_907 : decode cL_law 907 = .ok (.aload_n 0, 1) := dLg_65.2.1
theorem dL_law_908 : decode cL_law 908 = .ok (.iload_n 3, 1) := dLg_65.2.2.1
theorem dL_law_909 : decode cL_law 909 = .ok (.iconst 1, 1) := dLg_65.2.2.2.1
theorem dL_law_910 : decode cL_law 910 = .ok (.iadd, 1) := dLg_65.2.2.2.2.1
theorem dL_law_911 : decode cL_law 911 = .ok (.iaload, 1) := dLg_65.2.2.2.2.2.1
theorem dL_law_912 : decode cL_law 912 = .ok (.aload_n 0, 1) := dLg_65.2.2.2.2.2.2.1
theorem dL_law_913 : decode cL_law 913 = .ok (.iload_n 3, 1) := dLg_65.2.2.2.2.2.2.2.1
theorem dL_law_914 : decode cL_law 914 = .ok (.iconst 2, 1) := dLg_65.2.2.2.2.2.2.2.2.1
theorem dL_law_915 : decode cL_law 915 = .ok (.iadd, 1) := dLg_65.2.2.2.2.2.2.2.2.2.1
theorem dL_law_916 : decode cL_law 916 = .ok (.iaload, 1) := dLg_65.2.2.2.2.2.2.2.2.2.2.1
theorem dL_law_917 : decode cL_law 917 = .ok (.aload_n 0, 1) := dLg_65.2.2.2.2.2.2.2.2.2.2.2
theorem dLg_66 : (decode cL_law 918 = .ok (.iload_n 3, 1)) ∧ (decode cL_law 919 = .ok (.iconst 3, 1)) ∧ (decode cL_law 920 = .ok (.iadd, 1)) ∧ (decode cL_law 921 = .ok (.iaload, 1)) ∧ (decode cL_law 922 = .ok (.invokevirtual 114, 3)) ∧ (decode cL_law 925 = .ok (.aload_n 2, 1)) ∧ (decode cL_law 926 = .ok (.aload_n 0, 1)) ∧ (decode cL_law 927 = .ok (.iload_n 3, 1)) ∧ (decode cL_law 928 = .ok (.iconst 1, 1)) ∧ (decode cL_law 929 = .ok (.iadd, 1)) ∧ (decode cL_law 930 = .ok (.iaload, 1)) ∧ (decode cL_law 931 = .ok (.aload_n 0, 1)) := by decide +kernel
theorem dL_law_918 : decode cL_law 918 = .ok (.iload_n 3, 1) := dLg_66.1
theorem dL_law_919 : decode cL_law 919 = .ok (.iconst 3, 1) := dLg_66.2.1
theorem dL_law_920 : decode cL_law 920 = .ok (.iadd, 1) := dLg_66.2.2.1
theorem dL_law_921 : decode cL_law 921 = .ok (.iaload, 1) := dLg_66.2.2.2.1
theorem dL_law_922 : decode cL_law 922 = .ok (.invokevirtual 114, 3) := dLg_66.2.2.2.2.1
theorem dL_law_925 : decode cL_law 925 = .ok (.aload_n 2, 1) := dLg_66.2.2.2.2.2.1
theorem dL_law_926 : decode cL_law 926 = .ok (.aload_n 0, 1) := dLg_66.2.2.2.2.2.2.1
theorem dL_law_927 : decode cL_law 927 = .ok (.iload_n 3, 1) := dLg_66.2.2.2.2.2.2.2.1
theorem dL_law_928 : decode cL_law 928 = .ok (.iconst 1, 1) := dLg_66.2.2.2.2.2.2.2.2.1
theorem dL_law_929 : decode cL_law 929 = .ok (.iadd, 1) := dLg_66.2.2.2.2.2.2.2.2.2.1
theorem dL_law_930 : decode cL_law 930 = .ok (.iaload, 1) := dLg_66.2.2.2.2.2.2.2.2.2.2.1
theorem dL_law_931 : decode cL_law 931 = .ok (.aload_n 0, 1) := dLg_66.2.2.2.2.2.2.2.2.2.2.2
theorem dLg_67 : (decode cL_law 932 = .ok (.iload_n 3, 1)) ∧ (decode cL_law 933 = .ok (.iconst 2, 1)) ∧ (decode cL_law 934 = .ok (.iadd, 1)) ∧ (decode cL_law 935 = .ok (.iaload, 1)) ∧ (decode cL_law 936 = .ok (.aload_n 0, 1)) ∧ (decode cL_law 937 = .ok (.iload_n 3, 1)) ∧ (decode cL_law 938 = .ok (.iconst 3, 1)) ∧ (decode cL_law 939 = .ok (.iadd, 1)) ∧ (decode cL_law 940 = .ok (.iaload, 1)) ∧ (decode cL_law 941 = .ok (.invokevirtual 117, 3)) ∧ (decode cL_law 944 = .ok (.if_icmp .eq 242, 3)) ∧ (decode cL_law 947 = .ok (.iconst 0, 1)) := by decide +kernel
theorem dL_law_932 : decode cL_law 932 = .ok (.iload_n 3, 1) := dLg_67.1
theorem dL_law_933 : decode cL_law 933 = .ok (.iconst 2, 1) := dLg_67.2.1
theorem dL_law_934 : decode cL_law 934 = .ok (.iadd, 1) := dLg_67.2.2.1
theorem dL_law_935 : decode cL_law 935 = .ok (.iaload, 1) := dLg_67.2.2.2.1
theorem dL_law_936 : decode cL_law 936 = .ok (.aload_n 0, 1) := dLg_67.2.2.2.2.1
theorem dL_law_937 : decode cL_law 937 = .ok (.iload_n 3, 1) := dLg_67.2.2.2.2.2.1
theorem dL_law_938 : decode cL_law 938 = .ok (.iconst 3, 1) := dLg_67.2.2.2.2.2.2.1
theorem dL_law_939 : decode cL_law 939 = .ok (.iadd, 1) := dLg_67.2.2.2.2.2.2.2.1
theorem dL_law_940 : decode cL_law 940 = .ok (.iaload, 1) := dLg_67.2.2.2.2.2.2.2.2.1
theorem dL_law_941 : decode cL_law 941 = .ok (.invokevirtual 117, 3) := dLg_67.2.2.2.2.2.2.2.2.2.1
theorem dL_law_944 : decode cL_law 944 = .ok (.if_icmp .eq 242, 3) := dLg_67.2.2.2.2.2.2.2.2.2.2.1
theorem dL_law_947 : decode cL_law 947 = .ok (.iconst 0, 1) := dLg_67.2.2.2.2.2.2.2.2.2.2.2
theorem dL_law_948 : decode cL_law 948 = .ok (.ireturn, 1) := by decide +kernel
theorem dLg_69 : (decode cL_law 949 = .ok (.aload_n 1, 1)) ∧ (decode cL_law 950 = .ok (.aload_n 0, 1)) ∧ (decode cL_law 951 = .ok (.iload_n 3, 1)) ∧ (decode cL_law 952 = .ok (.iconst 1, 1)) ∧ (decode cL_law 953 = .ok (.iadd, 1)) ∧ (decode cL_law 954 = .ok (.iaload, 1)) ∧ (decode cL_law 955 = .ok (.aload_n 0, 1)) ∧ (decode cL_law 956 = .ok (.iload_n 3, 1)) ∧ (decode cL_law 957 = .ok (.iconst 2, 1)) ∧ (decode cL_law 958 = .ok (.iadd, 1)) ∧ (decode cL_law 959 = .ok (.iaload, 1)) ∧ (decode cL_law 960 = .ok (.aload_n 0, 1)) := by decide +kernel
theorem dL_law_949 : decode cL_law 949 = .ok (.aload_n 1, 1) := dLg_69.1
theorem dL_law_950 : decode cL_law 950 = .ok (.aload_n 0, 1) := dLg_69.2.1
theorem dL_law_951 : decode cL_law 951 = .ok (.iload_n 3, 1) := dLg_69.2.2.1
theorem dL_law_952 : decode cL_law 952 = .ok (.iconst 1, 1) := dLg_69.2.2.2.1
theorem dL_law_953 : decode cL_law 953 = .ok (.iadd, 1) := dLg_69.2.2.2.2.1
theorem dL_law_954 : decode cL_law 954 = .ok (.iaload, 1) := dLg_69.2.2.2.2.2.1
theorem dL_law_955 : decode cL_law 955 = .ok (.aload_n 0, 1) := dLg_69.2.2.2.2.2.2.1
theorem dL_law_956 : decode cL_law 956 = .ok (.iload_n 3, 1) := dLg_69.2.2.2.2.2.2.2.1
theorem dL_law_957 : decode cL_law 957 = .ok (.iconst 2, 1) := dLg_69.2.2.2.2.2.2.2.2.1
theorem dL_law_958 : decode cL_law 958 = .ok (.iadd, 1) := dLg_69.2.2.2.2.2.2.2.2.2.1
theorem dL_law_959 : decode cL_law 959 = .ok (.iaload, 1) := dLg_69.2.2.2.2.2.2.2.2.2.2.1
theorem dL_law_960 : decode cL_law 960 = .ok (.aload_n 0, 1) := dLg_69.2.2.2.2.2.2.2.2.2.2.2
theorem dLg_70 : (decode cL_law 961 = .ok (.iload_n 3, 1)) ∧ (decode cL_law 962 = .ok (.iconst 3, 1)) ∧ (decode cL_law 963 = .ok (.iadd, 1)) ∧ (decode cL_law 964 = .ok (.iaload, 1)) ∧ (decode cL_law 965 = .ok (.invokevirtual 118, 3)) ∧ (decode cL_law 968 = .ok (.aload_n 2, 1)) ∧ (decode cL_law 969 = .ok (.aload_n 0, 1)) ∧ (decode cL_law 970 = .ok (.iload_n 3, 1)) ∧ (decode cL_law 971 = .ok (.iconst 1, 1)) ∧ (decode cL_law 972 = .ok (.iadd, 1)) ∧ (decode cL_law 973 = .ok (.iaload, 1)) ∧ (decode cL_law 974 = .ok (.aload_n 0, 1)) := by decide +kernel
theorem dL_law_961 : decode cL_law 961 = .ok (.iload_n 3, 1) := dLg_70.1
theorem dL_law_962 : decode cL_law 962 = .ok (.iconst 3, 1) := dLg_70.2.1
theorem dL_law_963 : decode cL_law 963 = .ok (.iadd, 1) := dLg_70.2.2.1
theorem dL_law_964 : decode cL_law 964 = .ok (.iaload, 1) := dLg_70.2.2.2.1
theorem dL_law_965 : decode cL_law 965 = .ok (.invokevirtual 118, 3) := dLg_70.2.2.2.2.1
theorem dL_law_968 : decode cL_law 968 = .ok (.aload_n 2, 1) := dLg_70.2.2.2.2.2.1
theorem dL_law_969 : decode cL_law 969 = .ok (.aload_n 0, 1) := dLg_70.2.2.2.2.2.2.1
theorem dL_law_970 : decode cL_law 970 = .ok (.iload_n 3, 1) := dLg_70.2.2.2.2.2.2.2.1
theorem dL_law_971 : decode cL_law 971 = .ok (.iconst 1, 1) := dLg_70.2.2.2.2.2.2.2.2.1
theorem dL_law_972 : decode cL_law 972 = .ok (.iadd, 1) := dLg_70.2.2.2.2.2.2.2.2.2.1
theorem dL_law_973 : decode cL_law 973 = .ok (.iaload, 1) := dLg_70.2.2.2.2.2.2.2.2.2.2.1
theorem dL_law_974 : decode cL_law 974 = .ok (.aload_n 0, 1) := dLg_70.2.2.2.2.2.2.2.2.2.2.2
theorem dLg_71 : (decode cL_law 975 = .ok (.iload_n 3, 1)) ∧ (decode cL_law 976 = .ok (.iconst 2, 1)) ∧ (decode cL_law 977 = .ok (.iadd, 1)) ∧ (decode cL_law 978 = .ok (.iaload, 1)) ∧ (decode cL_law 979 = .ok (.aload_n 0, 1)) ∧ (decode cL_law 980 = .ok (.iload_n 3, 1)) ∧ (decode cL_law 981 = .ok (.iconst 3, 1)) ∧ (decode cL_law 982 = .ok (.iadd, 1)) ∧ (decode cL_law 983 = .ok (.iaload, 1)) ∧ (decode cL_law 984 = .ok (.invokevirtual 121, 3)) ∧ (decode cL_law 987 = .ok (.if_icmp .eq 199, 3)) ∧ (decode cL_law 990 = .ok (.iconst 0, 1)) := by decide +kernel
theorem dL_law_975 : decode cL_law 975 = .ok (.iload_n 3, 1) := dLg_71.1
theorem dL_law_976 : decode cL_law 976 = .ok (.iconst 2, 1) := dLg_71.2.1
theorem dL_law_977 : decode cL_law 977 = .ok (.iadd, 1) := dLg_71.2.2.1
theorem dL_law_978 : decode cL_law 978 = .ok (.iaload, 1) := dLg_71.2.2.2.1
theorem dL_law_979 : decode cL_law 979 = .ok (.aload_n 0, 1) := dLg_71.2.2.2.2.1
theorem dL_law_980 : decode cL_law 980 = .ok (.iload_n 3, 1) := dLg_71.2.2.2.2.2.1
theorem dL_law_981 : decode cL_law 981 = .ok (.iconst 3, 1) := dLg_71.2.2.2.2.2.2.1
theorem dL_law_982 : decode cL_law 982 = .ok (.iadd, 1) := dLg_71.2.2.2.2.2.2.2.1
theorem dL_law_983 : decode cL_law 983 = .ok (.iaload, 1) := dLg_71.2.2.2.2.2.2.2.2.1
theorem dL_law_984 : decode cL_law 984 = .ok (.invokevirtual 121, 3) := dLg_71.2.2.2.2.2.2.2.2.2.1
theorem dL_law_987 : decode cL_law 987 = .ok (.if_icmp .eq 199, 3) := dLg_71.2.2.2.2.2.2.2.2.2.2.1
theorem dL_law_990 : decode cL_law 990 = .ok (.iconst 0, 1) := dLg_71.2.2.2.2.2.2.2.2.2.2.2
theorem dL_law_991 : decode cL_law 991 = .ok (.ireturn, 1) := by decide +kernel
theorem dLg_73 : (decode cL_law 992 = .ok (.aload_n 1, 1)) ∧ (decode cL_law 993 = .ok (.aload_n 0, 1)) ∧ (decode cL_law 994 = .ok (.iload_n 3, 1)) ∧ (decode cL_law 995 = .ok (.iconst 1, 1)) ∧ (decode cL_law 996 = .ok (.iadd, 1)) ∧ (decode cL_law 997 = .ok (.iaload, 1)) ∧ (decode cL_law 998 = .ok (.invokevirtual 122, 3)) ∧ (decode cL_law 1001 = .ok (.aload_n 2, 1)) ∧ (decode cL_law 1002 = .ok (.aload_n 0, 1)) ∧ (decode cL_law 1003 = .ok (.iload_n 3, 1)) ∧ (decode cL_law 1004 = .ok (.iconst 1, 1)) ∧ (decode cL_law 1005 = .ok (.iadd, 1)) := by decide +kernel
theorem dL_law_992 : decode cL_law 992 = .ok (.aload_n 1, 1) := dLg_73.1
theorem dL_law_993 : decode cL_law 993 = .ok (.aload_n 0, 1) := dLg_73.2.1
theorem dL_law_994 : decode cL_law 994 = .ok (.iload_n 3, 1) := dLg_73.2.2.1
theorem dL_law_995 : decode cL_law 995 = .ok (.iconst 1, 1) := dLg_73.2.2.2.1
theorem dL_law_996 : decode cL_law 996 = .ok (.iadd, 1) := dLg_73.2.2.2.2.1
theorem dL_law_997 : decode cL_law 997 = .ok (.iaload, 1) := dLg_73.2.2.2.2.2.1
theorem dL_law_998 : decode cL_law 998 = .ok (.invokevirtual 122, 3) := dLg_73.2.2.2.2.2.2.1
theorem dL_law_1001 : decode cL_law 1001 = .ok (.aload_n 2, 1) := dLg_73.2.2.2.2.2.2.2.1
theorem dL_law_1002 : decode cL_law 1002 = .ok (.aload_n 0, 1) := dLg_73.2.2.2.2.2.2.2.2.1
theorem dL_law_1003 : decode cL_law 1003 = .ok (.iload_n 3, 1) := dLg_73.2.2.2.2.2.2.2.2.2.1
theorem dL_law_1004 : decode cL_law 1004 = .ok (.iconst 1, 1) := dLg_73.2.2.2.2.2.2.2.2.2.2.1
theorem dL_law_1005 : decode cL_law 1005 = .ok (.iadd, 1) := dLg_73.2.2.2.2.2.2.2.2.2.2.2
theorem dLg_74 : (decode cL_law 1006 = .ok (.iaload, 1)) ∧ (decode cL_law 1007 = .ok (.invokevirtual 125, 3)) ∧ (decode cL_law 1010 = .ok (.if_icmp .eq 176, 3)) ∧ (decode cL_law 1013 = .ok (.iconst 0, 1)) ∧ (decode cL_law 1014 = .ok (.ireturn, 1)) := by decide +kernel
theorem dL_law_1006 : decode cL_law 1006 = .ok (.iaload, 1) := dLg_74.1
theorem dL_law_1007 : decode cL_law 1007 = .ok (.invokevirtual 125, 3) := dLg_74.2.1
theorem dL_law_1010 : decode cL_law 1010 = .ok (.if_icmp .eq 176, 3) := dLg_74.2.2.1
theorem dL_law_1013 : decode cL_law 1013 = .ok (.iconst 0, 1) := dLg_74.2.2.2.1
theorem dL_law_1014 : decode cL_law 1014 = .ok (.ireturn, 1) := dLg_74.2.2.2.2
theorem dLg_75 : (decode cL_law 1015 = .ok (.aload_n 1, 1)) ∧ (decode cL_law 1016 = .ok (.aload_n 0, 1)) ∧ (decode cL_law 1017 = .ok (.iload_n 3, 1)) ∧ (decode cL_law 1018 = .ok (.iconst 1, 1)) ∧ (decode cL_law 1019 = .ok (.iadd, 1)) ∧ (decode cL_law 1020 = .ok (.iaload, 1)) ∧ (decode cL_law 1021 = .ok (.invokevirtual 126, 3)) ∧ (decode cL_law 1024 = .ok (.aload_n 2, 1)) ∧ (decode cL_law 1025 = .ok (.aload_n 0, 1)) ∧ (decode cL_law 1026 = .ok (.iload_n 3, 1)) ∧ (decode cL_law 1027 = .ok (.iconst 1, 1)) ∧ (decode cL_law 1028 = .ok (.iadd, 1)) := by decide +kernel
theorem dL_law_1015 : decode cL_law 1015 = .ok (.aload_n 1, 1) := dLg_75.1
theorem dL_law_1016 : decode cL_law 1016 = .ok (.aload_n 0, 1) := dLg_75.2.1
theorem dL_law_1017 : decode cL_law 1017 = .ok (.iload_n 3, 1) := dLg_75.2.2.1
theorem dL_law_1018 : decode cL_law 1018 = .ok (.iconst 1, 1) := dLg_75.2.2.2.1
theorem dL_law_1019 : decode cL_law 1019 = .ok (.iadd, 1) := dLg_75.2.2.2.2.1
theorem dL_law_1020 : decode cL_law 1020 = .ok (.iaload, 1) := dLg_75.2.2.2.2.2.1
theorem dL_law_1021 : decode cL_law 1021 = .ok (.invokevirtual 126, 3) := dLg_75.2.2.2.2.2.2.1
theorem dL_law_1024 : decode cL_law 1024 = .ok (.aload_n 2, 1) := dLg_75.2.2.2.2.2.2.2.1
theorem dL_law_1025 : decode cL_law 1025 = .ok (.aload_n 0, 1) := dLg_75.2.2.2.2.2.2.2.2.1
theorem dL_law_1026 : decode cL_law 1026 = .ok (.iload_n 3, 1) := dLg_75.2.2.2.2.2.2.2.2.2.1
theorem dL_law_1027 : decode cL_law 1027 = .ok (.iconst 1, 1) := dLg_75.2.2.2.2.2.2.2.2.2.2.1
theorem dL_law_1028 : decode cL_law 1028 = .ok (.iadd, 1) := dLg_75.2.2.2.2.2.2.2.2.2.2.2
theorem dLg_76 : (decode cL_law 1029 = .ok (.iaload, 1)) ∧ (decode cL_law 1030 = .ok (.invokevirtual 129, 3)) ∧ (decode cL_law 1033 = .ok (.if_icmp .eq 153, 3)) ∧ (decode cL_law 1036 = .ok (.iconst 0, 1)) ∧ (decode cL_law 1037 = .ok (.ireturn, 1)) := by decide +kernel
theorem dL_law_1029 : decode cL_law 1029 = .ok (.iaload, 1) := dLg_76.1
theorem dL_law_1030 : decode cL_law 1030 = .ok (.invokevirtual 129, 3) := dLg_76.2.1
theorem dL_law_1033 : decode cL_law 1033 = .ok (.if_icmp .eq 153, 3) := dLg_76.2.2.1
theorem dL_law_1036 : decode cL_law 1036 = .ok (.iconst 0, 1) := dLg_76.2.2.2.1
theorem dL_law_1037 : decode cL_law 1037 = .ok (.ireturn, 1) := dLg_76.2.2.2.2
theorem dLg_77 : (decode cL_law 1038 = .ok (.aload_n 1, 1)) ∧ (decode cL_law 1039 = .ok (.aload_n 0, 1)) ∧ (decode cL_law 1040 = .ok (.iload_n 3, 1)) ∧ (decode cL_law 1041 = .ok (.iconst 1, 1)) ∧ (decode cL_law 1042 = .ok (.iadd, 1)) ∧ (decode cL_law 1043 = .ok (.iaload, 1)) ∧ (decode cL_law 1044 = .ok (.invokevirtual 130, 3)) ∧ (decode cL_law 1047 = .ok (.aload_n 2, 1)) ∧ (decode cL_law 1048 = .ok (.aload_n 0, 1)) ∧ (decode cL_law 1049 = .ok (.iload_n 3, 1)) ∧ (decode cL_law 1050 = .ok (.iconst 1, 1)) ∧ (decode cL_law 1051 = .ok (.iadd, 1)) := by decide +kernel
theorem dL_law_1038 : decode cL_law 1038 = .ok (.aload_n 1, 1) := dLg_77.1
theorem dL_law_1039 : decode cL_law 1039 = .ok (.aload_n 0, 1) := dLg_77.2.1
theorem dL_law_1040 : decode cL_law 1040 = .ok (.iload_n 3, 1) := dLg_77.2.2.1
theorem dL_law_1041 : decode cL_law 1041 = .ok (.iconst 1, 1) := dLg_77.2.2.2.1
theorem dL_law_1042 : decode cL_law 1042 = .ok (.iadd, 1) := dLg_77.2.2.2.2.1
theorem dL_law_1043 : decode cL_law 1043 = .ok (.iaload, 1) := dLg_77.2.2.2.2.2.1
theorem dL_law_1044 : decode cL_law 1044 = .ok (.invokevirtual 130, 3) := dLg_77.2.2.2.2.2.2.1
theorem dL_law_1047 : decode cL_law 1047 = .ok (.aload_n 2, 1) := dLg_77.2.2.2.2.2.2.2.1
theorem dL_law_1048 : decode cL_law 1048 = .ok (.aload_n 0, 1) := dLg_77.2.2.2.2.2.2.2.2.1
theorem dL_law_1049 : decode cL_law 1049 = .ok (.iload_n 3, 1) := dLg_77.2.2.2.2.2.2.2.2.2.1
theorem dL_law_1050 : decode cL_law 1050 = .ok (.iconst 1, 1) := dLg_77.2.2.2.2.2.2.2.2.2.2.1
theorem dL_law_1051 : decode cL_law 1051 = .ok (.iadd, 1) := dLg_77.2.2.2.2.2.2.2.2.2.2.2
theorem dLg_78 : (decode cL_law 1052 = .ok (.iaload, 1)) ∧ (decode cL_law 1053 = .ok (.invokevirtual 133, 3)) ∧ (decode cL_law 1056 = .ok (.if_icmp .eq 130, 3)) ∧ (decode cL_law 1059 = .ok (.iconst 0, 1)) ∧ (decode cL_law 1060 = .ok (.ireturn, 1)) := by decide +kernel
theorem dL_law_1052 : decode cL_law 1052 = .ok (.iaload, 1) := dLg_78.1
theorem dL_law_1053 : decode cL_law 1053 = .ok (.invokevirtual 133, 3) := dLg_78.2.1
theorem dL_law_1056 : decode cL_law 1056 = .ok (.if_icmp .eq 130, 3) := dLg_78.2.2.1
theorem dL_law_1059 : decode cL_law 1059 = .ok (.iconst 0, 1) := dLg_78.2.2.2.1
theorem dL_law_1060 : decode cL_law 1060 = .ok (.ireturn, 1) := dLg_78.2.2.2.2
theorem dLg_79 : (decode cL_law 1061 = .ok (.aload_n 1, 1)) ∧ (decode cL_law 1062 = .ok (.aload_n 0, 1)) ∧ (decode cL_law 1063 = .ok (.iload_n 3, 1)) ∧ (decode cL_law 1064 = .ok (.iconst 1, 1)) ∧ (decode cL_law 1065 = .ok (.iadd, 1)) ∧ (decode cL_law 1066 = .ok (.iaload, 1)) ∧ (decode cL_law 1067 = .ok (.aload_n 0, 1)) ∧ (decode cL_law 1068 = .ok (.iload_n 3, 1)) ∧ (decode cL_law 1069 = .ok (.iconst 2, 1)) ∧ (decode cL_law 1070 = .ok (.iadd, 1)) ∧ (decode cL_law 1071 = .ok (.iaload, 1)) ∧ (decode cL_law 1072 = .ok (.invokevirtual 134, 3)) := by decide +kernel
theorem dL_law_1061 : decode cL_law 1061 = .ok (.aload_n 1, 1) := dLg_79.1
theorem dL_law_1062 : decode cL_law 1062 = .ok (.aload_n 0, 1) := dLg_79.2.1
theorem dL_law_1063 : decode cL_law 1063 = .ok (.iload_n 3, 1) := dLg_79.2.2.1
theorem dL_law_1064 : decode cL_law 1064 = .ok (.iconst 1, 1) := dLg_79.2.2.2.1
theorem dL_law_1065 : decode cL_law 1065 = .ok (.iadd, 1) := dLg_79.2.2.2.2.1
theorem dL_law_1066 : decode cL_law 1066 = .ok (.iaload, 1) := dLg_79.2.2.2.2.2.1
theorem dL_law_1067 : decode cL_law 1067 = .ok (.aload_n 0, 1) := dLg_79.2.2.2.2.2.2.1
theorem dL_law_1068 : decode cL_law 1068 = .ok (.iload_n 3, 1) := dLg_79.2.2.2.2.2.2.2.1
theorem dL_law_1069 : decode cL_law 1069 = .ok (.iconst 2, 1) := dLg_79.2.2.2.2.2.2.2.2.1
theorem dL_law_1070 : decode cL_law 1070 = .ok (.iadd, 1) := dLg_79.2.2.2.2.2.2.2.2.2.1
theorem dL_law_1071 : decode cL_law 1071 = .ok (.iaload, 1) := dLg_79.2.2.2.2.2.2.2.2.2.2.1
theorem dL_law_1072 : decode cL_law 1072 = .ok (.invokevirtual 134, 3) := dLg_79.2.2.2.2.2.2.2.2.2.2.2
theorem dLg_80 : (decode cL_law 1075 = .ok (.aload_n 2, 1)) ∧ (decode cL_law 1076 = .ok (.aload_n 0, 1)) ∧ (decode cL_law 1077 = .ok (.iload_n 3, 1)) ∧ (decode cL_law 1078 = .ok (.iconst 1, 1)) ∧ (decode cL_law 1079 = .ok (.iadd, 1)) ∧ (decode cL_law 1080 = .ok (.iaload, 1)) ∧ (decode cL_law 1081 = .ok (.aload_n 0, 1)) ∧ (decode cL_law 1082 = .ok (.iload_n 3, 1)) ∧ (decode cL_law 1083 = .ok (.iconst 2, 1)) ∧ (decode cL_law 1084 = .ok (.iadd, 1)) ∧ (decode cL_law 1085 = .ok (.iaload, 1)) ∧ (decode cL_law 1086 = .ok (.invokevirtual 137, 3)) := by decide +kernel
theorem dL_law_1075 : decode cL_law 1075 = .ok (.aload_n 2, 1) := dLg_80.1
theorem dL_law_1076 : decode cL_law 1076 = .ok (.aload_n 0, 1) := dLg_80.2.1
theorem dL_law_1077 : decode cL_law 1077 = .ok (.iload_n 3, 1) := dLg_80.2.2.1
theorem dL_law_1078 : decode cL_law 1078 = .ok (.iconst 1, 1) := dLg_80.2.2.2.1
theorem dL_law_1079 : decode cL_law 1079 = .ok (.iadd, 1) := dLg_80.2.2.2.2.1
theorem dL_law_1080 : decode cL_law 1080 = .ok (.iaload, 1) := dLg_80.2.2.2.2.2.1
theorem dL_law_1081 : decode cL_law 1081 = .ok (.aload_n 0, 1) := dLg_80.2.2.2.2.2.2.1
theorem dL_law_1082 : decode cL_law 1082 = .ok (.iload_n 3, 1) := dLg_80.2.2.2.2.2.2.2.1
theorem dL_law_1083 : decode cL_law 1083 = .ok (.iconst 2, 1) := dLg_80.2.2.2.2.2.2.2.2.1
theorem dL_law_1084 : decode cL_law 1084 = .ok (.iadd, 1) := dLg_80.2.2.2.2.2.2.2.2.2.1
theorem dL_law_1085 : decode cL_law 1085 = .ok (.iaload, 1) := dLg_80.2.2.2.2.2.2.2.2.2.2.1
theorem dL_law_1086 : decode cL_law 1086 = .ok (.invokevirtual 137, 3) := dLg_80.2.2.2.2.2.2.2.2.2.2.2
theorem dLg_81 : (decode cL_law 1089 = .ok (.if_icmp .eq 97, 3)) ∧ (decode cL_law 1092 = .ok (.iconst 0, 1)) ∧ (decode cL_law 1093 = .ok (.ireturn, 1)) := by decide +kernel
theorem dL_law_1089 : decode cL_law 1089 = .ok (.if_icmp .eq 97, 3) := dLg_81.1
theorem dL_law_1092 : decode cL_law 1092 = .ok (.iconst 0, 1) := dLg_81.2.1
theorem dL_law_1093 : decode cL_law 1093 = .ok (.ireturn, 1) := dLg_81.2.2
theorem dLg_82 : (decode cL_law 1094 = .ok (.aload_n 1, 1)) ∧ (decode cL_law 1095 = .ok (.aload_n 0, 1)) ∧ (decode cL_law 1096 = .ok (.iload_n 3, 1)) ∧ (decode cL_law 1097 = .ok (.iconst 1, 1)) ∧ (decode cL_law 1098 = .ok (.iadd, 1)) ∧ (decode cL_law 1099 = .ok (.iaload, 1)) ∧ (decode cL_law 1100 = .ok (.aload_n 0, 1)) ∧ (decode cL_law 1101 = .ok (.iload_n 3, 1)) ∧ (decode cL_law 1102 = .ok (.iconst 2, 1)) ∧ (decode cL_law 1103 = .ok (.iadd, 1)) ∧ (decode cL_law 1104 = .ok (.iaload, 1)) ∧ (decode cL_law 1105 = .ok (.invokevirtual 138, 3)) := by decide +kernel
theorem dL_law_1094 : decode cL_law 1094 = .ok (.aload_n 1, 1) := dLg_82.1
theorem dL_law_1095 : decode cL_law 1095 = .ok (.aload_n 0, 1) := dLg_82.2.1
theorem dL_law_1096 : decode cL_law 1096 = .ok (.iload_n 3, 1) := dLg_82.2.2.1
theorem dL_law_1097 : decode cL_law 1097 = .ok (.iconst 1, 1) := dLg_82.2.2.2.1
theorem dL_law_1098 : decode cL_law 1098 = .ok (.iadd, 1) := dLg_82.2.2.2.2.1
theorem dL_law_1099 : decode cL_law 1099 = .ok (.iaload, 1) := dLg_82.2.2.2.2.2.1
theorem dL_law_1100 : decode cL_law 1100 = .ok (.aload_n 0, 1) := dLg_82.2.2.2.2.2.2.1
theorem dL_law_1101 : decode cL_law 1101 = .ok (.iload_n 3, 1) := dLg_82.2.2.2.2.2.2.2.1
theorem dL_law_1102 : decode cL_law 1102 = .ok (.iconst 2, 1) := dLg_82.2.2.2.2.2.2.2.2.1
theorem dL_law_1103 : decode cL_law 1103 = .ok (.iadd, 1) := dLg_82.2.2.2.2.2.2.2.2.2.1
theorem dL_law_1104 : decode cL_law 1104 = .ok (.iaload, 1) := dLg_82.2.2.2.2.2.2.2.2.2.2.1
theorem dL_law_1105 : decode cL_law 1105 = .ok (.invokevirtual 138, 3) := dLg_82.2.2.2.2.2.2.2.2.2.2.2
theorem dLg_83 : (decode cL_law 1108 = .ok (.aload_n 2, 1)) ∧ (decode cL_law 1109 = .ok (.aload_n 0, 1)) ∧ (decode cL_law 1110 = .ok (.iload_n 3, 1)) ∧ (decode cL_law 1111 = .ok (.iconst 1, 1)) ∧ (decode cL_law 1112 = .ok (.iadd, 1)) ∧ (decode cL_law 1113 = .ok (.iaload, 1)) ∧ (decode cL_law 1114 = .ok (.aload_n 0, 1)) ∧ (decode cL_law 1115 = .ok (.iload_n 3, 1)) ∧ (decode cL_law 1116 = .ok (.iconst 2, 1)) ∧ (decode cL_law 1117 = .ok (.iadd, 1)) ∧ (decode cL_law 1118 = .ok (.iaload, 1)) ∧ (decode cL_law 1119 = .ok (.invokevirtual 141, 3)) := by decide +kernel
theorem dL_law_1108 : decode cL_law 1108 = .ok (.aload_n 2, 1) := dLg_83.1
theorem dL_law_1109 : decode cL_law 1109 = .ok (.aload_n 0, 1) := dLg_83.2.1
theorem dL_law_1110 : decode cL_law 1110 = .ok (.iload_n 3, 1) := dLg_83.2.2.1
theorem dL_law_1111 : decode cL_law 1111 = .ok (.iconst 1, 1) := dLg_83.2.2.2.1
theorem dL_law_1112 : decode cL_law 1112 = .ok (.iadd, 1) := dLg_83.2.2.2.2.1
theorem dL_law_1113 : decode cL_law 1113 = .ok (.iaload, 1) := dLg_83.2.2.2.2.2.1
theorem dL_law_1114 : decode cL_law 1114 = .ok (.aload_n 0, 1) := dLg_83.2.2.2.2.2.2.1
theorem dL_law_1115 : decode cL_law 1115 = .ok (.iload_n 3, 1) := dLg_83.2.2.2.2.2.2.2.1
theorem dL_law_1116 : decode cL_law 1116 = .ok (.iconst 2, 1) := dLg_83.2.2.2.2.2.2.2.2.1
theorem dL_law_1117 : decode cL_law 1117 = .ok (.iadd, 1) := dLg_83.2.2.2.2.2.2.2.2.2.1
theorem dL_law_1118 : decode cL_law 1118 = .ok (.iaload, 1) := dLg_83.2.2.2.2.2.2.2.2.2.2.1
theorem dL_law_1119 : decode cL_law 1119 = .ok (.invokevirtual 141, 3) := dLg_83.2.2.2.2.2.2.2.2.2.2.2
theorem dLg_84 : (decode cL_law 1122 = .ok (.if_icmp .eq 64, 3)) ∧ (decode cL_law 1125 = .ok (.iconst 0, 1)) ∧ (decode cL_law 1126 = .ok (.ireturn, 1)) := by decide +kernel
theorem dL_law_1122 : decode cL_law 1122 = .ok (.if_icmp .eq 64, 3) := dLg_84.1
theorem dL_law_1125 : decode cL_law 1125 = .ok (.iconst 0, 1) := dLg_84.2.1
theorem dL_law_1126 : decode cL_law 1126 = .ok (.ireturn, 1) := dLg_84.2.2
theorem dLg_85 : (decode cL_law 1127 = .ok (.aload_n 1, 1)) ∧ (decode cL_law 1128 = .ok (.aload_n 0, 1)) ∧ (decode cL_law 1129 = .ok (.iload_n 3, 1)) ∧ (decode cL_law 1130 = .ok (.iconst 1, 1)) ∧ (decode cL_law 1131 = .ok (.iadd, 1)) ∧ (decode cL_law 1132 = .ok (.iaload, 1)) ∧ (decode cL_law 1133 = .ok (.invokevirtual 142, 3)) ∧ (decode cL_law 1136 = .ok (.aload_n 2, 1)) ∧ (decode cL_law 1137 = .ok (.aload_n 0, 1)) ∧ (decode cL_law 1138 = .ok (.iload_n 3, 1)) ∧ (decode cL_law 1139 = .ok (.iconst 1, 1)) ∧ (decode cL_law 1140 = .ok (.iadd, 1)) := by decide +kernel
theorem dL_law_1127 : decode cL_law 1127 = .ok (.aload_n 1, 1) := dLg_85.1
theorem dL_law_1128 : decode cL_law 1128 = .ok (.aload_n 0, 1) := dLg_85.2.1
theorem dL_law_1129 : decode cL_law 1129 = .ok (.iload_n 3, 1) := dLg_85.2.2.1
theorem dL_law_1130 : decode cL_law 1130 = .ok (.iconst 1, 1) := dLg_85.2.2.2.1
theorem dL_law_1131 : decode cL_law 1131 = .ok (.iadd, 1) := dLg_85.2.2.2.2.1
theorem dL_law_1132 : decode cL_law 1132 = .ok (.iaload, 1) := dLg_85.2.2.2.2.2.1
theorem dL_law_1133 : decode cL_law 1133 = .ok (.invokevirtual 142, 3) := dLg_85.2.2.2.2.2.2.1
theorem dL_law_1136 : decode cL_law 1136 = .ok (.aload_n 2, 1) := dLg_85.2.2.2.2.2.2.2.1
theorem dL_law_1137 : decode cL_law 1137 = .ok (.aload_n 0, 1) := dLg_85.2.2.2.2.2.2.2.2.1
theorem dL_law_1138 : decode cL_law 1138 = .ok (.iload_n 3, 1) := dLg_85.2.2.2.2.2.2.2.2.2.1
theorem dL_law_1139 : decode cL_law 1139 = .ok (.iconst 1, 1) := dLg_85.2.2.2.2.2.2.2.2.2.2.1
theorem dL_law_1140 : decode cL_law 1140 = .ok (.iadd, 1) := dLg_85.2.2.2.2.2.2.2.2.2.2.2
theorem dLg_86 : (decode cL_law 1141 = .ok (.iaload, 1)) ∧ (decode cL_law 1142 = .ok (.invokevirtual 145, 3)) ∧ (decode cL_law 1145 = .ok (.if_icmp .eq 41, 3)) ∧ (decode cL_law 1148 = .ok (.iconst 0, 1)) ∧ (decode cL_law 1149 = .ok (.ireturn, 1)) := by decide +kernel
theorem dL_law_1141 : decode cL_law 1141 = .ok (.iaload, 1) := dLg_86.1
theorem dL_law_1142 : decode cL_law 1142 = .ok (.invokevirtual 145, 3) := dLg_86.2.1
theorem dL_law_1145 : decode cL_law 1145 = .ok (.if_icmp .eq 41, 3) := dLg_86.2.2.1
theorem dL_law_1148 : decode cL_law 1148 = .ok (.iconst 0, 1) := dLg_86.2.2.2.1
theorem dL_law_1149 : decode cL_law 1149 = .ok (.ireturn, 1) := dLg_86.2.2.2.2
theorem dLg_87 : (decode cL_law 1150 = .ok (.aload_n 1, 1)) ∧ (decode cL_law 1151 = .ok (.aload_n 0, 1)) ∧ (decode cL_law 1152 = .ok (.iload_n 3, 1)) ∧ (decode cL_law 1153 = .ok (.iconst 1, 1)) ∧ (decode cL_law 1154 = .ok (.iadd, 1)) ∧ (decode cL_law 1155 = .ok (.iaload, 1)) ∧ (decode cL_law 1156 = .ok (.invokevirtual 146, 3)) ∧ (decode cL_law 1159 = .ok (.aload_n 2, 1)) ∧ (decode cL_law 1160 = .ok (.aload_n 0, 1)) ∧ (decode cL_law 1161 = .ok (.iload_n 3, 1)) ∧ (decode cL_law 1162 = .ok (.iconst 1, 1)) ∧ (decode cL_law 1163 = .ok (.iadd, 1)) := by decide +kernel
theorem dL_law_1150 : decode cL_law 1150 = .ok (.aload_n 1, 1) := dLg_87.1
theorem dL_law_1151 : decode cL_law 1151 = .ok (.aload_n 0, 1) := dLg_87.2.1
theorem dL_law_1152 : decode cL_law 1152 = .ok (.iload_n 3, 1) := dLg_87.2.2.1
theorem dL_law_1153 : decode cL_law 1153 = .ok (.iconst 1, 1) := dLg_87.2.2.2.1
theorem dL_law_1154 : decode cL_law 1154 = .ok (.iadd, 1) := dLg_87.2.2.2.2.1
theorem dL_law_1155 : decode cL_law 1155 = .ok (.iaload, 1) := dLg_87.2.2.2.2.2.1
theorem dL_law_1156 : decode cL_law 1156 = .ok (.invokevirtual 146, 3) := dLg_87.2.2.2.2.2.2.1
theorem dL_law_1159 : decode cL_law 1159 = .ok (.aload_n 2, 1) := dLg_87.2.2.2.2.2.2.2.1
theorem dL_law_1160 : decode cL_law 1160 = .ok (.aload_n 0, 1) := dLg_87.2.2.2.2.2.2.2.2.1
theorem dL_law_1161 : decode cL_law 1161 = .ok (.iload_n 3, 1) := dLg_87.2.2.2.2.2.2.2.2.2.1
theorem dL_law_1162 : decode cL_law 1162 = .ok (.iconst 1, 1) := dLg_87.2.2.2.2.2.2.2.2.2.2.1
theorem dL_law_1163 : decode cL_law 1163 = .ok (.iadd, 1) := dLg_87.2.2.2.2.2.2.2.2.2.2.2
theorem dLg_88 : (decode cL_law 1164 = .ok (.iaload, 1)) ∧ (decode cL_law 1165 = .ok (.invokevirtual 149, 3)) ∧ (decode cL_law 1168 = .ok (.if_icmp .eq 18, 3)) ∧ (decode cL_law 1171 = .ok (.iconst 0, 1)) ∧ (decode cL_law 1172 = .ok (.ireturn, 1)) := by decide +kernel
theorem dL_law_1164 : decode cL_law 1164 = .ok (.iaload, 1) := dLg_88.1
theorem dL_law_1165 : decode cL_law 1165 = .ok (.invokevirtual 149, 3) := dLg_88.2.1
theorem dL_law_1168 : decode cL_law 1168 = .ok (.if_icmp .eq 18, 3) := dLg_88.2.2.1
theorem dL_law_1171 : decode cL_law 1171 = .ok (.iconst 0, 1) := dLg_88.2.2.2.1
theorem dL_law_1172 : decode cL_law 1172 = .ok (.ireturn, 1) := dLg_88.2.2.2.2
theorem dLg_89 : (decode cL_law 1173 = .ok (.aload_n 1, 1)) ∧ (decode cL_law 1174 = .ok (.invokevirtual 150, 3)) ∧ (decode cL_law 1177 = .ok (.aload_n 2, 1)) ∧ (decode cL_law 1178 = .ok (.invokevirtual 153, 3)) ∧ (decode cL_law 1181 = .ok (.if_icmp .eq 5, 3)) ∧ (decode cL_law 1184 = .ok (.iconst 0, 1)) ∧ (decode cL_law 1185 = .ok (.ireturn, 1)) := by decide +kernel
theorem dL_law_1173 : decode cL_law 1173 = .ok (.aload_n 1, 1) := dLg_89.1
theorem dL_law_1174 : decode cL_law 1174 = .ok (.invokevirtual 150, 3) := dLg_89.2.1
theorem dL_law_1177 : decode cL_law 1177 = .ok (.aload_n 2, 1) := dLg_89.2.2.1
theorem dL_law_1178 : decode cL_law 1178 = .ok (.invokevirtual 153, 3) := dLg_89.2.2.2.1
theorem dL_law_1181 : decode cL_law 1181 = .ok (.if_icmp .eq 5, 3) := dLg_89.2.2.2.2.1
theorem dL_law_1184 : decode cL_law 1184 = .ok (.iconst 0, 1) := dLg_89.2.2.2.2.2.1
theorem dL_law_1185 : decode cL_law 1185 = .ok (.ireturn, 1) := dLg_89.2.2.2.2.2.2
theorem dLg_90 : (decode cL_law 1186 = .ok (.iinc 3 6, 3)) ∧ (decode cL_law 1189 = .ok (.goto (-1171), 3)) ∧ (decode cL_law 1192 = .ok (.iconst 1, 1)) ∧ (decode cL_law 1193 = .ok (.ireturn, 1)) := by decide +kernel
theorem dL_law_1186 : decode cL_law 1186 = .ok (.iinc 3 6, 3) := dLg_90.1
theorem dL_law_1189 : decode cL_law 1189 = .ok (.goto (-1171), 3) := dLg_90.2.1
theorem dL_law_1192 : decode cL_law 1192 = .ok (.iconst 1, 1) := dLg_90.2.2.1
theorem dL_law_1193 : decode cL_law 1193 = .ok (.ireturn, 1) := dLg_90.2.2.2
