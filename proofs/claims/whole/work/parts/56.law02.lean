/-! the law: decode rows -/
theorem dk_111_240 : decode code 240 = .ok (.iaload, 1) := by decide +kernel
theorem dk_111_241 : decode code 241 = .ok (.aload_n 0, 1) := by decide +kernel
theorem dk_111_242 : decode code 242 = .ok (.iload 4, 2) := by decide +kernel
theorem dk_111_244 : decode code 244 = .ok (.iconst (5), 1) := by decide +kernel
theorem dk_111_245 : decode code 245 = .ok (.iadd, 1) := by decide +kernel
theorem dk_111_246 : decode code 246 = .ok (.iaload, 1) := by decide +kernel
theorem dk_111_247 : decode code 247 = .ok (.aload_n 3, 1) := by decide +kernel
theorem dk_111_248 : decode code 248 = .ok (.invokestatic 79, 3) := by decide +kernel
theorem dk_111_251 : decode code 251 = .ok (.istore 5, 2) := by decide +kernel
theorem dk_111_253 : decode code 253 = .ok (.aload_n 2, 1) := by decide +kernel
theorem dk_111_254 : decode code 254 = .ok (.aload_n 0, 1) := by decide +kernel
theorem dk_111_255 : decode code 255 = .ok (.iload 4, 2) := by decide +kernel
theorem dk_111_257 : decode code 257 = .ok (.iconst (1), 1) := by decide +kernel
theorem dk_111_258 : decode code 258 = .ok (.iadd, 1) := by decide +kernel
theorem dk_111_259 : decode code 259 = .ok (.iaload, 1) := by decide +kernel
theorem dk_111_260 : decode code 260 = .ok (.aload_n 0, 1) := by decide +kernel
theorem dk_111_261 : decode code 261 = .ok (.iload 4, 2) := by decide +kernel
theorem dk_111_263 : decode code 263 = .ok (.iconst (2), 1) := by decide +kernel
theorem dk_111_264 : decode code 264 = .ok (.iadd, 1) := by decide +kernel
theorem dk_111_265 : decode code 265 = .ok (.iaload, 1) := by decide +kernel
theorem dk_111_266 : decode code 266 = .ok (.aload_n 0, 1) := by decide +kernel
theorem dk_111_267 : decode code 267 = .ok (.iload 4, 2) := by decide +kernel
theorem dk_111_269 : decode code 269 = .ok (.iconst (3), 1) := by decide +kernel
theorem dk_111_270 : decode code 270 = .ok (.iadd, 1) := by decide +kernel
theorem dk_111_271 : decode code 271 = .ok (.iaload, 1) := by decide +kernel
theorem dk_111_272 : decode code 272 = .ok (.aload_n 0, 1) := by decide +kernel
theorem dk_111_273 : decode code 273 = .ok (.iload 4, 2) := by decide +kernel
theorem dk_111_275 : decode code 275 = .ok (.iconst (4), 1) := by decide +kernel
theorem dk_111_276 : decode code 276 = .ok (.iadd, 1) := by decide +kernel
theorem dk_111_277 : decode code 277 = .ok (.iaload, 1) := by decide +kernel
theorem dk_111_278 : decode code 278 = .ok (.aload_n 0, 1) := by decide +kernel
theorem dk_111_279 : decode code 279 = .ok (.iload 4, 2) := by decide +kernel
theorem dk_111_281 : decode code 281 = .ok (.iconst (5), 1) := by decide +kernel
theorem dk_111_282 : decode code 282 = .ok (.iadd, 1) := by decide +kernel
theorem dk_111_283 : decode code 283 = .ok (.iaload, 1) := by decide +kernel
theorem dk_111_284 : decode code 284 = .ok (.invokevirtual 82, 3) := by decide +kernel
theorem dk_111_287 : decode code 287 = .ok (.istore 6, 2) := by decide +kernel
theorem dk_111_289 : decode code 289 = .ok (.aload_n 2, 1) := by decide +kernel
theorem dk_111_290 : decode code 290 = .ok (.invokevirtual 75, 3) := by decide +kernel
theorem dk_111_293 : decode code 293 = .ok (.iload 5, 2) := by decide +kernel
theorem dk_111_295 : decode code 295 = .ok (.if_icmp .eq (5), 3) := by decide +kernel
theorem dk_111_298 : decode code 298 = .ok (.iconst (0), 1) := by decide +kernel
theorem dk_111_299 : decode code 299 = .ok (.ireturn, 1) := by decide +kernel
theorem dk_111_300 : decode code 300 = .ok (.iload 5, 2) := by decide +kernel
theorem dk_111_302 : decode code 302 = .ok (.ifCond .ne (15), 3) := by decide +kernel
theorem dk_111_305 : decode code 305 = .ok (.aload_n 3, 1) := by decide +kernel
theorem dk_111_306 : decode code 306 = .ok (.iconst (0), 1) := by decide +kernel
theorem dk_111_307 : decode code 307 = .ok (.laload, 1) := by decide +kernel
theorem dk_111_308 : decode code 308 = .ok (.iload 6, 2) := by decide +kernel
theorem dk_111_310 : decode code 310 = .ok (.i2l, 1) := by decide +kernel
