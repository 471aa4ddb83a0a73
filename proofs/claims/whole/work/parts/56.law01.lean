/-! the law: decode rows -/
theorem dk_111_168 : decode code 168 = .ok (.aload_n 0, 1) := by decide +kernel
theorem dk_111_169 : decode code 169 = .ok (.iload 4, 2) := by decide +kernel
theorem dk_111_171 : decode code 171 = .ok (.iconst (2), 1) := by decide +kernel
theorem dk_111_172 : decode code 172 = .ok (.iadd, 1) := by decide +kernel
theorem dk_111_173 : decode code 173 = .ok (.iaload, 1) := by decide +kernel
theorem dk_111_174 : decode code 174 = .ok (.aload_n 0, 1) := by decide +kernel
theorem dk_111_175 : decode code 175 = .ok (.iload 4, 2) := by decide +kernel
theorem dk_111_177 : decode code 177 = .ok (.iconst (3), 1) := by decide +kernel
theorem dk_111_178 : decode code 178 = .ok (.iadd, 1) := by decide +kernel
theorem dk_111_179 : decode code 179 = .ok (.iaload, 1) := by decide +kernel
theorem dk_111_180 : decode code 180 = .ok (.invokevirtual 74, 3) := by decide +kernel
theorem dk_111_183 : decode code 183 = .ok (.istore 6, 2) := by decide +kernel
theorem dk_111_185 : decode code 185 = .ok (.aload_n 2, 1) := by decide +kernel
theorem dk_111_186 : decode code 186 = .ok (.invokevirtual 75, 3) := by decide +kernel
theorem dk_111_189 : decode code 189 = .ok (.iload 5, 2) := by decide +kernel
theorem dk_111_191 : decode code 191 = .ok (.if_icmp .eq (5), 3) := by decide +kernel
theorem dk_111_194 : decode code 194 = .ok (.iconst (0), 1) := by decide +kernel
theorem dk_111_195 : decode code 195 = .ok (.ireturn, 1) := by decide +kernel
theorem dk_111_196 : decode code 196 = .ok (.iload 5, 2) := by decide +kernel
theorem dk_111_198 : decode code 198 = .ok (.ifCond .ne (15), 3) := by decide +kernel
theorem dk_111_201 : decode code 201 = .ok (.aload_n 3, 1) := by decide +kernel
theorem dk_111_202 : decode code 202 = .ok (.iconst (0), 1) := by decide +kernel
theorem dk_111_203 : decode code 203 = .ok (.laload, 1) := by decide +kernel
theorem dk_111_204 : decode code 204 = .ok (.iload 6, 2) := by decide +kernel
theorem dk_111_206 : decode code 206 = .ok (.i2l, 1) := by decide +kernel
theorem dk_111_207 : decode code 207 = .ok (.lcmp, 1) := by decide +kernel
theorem dk_111_208 : decode code 208 = .ok (.ifCond .eq (5), 3) := by decide +kernel
theorem dk_111_211 : decode code 211 = .ok (.iconst (0), 1) := by decide +kernel
theorem dk_111_212 : decode code 212 = .ok (.ireturn, 1) := by decide +kernel
theorem dk_111_213 : decode code 213 = .ok (.goto (904), 3) := by decide +kernel
theorem dk_111_216 : decode code 216 = .ok (.aload_n 1, 1) := by decide +kernel
theorem dk_111_217 : decode code 217 = .ok (.aload_n 0, 1) := by decide +kernel
theorem dk_111_218 : decode code 218 = .ok (.iload 4, 2) := by decide +kernel
theorem dk_111_220 : decode code 220 = .ok (.iconst (1), 1) := by decide +kernel
theorem dk_111_221 : decode code 221 = .ok (.iadd, 1) := by decide +kernel
theorem dk_111_222 : decode code 222 = .ok (.iaload, 1) := by decide +kernel
theorem dk_111_223 : decode code 223 = .ok (.aload_n 0, 1) := by decide +kernel
theorem dk_111_224 : decode code 224 = .ok (.iload 4, 2) := by decide +kernel
theorem dk_111_226 : decode code 226 = .ok (.iconst (2), 1) := by decide +kernel
theorem dk_111_227 : decode code 227 = .ok (.iadd, 1) := by decide +kernel
theorem dk_111_228 : decode code 228 = .ok (.iaload, 1) := by decide +kernel
theorem dk_111_229 : decode code 229 = .ok (.aload_n 0, 1) := by decide +kernel
theorem dk_111_230 : decode code 230 = .ok (.iload 4, 2) := by decide +kernel
theorem dk_111_232 : decode code 232 = .ok (.iconst (3), 1) := by decide +kernel
theorem dk_111_233 : decode code 233 = .ok (.iadd, 1) := by decide +kernel
theorem dk_111_234 : decode code 234 = .ok (.iaload, 1) := by decide +kernel
theorem dk_111_235 : decode code 235 = .ok (.aload_n 0, 1) := by decide +kernel
theorem dk_111_236 : decode code 236 = .ok (.iload 4, 2) := by decide +kernel
theorem dk_111_238 : decode code 238 = .ok (.iconst (4), 1) := by decide +kernel
theorem dk_111_239 : decode code 239 = .ok (.iadd, 1) := by decide +kernel
