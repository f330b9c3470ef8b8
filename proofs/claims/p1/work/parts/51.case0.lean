theorem wd_546 : (Jvm.Cond.methodLink "SilentSaleLaw" (13 : Nat) ({ cls := "SilentSale", name := "feed", desc := "(IIIII)I" } : Jvm.MethodName)) ∈ tb_L := tb_in (i := 546) (by decide +kernel) (by decide +kernel)
theorem wd_547 : (Jvm.Cond.instanceMethod ({ cls := "SilentSale", name := "feed", desc := "(IIIII)I" } : Jvm.MethodName)) ∈ tb_L := tb_in (i := 547) (by decide +kernel) (by decide +kernel)
theorem wd_548 : (Jvm.Cond.selects "SilentSale" ({ cls := "SilentSale", name := "feed", desc := "(IIIII)I" } : Jvm.MethodName) ({ cls := "SilentSale", name := "feed", desc := "(IIIII)I" } : Jvm.MethodName)) ∈ tb_L := tb_in (i := 548) (by decide +kernel) (by decide +kernel)
theorem wd_1365 : (Jvm.Cond.methodLink "SilentSaleLaw" (17 : Nat) ({ cls := "SilentSaleModel", name := "feed", desc := "(IIIII)I" } : Jvm.MethodName)) ∈ tb_L := tb_in (i := 1365) (by decide +kernel) (by decide +kernel)
theorem wd_1366 : (Jvm.Cond.instanceMethod ({ cls := "SilentSaleModel", name := "feed", desc := "(IIIII)I" } : Jvm.MethodName)) ∈ tb_L := tb_in (i := 1366) (by decide +kernel) (by decide +kernel)
theorem wd_1367 : (Jvm.Cond.selects "SilentSaleModel" ({ cls := "SilentSaleModel", name := "feed", desc := "(IIIII)I" } : Jvm.MethodName) ({ cls := "SilentSaleModel", name := "feed", desc := "(IIIII)I" } : Jvm.MethodName)) ∈ tb_L := tb_in (i := 1367) (by decide +kernel) (by decide +kernel)
theorem dL_law_18 : decode cL_law 18 = .ok (.iload_n 3, 1) := by decide +kernel
theorem dL_law_19 : decode cL_law 19 = .ok (.aload_n 0, 1) := by decide +kernel
theorem dL_law_20 : decode cL_law 20 = .ok (.arraylength, 1) := by decide +kernel
theorem dL_law_21 : decode cL_law 21 = .ok (.bipush 6, 2) := by decide +kernel
theorem dL_law_23 : decode cL_law 23 = .ok (.isub, 1) := by decide +kernel
theorem dL_law_24 : decode cL_law 24 = .ok (.if_icmp .gt 1077, 3) := by decide +kernel
theorem dL_law_172 : decode cL_law 172 = .ok (.aload_n 1, 1) := by decide +kernel
theorem dL_law_173 : decode cL_law 173 = .ok (.aload_n 0, 1) := by decide +kernel
theorem dL_law_174 : decode cL_law 174 = .ok (.iload_n 3, 1) := by decide +kernel
theorem dL_law_175 : decode cL_law 175 = .ok (.iconst 1, 1) := by decide +kernel
theorem dL_law_176 : decode cL_law 176 = .ok (.iadd, 1) := by decide +kernel
theorem dL_law_177 : decode cL_law 177 = .ok (.iaload, 1) := by decide +kernel
theorem dL_law_178 : decode cL_law 178 = .ok (.aload_n 0, 1) := by decide +kernel
theorem dL_law_179 : decode cL_law 179 = .ok (.iload_n 3, 1) := by decide +kernel
theorem dL_law_180 : decode cL_law 180 = .ok (.iconst 2, 1) := by decide +kernel
theorem dL_law_181 : decode cL_law 181 = .ok (.iadd, 1) := by decide +kernel
theorem dL_law_182 : decode cL_law 182 = .ok (.iaload, 1) := by decide +kernel
theorem dL_law_183 : decode cL_law 183 = .ok (.aload_n 0, 1) := by decide +kernel
theorem dL_law_184 : decode cL_law 184 = .ok (.iload_n 3, 1) := by decide +kernel
theorem dL_law_185 : decode cL_law 185 = .ok (.iconst 3, 1) := by decide +kernel
theorem dL_law_186 : decode cL_law 186 = .ok (.iadd, 1) := by decide +kernel
theorem dL_law_187 : decode cL_law 187 = .ok (.iaload, 1) := by decide +kernel
theorem dL_law_188 : decode cL_law 188 = .ok (.aload_n 0, 1) := by decide +kernel
theorem dL_law_189 : decode cL_law 189 = .ok (.iload_n 3, 1) := by decide +kernel
theorem dL_law_190 : decode cL_law 190 = .ok (.iconst 4, 1) := by decide +kernel
theorem dL_law_191 : decode cL_law 191 = .ok (.iadd, 1) := by decide +kernel
theorem dL_law_192 : decode cL_law 192 = .ok (.iaload, 1) := by decide +kernel
theorem dL_law_193 : decode cL_law 193 = .ok (.aload_n 0, 1) := by decide +kernel
theorem dL_law_194 : decode cL_law 194 = .ok (.iload_n 3, 1) := by decide +kernel
theorem dL_law_195 : decode cL_law 195 = .ok (.iconst 5, 1) := by decide +kernel
theorem dL_law_196 : decode cL_law 196 = .ok (.iadd, 1) := by decide +kernel
theorem dL_law_197 : decode cL_law 197 = .ok (.iaload, 1) := by decide +kernel
theorem dL_law_198 : decode cL_law 198 = .ok (.invokevirtual 13, 3) := by decide +kernel
theorem dL_law_201 : decode cL_law 201 = .ok (.aload_n 2, 1) := by decide +kernel
theorem dL_law_202 : decode cL_law 202 = .ok (.aload_n 0, 1) := by decide +kernel
theorem dL_law_203 : decode cL_law 203 = .ok (.iload_n 3, 1) := by decide +kernel
theorem dL_law_204 : decode cL_law 204 = .ok (.iconst 1, 1) := by decide +kernel
theorem dL_law_205 : decode cL_law 205 = .ok (.iadd, 1) := by decide +kernel
theorem dL_law_206 : decode cL_law 206 = .ok (.iaload, 1) := by decide +kernel
theorem dL_law_207 : decode cL_law 207 = .ok (.aload_n 0, 1) := by decide +kernel
theorem dL_law_208 : decode cL_law 208 = .ok (.iload_n 3, 1) := by decide +kernel
theorem dL_law_209 : decode cL_law 209 = .ok (.iconst 2, 1) := by decide +kernel
theorem dL_law_210 : decode cL_law 210 = .ok (.iadd, 1) := by decide +kernel
theorem dL_law_211 : decode cL_law 211 = .ok (.iaload, 1) := by decide +kernel
theorem dL_law_212 : decode cL_law 212 = .ok (.aload_n 0, 1) := by decide +kernel
theorem dL_law_213 : decode cL_law 213 = .ok (.iload_n 3, 1) := by decide +kernel
theorem dL_law_214 : decode cL_law 214 = .ok (.iconst 3, 1) := by decide +kernel
theorem dL_law_215 : decode cL_law 215 = .ok (.iadd, 1) := by decide +kernel
theorem dL_law_216 : decode cL_law 216 = .ok (.iaload, 1) := by decide +kernel
theorem dL_law_217 : decode cL_law 217 = .ok (.aload_n 0, 1) := by decide +kernel
theorem dL_law_218 : decode cL_law 218 = .ok (.iload_n 3, 1) := by decide +kernel
theorem dL_law_219 : decode cL_law 219 = .ok (.iconst 4, 1) := by decide +kernel
theorem dL_law_220 : decode cL_law 220 = .ok (.iadd, 1) := by decide +kernel
theorem dL_law_221 : decode cL_law 221 = .ok (.iaload, 1) := by decide +kernel
theorem dL_law_222 : decode cL_law 222 = .ok (.aload_n 0, 1) := by decide +kernel
theorem dL_law_223 : decode cL_law 223 = .ok (.iload_n 3, 1) := by decide +kernel
theorem dL_law_224 : decode cL_law 224 = .ok (.iconst 5, 1) := by decide +kernel
theorem dL_law_225 : decode cL_law 225 = .ok (.iadd, 1) := by decide +kernel
theorem dL_law_226 : decode cL_law 226 = .ok (.iaload, 1) := by decide +kernel
theorem dL_law_227 : decode cL_law 227 = .ok (.invokevirtual 17, 3) := by decide +kernel
theorem dL_law_230 : decode cL_law 230 = .ok (.if_icmp .eq 865, 3) := by decide +kernel
theorem dL_law_1095 : decode cL_law 1095 = .ok (.iinc 3 6, 3) := by decide +kernel
theorem dL_law_1098 : decode cL_law 1098 = .ok (.goto (-1080), 3) := by decide +kernel
theorem dL_law_1101 : decode cL_law 1101 = .ok (.iconst 1, 1) := by decide +kernel
theorem dL_law_1102 : decode cL_law 1102 = .ok (.ireturn, 1) := by decide +kernel
theorem wd_558 : (Jvm.Cond.methodLink "SilentSaleLaw" (18 : Nat) ({ cls := "SilentSale", name := "end", desc := "(I)I" } : Jvm.MethodName)) ∈ tb_L := tb_in (i := 558) (by decide +kernel) (by decide +kernel)
theorem wd_559 : (Jvm.Cond.instanceMethod ({ cls := "SilentSale", name := "end", desc := "(I)I" } : Jvm.MethodName)) ∈ tb_L := tb_in (i := 559) (by decide +kernel) (by decide +kernel)
theorem wd_560 : (Jvm.Cond.selects "SilentSale" ({ cls := "SilentSale", name := "end", desc := "(I)I" } : Jvm.MethodName) ({ cls := "SilentSale", name := "end", desc := "(I)I" } : Jvm.MethodName)) ∈ tb_L := tb_in (i := 560) (by decide +kernel) (by decide +kernel)
theorem wd_1373 : (Jvm.Cond.methodLink "SilentSaleLaw" (22 : Nat) ({ cls := "SilentSaleModel", name := "end", desc := "(I)I" } : Jvm.MethodName)) ∈ tb_L := tb_in (i := 1373) (by decide +kernel) (by decide +kernel)
theorem wd_1374 : (Jvm.Cond.instanceMethod ({ cls := "SilentSaleModel", name := "end", desc := "(I)I" } : Jvm.MethodName)) ∈ tb_L := tb_in (i := 1374) (by decide +kernel) (by decide +kernel)
theorem wd_1375 : (Jvm.Cond.selects "SilentSaleModel" ({ cls := "SilentSaleModel", name := "end", desc := "(I)I" } : Jvm.MethodName) ({ cls := "SilentSaleModel", name := "end", desc := "(I)I" } : Jvm.MethodName)) ∈ tb_L := tb_in (i := 1375) (by decide +kernel) (by decide +kernel)
theorem dL_law_235 : decode cL_law 235 = .ok (.aload_n 1, 1) := by decide +kernel
theorem dL_law_236 : decode cL_law 236 = .ok (.aload_n 0, 1) := by decide +kernel
theorem dL_law_237 : decode cL_law 237 = .ok (.iload_n 3, 1) := by decide +kernel
theorem dL_law_238 : decode cL_law 238 = .ok (.iconst 1, 1) := by decide +kernel
theorem dL_law_239 : decode cL_law 239 = .ok (.iadd, 1) := by decide +kernel
theorem dL_law_240 : decode cL_law 240 = .ok (.iaload, 1) := by decide +kernel
theorem dL_law_241 : decode cL_law 241 = .ok (.invokevirtual 18, 3) := by decide +kernel
theorem dL_law_244 : decode cL_law 244 = .ok (.aload_n 2, 1) := by decide +kernel
theorem dL_law_245 : decode cL_law 245 = .ok (.aload_n 0, 1) := by decide +kernel
theorem dL_law_246 : decode cL_law 246 = .ok (.iload_n 3, 1) := by decide +kernel
theorem dL_law_247 : decode cL_law 247 = .ok (.iconst 1, 1) := by decide +kernel
theorem dL_law_248 : decode cL_law 248 = .ok (.iadd, 1) := by decide +kernel
theorem dL_law_249 : decode cL_law 249 = .ok (.iaload, 1) := by decide +kernel
theorem dL_law_250 : decode cL_law 250 = .ok (.invokevirtual 22, 3) := by decide +kernel
theorem dL_law_253 : decode cL_law 253 = .ok (.if_icmp .eq 842, 3) := by decide +kernel
theorem wd_566 : (Jvm.Cond.methodLink "SilentSaleLaw" (23 : Nat) ({ cls := "SilentSale", name := "sale", desc := "()I" } : Jvm.MethodName)) ∈ tb_L := tb_in (i := 566) (by decide +kernel) (by decide +kernel)
theorem wd_567 : (Jvm.Cond.instanceMethod ({ cls := "SilentSale", name := "sale", desc := "()I" } : Jvm.MethodName)) ∈ tb_L := tb_in (i := 567) (by decide +kernel) (by decide +kernel)
theorem wd_568 : (Jvm.Cond.selects "SilentSale" ({ cls := "SilentSale", name := "sale", desc := "()I" } : Jvm.MethodName) ({ cls := "SilentSale", name := "sale", desc := "()I" } : Jvm.MethodName)) ∈ tb_L := tb_in (i := 568) (by decide +kernel) (by decide +kernel)
theorem wd_1533 : (Jvm.Cond.methodLink "SilentSaleLaw" (27 : Nat) ({ cls := "SilentSaleModel", name := "sale", desc := "()I" } : Jvm.MethodName)) ∈ tb_L := tb_in (i := 1533) (by decide +kernel) (by decide +kernel)
theorem wd_1534 : (Jvm.Cond.instanceMethod ({ cls := "SilentSaleModel", name := "sale", desc := "()I" } : Jvm.MethodName)) ∈ tb_L := tb_in (i := 1534) (by decide +kernel) (by decide +kernel)
theorem wd_1535 : (Jvm.Cond.selects "SilentSaleModel" ({ cls := "SilentSaleModel", name := "sale", desc := "()I" } : Jvm.MethodName) ({ cls := "SilentSaleModel", name := "sale", desc := "()I" } : Jvm.MethodName)) ∈ tb_L := tb_in (i := 1535) (by decide +kernel) (by decide +kernel)
theorem dL_law_258 : decode cL_law 258 = .ok (.aload_n 1, 1) := by decide +kernel
theorem dL_law_259 : decode cL_law 259 = .ok (.invokevirtual 23, 3) := by decide +kernel
theorem dL_law_262 : decode cL_law 262 = .ok (.aload_n 2, 1) := by decide +kernel
theorem dL_law_263 : decode cL_law 263 = .ok (.invokevirtual 27, 3) := by decide +kernel
theorem dL_law_266 : decode cL_law 266 = .ok (.if_icmp .eq 829, 3) := by decide +kernel
theorem wd_704 : (Jvm.Cond.methodLink "SilentSaleLaw" (28 : Nat) ({ cls := "SilentSale", name := "rule", desc := "()I" } : Jvm.MethodName)) ∈ tb_L := tb_in (i := 704) (by decide +kernel) (by decide +kernel)
theorem wd_705 : (Jvm.Cond.instanceMethod ({ cls := "SilentSale", name := "rule", desc := "()I" } : Jvm.MethodName)) ∈ tb_L := tb_in (i := 705) (by decide +kernel) (by decide +kernel)
theorem wd_706 : (Jvm.Cond.selects "SilentSale" ({ cls := "SilentSale", name := "rule", desc := "()I" } : Jvm.MethodName) ({ cls := "SilentSale", name := "rule", desc := "()I" } : Jvm.MethodName)) ∈ tb_L := tb_in (i := 706) (by decide +kernel) (by decide +kernel)
theorem wd_1377 : (Jvm.Cond.methodLink "SilentSaleLaw" (31 : Nat) ({ cls := "SilentSaleModel", name := "rule", desc := "()I" } : Jvm.MethodName)) ∈ tb_L := tb_in (i := 1377) (by decide +kernel) (by decide +kernel)
theorem wd_1378 : (Jvm.Cond.instanceMethod ({ cls := "SilentSaleModel", name := "rule", desc := "()I" } : Jvm.MethodName)) ∈ tb_L := tb_in (i := 1378) (by decide +kernel) (by decide +kernel)
theorem wd_1379 : (Jvm.Cond.selects "SilentSaleModel" ({ cls := "SilentSaleModel", name := "rule", desc := "()I" } : Jvm.MethodName) ({ cls := "SilentSaleModel", name := "rule", desc := "()I" } : Jvm.MethodName)) ∈ tb_L := tb_in (i := 1379) (by decide +kernel) (by decide +kernel)
theorem dL_law_271 : decode cL_law 271 = .ok (.aload_n 1, 1) := by decide +kernel
theorem dL_law_272 : decode cL_law 272 = .ok (.invokevirtual 28, 3) := by decide +kernel
theorem dL_law_275 : decode cL_law 275 = .ok (.aload_n 2, 1) := by decide +kernel
theorem dL_law_276 : decode cL_law 276 = .ok (.invokevirtual 31, 3) := by decide +kernel
theorem dL_law_279 : decode cL_law 279 = .ok (.if_icmp .eq 816, 3) := by decide +kernel
theorem wd_781 : (Jvm.Cond.methodLink "SilentSaleLaw" (32 : Nat) ({ cls := "SilentSale", name := "force", desc := "(I)I" } : Jvm.MethodName)) ∈ tb_L := tb_in (i := 781) (by decide +kernel) (by decide +kernel)
theorem wd_782 : (Jvm.Cond.instanceMethod ({ cls := "SilentSale", name := "force", desc := "(I)I" } : Jvm.MethodName)) ∈ tb_L := tb_in (i := 782) (by decide +kernel) (by decide +kernel)
theorem wd_783 : (Jvm.Cond.selects "SilentSale" ({ cls := "SilentSale", name := "force", desc := "(I)I" } : Jvm.MethodName) ({ cls := "SilentSale", name := "force", desc := "(I)I" } : Jvm.MethodName)) ∈ tb_L := tb_in (i := 783) (by decide +kernel) (by decide +kernel)
theorem wd_1541 : (Jvm.Cond.methodLink "SilentSaleLaw" (35 : Nat) ({ cls := "SilentSaleModel", name := "force", desc := "(I)I" } : Jvm.MethodName)) ∈ tb_L := tb_in (i := 1541) (by decide +kernel) (by decide +kernel)
theorem wd_1542 : (Jvm.Cond.instanceMethod ({ cls := "SilentSaleModel", name := "force", desc := "(I)I" } : Jvm.MethodName)) ∈ tb_L := tb_in (i := 1542) (by decide +kernel) (by decide +kernel)
theorem wd_1543 : (Jvm.Cond.selects "SilentSaleModel" ({ cls := "SilentSaleModel", name := "force", desc := "(I)I" } : Jvm.MethodName) ({ cls := "SilentSaleModel", name := "force", desc := "(I)I" } : Jvm.MethodName)) ∈ tb_L := tb_in (i := 1543) (by decide +kernel) (by decide +kernel)
theorem dL_law_284 : decode cL_law 284 = .ok (.aload_n 1, 1) := by decide +kernel
theorem dL_law_285 : decode cL_law 285 = .ok (.aload_n 0, 1) := by decide +kernel
theorem dL_law_286 : decode cL_law 286 = .ok (.iload_n 3, 1) := by decide +kernel
theorem dL_law_287 : decode cL_law 287 = .ok (.iconst 1, 1) := by decide +kernel
theorem dL_law_288 : decode cL_law 288 = .ok (.iadd, 1) := by decide +kernel
theorem dL_law_289 : decode cL_law 289 = .ok (.iaload, 1) := by decide +kernel
theorem dL_law_290 : decode cL_law 290 = .ok (.invokevirtual 32, 3) := by decide +kernel
theorem dL_law_293 : decode cL_law 293 = .ok (.aload_n 2, 1) := by decide +kernel
theorem dL_law_294 : decode cL_law 294 = .ok (.aload_n 0, 1) := by decide +kernel
theorem dL_law_295 : decode cL_law 295 = .ok (.iload_n 3, 1) := by decide +kernel
theorem dL_law_296 : decode cL_law 296 = .ok (.iconst 1, 1) := by decide +kernel
theorem dL_law_297 : decode cL_law 297 = .ok (.iadd, 1) := by decide +kernel
theorem dL_law_298 : decode cL_law 298 = .ok (.iaload, 1) := by decide +kernel
theorem dL_law_299 : decode cL_law 299 = .ok (.invokevirtual 35, 3) := by decide +kernel
theorem dL_law_302 : decode cL_law 302 = .ok (.if_icmp .eq 793, 3) := by decide +kernel
theorem wd_785 : (Jvm.Cond.methodLink "SilentSaleLaw" (36 : Nat) ({ cls := "SilentSale", name := "bidder", desc := "(II)I" } : Jvm.MethodName)) ∈ tb_L := tb_in (i := 785) (by decide +kernel) (by decide +kernel)
theorem wd_786 : (Jvm.Cond.instanceMethod ({ cls := "SilentSale", name := "bidder", desc := "(II)I" } : Jvm.MethodName)) ∈ tb_L := tb_in (i := 786) (by decide +kernel) (by decide +kernel)
theorem wd_787 : (Jvm.Cond.selects "SilentSale" ({ cls := "SilentSale", name := "bidder", desc := "(II)I" } : Jvm.MethodName) ({ cls := "SilentSale", name := "bidder", desc := "(II)I" } : Jvm.MethodName)) ∈ tb_L := tb_in (i := 787) (by decide +kernel) (by decide +kernel)
theorem wd_1549 : (Jvm.Cond.methodLink "SilentSaleLaw" (40 : Nat) ({ cls := "SilentSaleModel", name := "bidder", desc := "(II)I" } : Jvm.MethodName)) ∈ tb_L := tb_in (i := 1549) (by decide +kernel) (by decide +kernel)
theorem wd_1550 : (Jvm.Cond.instanceMethod ({ cls := "SilentSaleModel", name := "bidder", desc := "(II)I" } : Jvm.MethodName)) ∈ tb_L := tb_in (i := 1550) (by decide +kernel) (by decide +kernel)
theorem wd_1551 : (Jvm.Cond.selects "SilentSaleModel" ({ cls := "SilentSaleModel", name := "bidder", desc := "(II)I" } : Jvm.MethodName) ({ cls := "SilentSaleModel", name := "bidder", desc := "(II)I" } : Jvm.MethodName)) ∈ tb_L := tb_in (i := 1551) (by decide +kernel) (by decide +kernel)
theorem dL_law_307 : decode cL_law 307 = .ok (.aload_n 1, 1) := by decide +kernel
theorem dL_law_308 : decode cL_law 308 = .ok (.aload_n 0, 1) := by decide +kernel
theorem dL_law_309 : decode cL_law 309 = .ok (.iload_n 3, 1) := by decide +kernel
theorem dL_law_310 : decode cL_law 310 = .ok (.iconst 1, 1) := by decide +kernel
theorem dL_law_311 : decode cL_law 311 = .ok (.iadd, 1) := by decide +kernel
theorem dL_law_312 : decode cL_law 312 = .ok (.iaload, 1) := by decide +kernel
theorem dL_law_313 : decode cL_law 313 = .ok (.aload_n 0, 1) := by decide +kernel
theorem dL_law_314 : decode cL_law 314 = .ok (.iload_n 3, 1) := by decide +kernel
theorem dL_law_315 : decode cL_law 315 = .ok (.iconst 2, 1) := by decide +kernel
theorem dL_law_316 : decode cL_law 316 = .ok (.iadd, 1) := by decide +kernel
theorem dL_law_317 : decode cL_law 317 = .ok (.iaload, 1) := by decide +kernel
theorem dL_law_318 : decode cL_law 318 = .ok (.invokevirtual 36, 3) := by decide +kernel
theorem dL_law_321 : decode cL_law 321 = .ok (.aload_n 2, 1) := by decide +kernel
theorem dL_law_322 : decode cL_law 322 = .ok (.aload_n 0, 1) := by decide +kernel
theorem dL_law_323 : decode cL_law 323 = .ok (.iload_n 3, 1) := by decide +kernel
theorem dL_law_324 : decode cL_law 324 = .ok (.iconst 1, 1) := by decide +kernel
theorem dL_law_325 : decode cL_law 325 = .ok (.iadd, 1) := by decide +kernel
theorem dL_law_326 : decode cL_law 326 = .ok (.iaload, 1) := by decide +kernel
theorem dL_law_327 : decode cL_law 327 = .ok (.aload_n 0, 1) := by decide +kernel
theorem dL_law_328 : decode cL_law 328 = .ok (.iload_n 3, 1) := by decide +kernel
theorem dL_law_329 : decode cL_law 329 = .ok (.iconst 2, 1) := by decide +kernel
theorem dL_law_330 : decode cL_law 330 = .ok (.iadd, 1) := by decide +kernel
theorem dL_law_331 : decode cL_law 331 = .ok (.iaload, 1) := by decide +kernel
theorem dL_law_332 : decode cL_law 332 = .ok (.invokevirtual 40, 3) := by decide +kernel
theorem dL_law_335 : decode cL_law 335 = .ok (.if_icmp .eq 760, 3) := by decide +kernel
theorem wd_816 : (Jvm.Cond.methodLink "SilentSaleLaw" (41 : Nat) ({ cls := "SilentSale", name := "lot", desc := "(II)I" } : Jvm.MethodName)) ∈ tb_L := tb_in (i := 816) (by decide +kernel) (by decide +kernel)
theorem wd_817 : (Jvm.Cond.instanceMethod ({ cls := "SilentSale", name := "lot", desc := "(II)I" } : Jvm.MethodName)) ∈ tb_L := tb_in (i := 817) (by decide +kernel) (by decide +kernel)
theorem wd_818 : (Jvm.Cond.selects "SilentSale" ({ cls := "SilentSale", name := "lot", desc := "(II)I" } : Jvm.MethodName) ({ cls := "SilentSale", name := "lot", desc := "(II)I" } : Jvm.MethodName)) ∈ tb_L := tb_in (i := 818) (by decide +kernel) (by decide +kernel)
theorem wd_1578 : (Jvm.Cond.methodLink "SilentSaleLaw" (44 : Nat) ({ cls := "SilentSaleModel", name := "lot", desc := "(II)I" } : Jvm.MethodName)) ∈ tb_L := tb_in (i := 1578) (by decide +kernel) (by decide +kernel)
theorem wd_1579 : (Jvm.Cond.instanceMethod ({ cls := "SilentSaleModel", name := "lot", desc := "(II)I" } : Jvm.MethodName)) ∈ tb_L := tb_in (i := 1579) (by decide +kernel) (by decide +kernel)
theorem wd_1580 : (Jvm.Cond.selects "SilentSaleModel" ({ cls := "SilentSaleModel", name := "lot", desc := "(II)I" } : Jvm.MethodName) ({ cls := "SilentSaleModel", name := "lot", desc := "(II)I" } : Jvm.MethodName)) ∈ tb_L := tb_in (i := 1580) (by decide +kernel) (by decide +kernel)
theorem dL_law_340 : decode cL_law 340 = .ok (.aload_n 1, 1) := by decide +kernel
theorem dL_law_341 : decode cL_law 341 = .ok (.aload_n 0, 1) := by decide +kernel
theorem dL_law_342 : decode cL_law 342 = .ok (.iload_n 3, 1) := by decide +kernel
theorem dL_law_343 : decode cL_law 343 = .ok (.iconst 1, 1) := by decide +kernel
theorem dL_law_344 : decode cL_law 344 = .ok (.iadd, 1) := by decide +kernel
theorem dL_law_345 : decode cL_law 345 = .ok (.iaload, 1) := by decide +kernel
theorem dL_law_346 : decode cL_law 346 = .ok (.aload_n 0, 1) := by decide +kernel
theorem dL_law_347 : decode cL_law 347 = .ok (.iload_n 3, 1) := by decide +kernel
theorem dL_law_348 : decode cL_law 348 = .ok (.iconst 2, 1) := by decide +kernel
theorem dL_law_349 : decode cL_law 349 = .ok (.iadd, 1) := by decide +kernel
theorem dL_law_350 : decode cL_law 350 = .ok (.iaload, 1) := by decide +kernel
theorem dL_law_351 : decode cL_law 351 = .ok (.invokevirtual 41, 3) := by decide +kernel
theorem dL_law_354 : decode cL_law 354 = .ok (.aload_n 2, 1) := by decide +kernel
theorem dL_law_355 : decode cL_law 355 = .ok (.aload_n 0, 1) := by decide +kernel
theorem dL_law_356 : decode cL_law 356 = .ok (.iload_n 3, 1) := by decide +kernel
theorem dL_law_357 : decode cL_law 357 = .ok (.iconst 1, 1) := by decide +kernel
theorem dL_law_358 : decode cL_law 358 = .ok (.iadd, 1) := by decide +kernel
theorem dL_law_359 : decode cL_law 359 = .ok (.iaload, 1) := by decide +kernel
theorem dL_law_360 : decode cL_law 360 = .ok (.aload_n 0, 1) := by decide +kernel
theorem dL_law_361 : decode cL_law 361 = .ok (.iload_n 3, 1) := by decide +kernel
theorem dL_law_362 : decode cL_law 362 = .ok (.iconst 2, 1) := by decide +kernel
theorem dL_law_363 : decode cL_law 363 = .ok (.iadd, 1) := by decide +kernel
theorem dL_law_364 : decode cL_law 364 = .ok (.iaload, 1) := by decide +kernel
theorem dL_law_365 : decode cL_law 365 = .ok (.invokevirtual 44, 3) := by decide +kernel
theorem dL_law_368 : decode cL_law 368 = .ok (.if_icmp .eq 727, 3) := by decide +kernel
theorem wd_828 : (Jvm.Cond.methodLink "SilentSaleLaw" (45 : Nat) ({ cls := "SilentSale", name := "worth", desc := "(II)I" } : Jvm.MethodName)) ∈ tb_L := tb_in (i := 828) (by decide +kernel) (by decide +kernel)
theorem wd_829 : (Jvm.Cond.instanceMethod ({ cls := "SilentSale", name := "worth", desc := "(II)I" } : Jvm.MethodName)) ∈ tb_L := tb_in (i := 829) (by decide +kernel) (by decide +kernel)
theorem wd_830 : (Jvm.Cond.selects "SilentSale" ({ cls := "SilentSale", name := "worth", desc := "(II)I" } : Jvm.MethodName) ({ cls := "SilentSale", name := "worth", desc := "(II)I" } : Jvm.MethodName)) ∈ tb_L := tb_in (i := 830) (by decide +kernel) (by decide +kernel)
theorem wd_1599 : (Jvm.Cond.methodLink "SilentSaleLaw" (48 : Nat) ({ cls := "SilentSaleModel", name := "worth", desc := "(II)I" } : Jvm.MethodName)) ∈ tb_L := tb_in (i := 1599) (by decide +kernel) (by decide +kernel)
theorem wd_1600 : (Jvm.Cond.instanceMethod ({ cls := "SilentSaleModel", name := "worth", desc := "(II)I" } : Jvm.MethodName)) ∈ tb_L := tb_in (i := 1600) (by decide +kernel) (by decide +kernel)
theorem wd_1601 : (Jvm.Cond.selects "SilentSaleModel" ({ cls := "SilentSaleModel", name := "worth", desc := "(II)I" } : Jvm.MethodName) ({ cls := "SilentSaleModel", name := "worth", desc := "(II)I" } : Jvm.MethodName)) ∈ tb_L := tb_in (i := 1601) (by decide +kernel) (by decide +kernel)
theorem dL_law_373 : decode cL_law 373 = .ok (.aload_n 1, 1) := by decide +kernel
theorem dL_law_374 : decode cL_law 374 = .ok (.aload_n 0, 1) := by decide +kernel
theorem dL_law_375 : decode cL_law 375 = .ok (.iload_n 3, 1) := by decide +kernel
theorem dL_law_376 : decode cL_law 376 = .ok (.iconst 1, 1) := by decide +kernel
theorem dL_law_377 : decode cL_law 377 = .ok (.iadd, 1) := by decide +kernel
theorem dL_law_378 : decode cL_law 378 = .ok (.iaload, 1) := by decide +kernel
theorem dL_law_379 : decode cL_law 379 = .ok (.aload_n 0, 1) := by decide +kernel
theorem dL_law_380 : decode cL_law 380 = .ok (.iload_n 3, 1) := by decide +kernel
theorem dL_law_381 : decode cL_law 381 = .ok (.iconst 2, 1) := by decide +kernel
theorem dL_law_382 : decode cL_law 382 = .ok (.iadd, 1) := by decide +kernel
theorem dL_law_383 : decode cL_law 383 = .ok (.iaload, 1) := by decide +kernel
theorem dL_law_384 : decode cL_law 384 = .ok (.invokevirtual 45, 3) := by decide +kernel
theorem dL_law_387 : decode cL_law 387 = .ok (.aload_n 2, 1) := by decide +kernel
theorem dL_law_388 : decode cL_law 388 = .ok (.aload_n 0, 1) := by decide +kernel
theorem dL_law_389 : decode cL_law 389 = .ok (.iload_n 3, 1) := by decide +kernel
theorem dL_law_390 : decode cL_law 390 = .ok (.iconst 1, 1) := by decide +kernel
theorem dL_law_391 : decode cL_law 391 = .ok (.iadd, 1) := by decide +kernel
theorem dL_law_392 : decode cL_law 392 = .ok (.iaload, 1) := by decide +kernel
theorem dL_law_393 : decode cL_law 393 = .ok (.aload_n 0, 1) := by decide +kernel
theorem dL_law_394 : decode cL_law 394 = .ok (.iload_n 3, 1) := by decide +kernel
theorem dL_law_395 : decode cL_law 395 = .ok (.iconst 2, 1) := by decide +kernel
theorem dL_law_396 : decode cL_law 396 = .ok (.iadd, 1) := by decide +kernel
theorem dL_law_397 : decode cL_law 397 = .ok (.iaload, 1) := by decide +kernel
theorem dL_law_398 : decode cL_law 398 = .ok (.invokevirtual 48, 3) := by decide +kernel
theorem dL_law_401 : decode cL_law 401 = .ok (.if_icmp .eq 694, 3) := by decide +kernel
set_option maxHeartbeats 4000000 in
set_option maxRecDepth 100000 in
theorem lw_c0 {p : Program} {l : Launch} {e : Env} {s : State} {m : MethodId} {below : List Frame} {meth : Method} {c : Code} {b : Nat} {xs : Nat → Int32} (C0 : lw_At p s m meth c b 6 xs) {G : gg_T} {K V : Nat → Nat} {A : Nat → Prop} (hA : ∀ q : Nat, s.heap.size ≤ q → A q) (hA2 : ∀ q : Nat, A q → s.heap.size ≤ q) (hK : gg_K G s) (hX : sx_G K V A s s.heap) {qx qm : Nat} {ax am : Nat → Nat} {fs fo : Nat → Int32} {fr fi : Nat → Option Nat} (pr0 : fr 0 = some (ax 37)) (pi0 : fi 0 = some (ax 43)) (pi1 : fi 1 = some (ax 64)) (pi2 : fi 2 = some (ax 85)) (pi3 : fi 3 = some (ax 106)) {H : Heap} {locs : List Loc} {ls : Array Slot} (hP : va_P (gg_D G) classes (lw_W G qx qm ax am fs fo fr fi) H) (hD : va_D A (lw_W G qx qm ax am fs fo fr fi)) (hS : va_S A s.heap H locs) (hl : lv_has ls 4 [(3, .int 0), (2, .ref qm), (1, .ref qx), (0, .ref b)]) : W p l e room_1 s m #[Value.ref b] below meth c H locs 430 10514 (lw_Z below #[Value.ref b] s) (F0 m 172 ls []) := by
  obtain ⟨hx, hb, hr, hml, hown, hts, hX_, hbl, hlocks, hgv⟩ := id C0
  have ht : ∀ w ∈ tb_L, w.before #[Value.ref b] s = true := fun w h => hts w (List.mem_filter.mp h).1
  have hbA : ¬ A b := fun h => Nat.not_le.mpr hbl (hA2 b h)
  have hP := hP.sub (ws' := [(qx, .inr (11, [.ref (ax 0), .ref (ax 1), .ref (ax 2), .ref (ax 3), .ref (ax 4), .ref (ax 5), .ref (ax 6), .ref (ax 7), .ref (ax 8), .ref (ax 9), .ref (ax 10), .ref (ax 11), .ref (ax 12), .int 0, .int (-1), .int 0])), ((ax 0), .inr (8, [.ref (ax 13), .int 0, .int 0, .int 0, .int 0])), ((ax 13), .inl (G.2.2 0, 400, .inl (fun _ => 0))), (qm, .inr (12, [.ref (am 0), .int 0, .int 0, .ref (am 1), .ref (am 2), .ref (am 3), .ref (am 4), .ref (am 5), .int 0, .int 0, .int 0, .int 0, .int 0, .int 0, .int 0, .ref (am 6), .int 0, .ref (am 7), .int 0, .ref (am 8), .ref (am 9), .int (-1), .int 0, .int 0, .int (-1), .int 0, .ref (am 10), .int 0, .ref (am 11), .ref (am 12), .ref (am 13), .ref (am 14), .long 0, .ref (am 15), .ref (am 16), .ref (am 17), .ref (am 18)])), ((am 0), .inl (G.2.2 2, 400, .inl (fun _ => 0)))]) [0, 1, 2, 113, 114] rfl
  have hD := hD.sub (ws' := [(qx, .inr (11, [.ref (ax 0), .ref (ax 1), .ref (ax 2), .ref (ax 3), .ref (ax 4), .ref (ax 5), .ref (ax 6), .ref (ax 7), .ref (ax 8), .ref (ax 9), .ref (ax 10), .ref (ax 11), .ref (ax 12), .int 0, .int (-1), .int 0])), ((ax 0), .inr (8, [.ref (ax 13), .int 0, .int 0, .int 0, .int 0])), ((ax 13), .inl (G.2.2 0, 400, .inl (fun _ => 0))), (qm, .inr (12, [.ref (am 0), .int 0, .int 0, .ref (am 1), .ref (am 2), .ref (am 3), .ref (am 4), .ref (am 5), .int 0, .int 0, .int 0, .int 0, .int 0, .int 0, .int 0, .ref (am 6), .int 0, .ref (am 7), .int 0, .ref (am 8), .ref (am 9), .int (-1), .int 0, .int 0, .int (-1), .int 0, .ref (am 10), .int 0, .ref (am 11), .ref (am 12), .ref (am 13), .ref (am 14), .long 0, .ref (am 15), .ref (am 16), .ref (am 17), .ref (am 18)])), ((am 0), .inl (G.2.2 2, 400, .inl (fun _ => 0)))]) [0, 1, 2, 113, 114] (by decide) rfl
  refine lv_aload_n hx hb dL_law_172 rfl (lv_at hl 2 rfl) ?_
  refine lv_aload_n hx hb dL_law_173 rfl (lv_at hl 3 rfl) ?_
  refine lv_iload_n hx hb dL_law_174 rfl (lv_at hl 0 rfl) ?_
  refine lv_iconst (v := 1) hx hb dL_law_175 (by decide) ?_
  refine gq_iadd hx hb 1 (by decide +kernel) dL_law_176 ?_
  refine va_sld hx hb hX_ hbl hbA hS (by unfold vp_in; decide +kernel) dL_law_177 ?_
  refine lv_aload_n hx hb dL_law_178 rfl (lv_at hl 3 rfl) ?_
  refine lv_iload_n hx hb dL_law_179 rfl (lv_at hl 0 rfl) ?_
  refine lv_iconst (v := 2) hx hb dL_law_180 (by decide) ?_
  refine gq_iadd hx hb 2 (by decide +kernel) dL_law_181 ?_
  refine va_sld hx hb hX_ hbl hbA hS (by unfold vp_in; decide +kernel) dL_law_182 ?_
  refine lv_aload_n hx hb dL_law_183 rfl (lv_at hl 3 rfl) ?_
  refine lv_iload_n hx hb dL_law_184 rfl (lv_at hl 0 rfl) ?_
  refine lv_iconst (v := 3) hx hb dL_law_185 (by decide) ?_
  refine gq_iadd hx hb 3 (by decide +kernel) dL_law_186 ?_
  refine va_sld hx hb hX_ hbl hbA hS (by unfold vp_in; decide +kernel) dL_law_187 ?_
  refine lv_aload_n hx hb dL_law_188 rfl (lv_at hl 3 rfl) ?_
  refine lv_iload_n hx hb dL_law_189 rfl (lv_at hl 0 rfl) ?_
  refine lv_iconst (v := 4) hx hb dL_law_190 (by decide) ?_
  refine gq_iadd hx hb 4 (by decide +kernel) dL_law_191 ?_
  refine va_sld hx hb hX_ hbl hbA hS (by unfold vp_in; decide +kernel) dL_law_192 ?_
  refine lv_aload_n hx hb dL_law_193 rfl (lv_at hl 3 rfl) ?_
  refine lv_iload_n hx hb dL_law_194 rfl (lv_at hl 0 rfl) ?_
  refine lv_iconst (v := 5) hx hb dL_law_195 (by decide) ?_
  refine gq_iadd hx hb 5 (by decide +kernel) dL_law_196 ?_
  refine va_sld hx hb hX_ hbl hbA hS (by unfold vp_in; decide +kernel) dL_law_197 ?_
  have hPc := hP.sub (ws' := [(qx, .inr (11, [.ref (ax 0), .ref (ax 1), .ref (ax 2), .ref (ax 3), .ref (ax 4), .ref (ax 5), .ref (ax 6), .ref (ax 7), .ref (ax 8), .ref (ax 9), .ref (ax 10), .ref (ax 11), .ref (ax 12), .int 0, .int (-1), .int 0])), ((ax 0), .inr (8, [.ref (ax 13), .int 0, .int 0, .int 0, .int 0])), ((ax 13), .inl (G.2.2 0, 400, .inl (fun _ => 0)))]) [0, 1, 2] rfl
  have hDc := hD.sub (ws' := [(qx, .inr (11, [.ref (ax 0), .ref (ax 1), .ref (ax 2), .ref (ax 3), .ref (ax 4), .ref (ax 5), .ref (ax 6), .ref (ax 7), .ref (ax 8), .ref (ax 9), .ref (ax 10), .ref (ax 11), .ref (ax 12), .int 0, .int (-1), .int 0])), ((ax 0), .inr (8, [.ref (ax 13), .int 0, .int 0, .int 0, .int 0])), ((ax 13), .inl (G.2.2 0, 400, .inl (fun _ => 0)))]) [0, 1, 2] (by decide) rfl
  refine gq_callI (wr := [(qm, .inr (12, [.ref (am 0), .int 0, .int 0, .ref (am 1), .ref (am 2), .ref (am 3), .ref (am 4), .ref (am 5), .int 0, .int 0, .int 0, .int 0, .int 0, .int 0, .int 0, .ref (am 6), .int 0, .ref (am 7), .int 0, .ref (am 8), .ref (am 9), .int (-1), .int 0, .int 0, .int (-1), .int 0, .ref (am 10), .int 0, .ref (am 11), .ref (am 12), .ref (am 13), .ref (am 14), .long 0, .ref (am 15), .ref (am 16), .ref (am 17), .ref (am 18)])), ((am 0), .inl (G.2.2 2, 400, .inl (fun _ => 0)))]) (va_runV (As := [.int (xs (Int32.toNatClampNeg 1)), .int (xs (Int32.toNatClampNeg 2)), .int (xs (Int32.toNatClampNeg 3)), .int (xs (Int32.toNatClampNeg 4)), .int (xs (Int32.toNatClampNeg 5))]) (rest := []) ⟨hx, hb, hml, hown, ht⟩ (c_S_feed l G H.size qx ax (xs (Int32.toNatClampNeg 1)) (xs (Int32.toNatClampNeg 2)) (xs (Int32.toNatClampNeg 3)) (xs (Int32.toNatClampNeg 4)) (xs (Int32.toNatClampNeg 5))) (cwV 5 ht (ts_gV wd_546 wd_547 wd_548 wd_122 wd_549) rfl rfl rfl (by decide +kernel) ⟨Nat.le_of_ble_eq_true rfl, Nat.le_of_ble_eq_true rfl⟩) (gc_preV (ci := 11) (q0 := 0) hK hPc hDc rfl rfl) rfl rfl hl.1 rfl (lv_room (Nat.le_of_ble_eq_true rfl)) dL_law_198 ⟨Nat.le_of_ble_eq_true rfl, Nat.le_of_ble_eq_true rfl⟩) hP hD hS hA [0, 1, 2] [3, 4] rfl rfl (by decide) (by decide) (fun r u H locs hw hP hD hS => ?_)
  have hw : r = 20 := hw
  subst hw
  have hP : va_P (gg_D G) classes [(qm, .inr (12, [.ref (am 0), .int 0, .int 0, .ref (am 1), .ref (am 2), .ref (am 3), .ref (am 4), .ref (am 5), .int 0, .int 0, .int 0, .int 0, .int 0, .int 0, .int 0, .ref (am 6), .int 0, .ref (am 7), .int 0, .ref (am 8), .ref (am 9), .int (-1), .int 0, .int 0, .int (-1), .int 0, .ref (am 10), .int 0, .ref (am 11), .ref (am 12), .ref (am 13), .ref (am 14), .long 0, .ref (am 15), .ref (am 16), .ref (am 17), .ref (am 18)])), ((am 0), .inl (G.2.2 2, 400, .inl (fun _ => 0)))] H := hP
  have hD : va_D A [(qm, .inr (12, [.ref (am 0), .int 0, .int 0, .ref (am 1), .ref (am 2), .ref (am 3), .ref (am 4), .ref (am 5), .int 0, .int 0, .int 0, .int 0, .int 0, .int 0, .int 0, .ref (am 6), .int 0, .ref (am 7), .int 0, .ref (am 8), .ref (am 9), .int (-1), .int 0, .int 0, .int (-1), .int 0, .ref (am 10), .int 0, .ref (am 11), .ref (am 12), .ref (am 13), .ref (am 14), .long 0, .ref (am 15), .ref (am 16), .ref (am 17), .ref (am 18)])), ((am 0), .inl (G.2.2 2, 400, .inl (fun _ => 0)))] := hD
  refine lv_aload_n hx hb dL_law_201 rfl (lv_at hl 1 rfl) ?_
  refine lv_aload_n hx hb dL_law_202 rfl (lv_at hl 3 rfl) ?_
  refine lv_iload_n hx hb dL_law_203 rfl (lv_at hl 0 rfl) ?_
  refine lv_iconst (v := 1) hx hb dL_law_204 (by decide) ?_
  refine gq_iadd hx hb 1 (by decide +kernel) dL_law_205 ?_
  refine va_sld hx hb hX_ hbl hbA hS (by unfold vp_in; decide +kernel) dL_law_206 ?_
  refine lv_aload_n hx hb dL_law_207 rfl (lv_at hl 3 rfl) ?_
  refine lv_iload_n hx hb dL_law_208 rfl (lv_at hl 0 rfl) ?_
  refine lv_iconst (v := 2) hx hb dL_law_209 (by decide) ?_
  refine gq_iadd hx hb 2 (by decide +kernel) dL_law_210 ?_
  refine va_sld hx hb hX_ hbl hbA hS (by unfold vp_in; decide +kernel) dL_law_211 ?_
  refine lv_aload_n hx hb dL_law_212 rfl (lv_at hl 3 rfl) ?_
  refine lv_iload_n hx hb dL_law_213 rfl (lv_at hl 0 rfl) ?_
  refine lv_iconst (v := 3) hx hb dL_law_214 (by decide) ?_
  refine gq_iadd hx hb 3 (by decide +kernel) dL_law_215 ?_
  refine va_sld hx hb hX_ hbl hbA hS (by unfold vp_in; decide +kernel) dL_law_216 ?_
  refine lv_aload_n hx hb dL_law_217 rfl (lv_at hl 3 rfl) ?_
  refine lv_iload_n hx hb dL_law_218 rfl (lv_at hl 0 rfl) ?_
  refine lv_iconst (v := 4) hx hb dL_law_219 (by decide) ?_
  refine gq_iadd hx hb 4 (by decide +kernel) dL_law_220 ?_
  refine va_sld hx hb hX_ hbl hbA hS (by unfold vp_in; decide +kernel) dL_law_221 ?_
  refine lv_aload_n hx hb dL_law_222 rfl (lv_at hl 3 rfl) ?_
  refine lv_iload_n hx hb dL_law_223 rfl (lv_at hl 0 rfl) ?_
  refine lv_iconst (v := 5) hx hb dL_law_224 (by decide) ?_
  refine gq_iadd hx hb 5 (by decide +kernel) dL_law_225 ?_
  refine va_sld hx hb hX_ hbl hbA hS (by unfold vp_in; decide +kernel) dL_law_226 ?_
  have hPc := hP.sub (ws' := [(qm, .inr (12, [.ref (am 0), .int 0, .int 0, .ref (am 1), .ref (am 2), .ref (am 3), .ref (am 4), .ref (am 5), .int 0, .int 0, .int 0, .int 0, .int 0, .int 0, .int 0, .ref (am 6), .int 0, .ref (am 7), .int 0, .ref (am 8), .ref (am 9), .int (-1), .int 0, .int 0, .int (-1), .int 0, .ref (am 10), .int 0, .ref (am 11), .ref (am 12), .ref (am 13), .ref (am 14), .long 0, .ref (am 15), .ref (am 16), .ref (am 17), .ref (am 18)])), ((am 0), .inl (G.2.2 2, 400, .inl (fun _ => 0)))]) [0, 1] rfl
  have hDc := hD.sub (ws' := [(qm, .inr (12, [.ref (am 0), .int 0, .int 0, .ref (am 1), .ref (am 2), .ref (am 3), .ref (am 4), .ref (am 5), .int 0, .int 0, .int 0, .int 0, .int 0, .int 0, .int 0, .ref (am 6), .int 0, .ref (am 7), .int 0, .ref (am 8), .ref (am 9), .int (-1), .int 0, .int 0, .int (-1), .int 0, .ref (am 10), .int 0, .ref (am 11), .ref (am 12), .ref (am 13), .ref (am 14), .long 0, .ref (am 15), .ref (am 16), .ref (am 17), .ref (am 18)])), ((am 0), .inl (G.2.2 2, 400, .inl (fun _ => 0)))]) [0, 1] (by decide) rfl
  refine gq_callI (wr := []) (va_runV (As := [.int (xs (Int32.toNatClampNeg 1)), .int (xs (Int32.toNatClampNeg 2)), .int (xs (Int32.toNatClampNeg 3)), .int (xs (Int32.toNatClampNeg 4)), .int (xs (Int32.toNatClampNeg 5))]) (rest := [.int 20]) ⟨hx, hb, hml, hown, ht⟩ (c_M_feed l G H.size qm am (xs (Int32.toNatClampNeg 1)) (xs (Int32.toNatClampNeg 2)) (xs (Int32.toNatClampNeg 3)) (xs (Int32.toNatClampNeg 4)) (xs (Int32.toNatClampNeg 5))) (cwV 5 ht (ts_gV wd_1365 wd_1366 wd_1367 wd_134 wd_1368) rfl rfl rfl (by decide +kernel) ⟨Nat.le_of_ble_eq_true rfl, Nat.le_of_ble_eq_true rfl⟩) (gc_preV (ci := 12) (q0 := 0) hK hPc hDc rfl rfl) rfl rfl hl.1 rfl (lv_room (Nat.le_of_ble_eq_true rfl)) dL_law_227 ⟨Nat.le_of_ble_eq_true rfl, Nat.le_of_ble_eq_true rfl⟩) hP hD hS hA [0, 1] [] rfl rfl (by decide) (by decide) (fun r u H locs hw hP hD hS => ?_)
  have hw : r = 20 := hw
  subst hw
  have hP : va_P (gg_D G) classes [] H := hP
  have hD : va_D A [] := hD
  refine lv_icmp_eq (tgt := 1095) hx hb dL_law_230 (by decide) (fun _ => ?_) (fun c0 => absurd (by decide +kernel) c0)
  refine lv_iinc (v := 6) (lv' := [(3, .int 6), (2, .ref qm), (1, .ref qx), (0, .ref b)]) hx hb dL_law_1095 hl (k := 0) rfl (by decide +kernel) (by decide) rfl (fun ls hl => ?_)
  refine lv_goto (tgt := 18) hx hb dL_law_1098 (by decide) ?_
  refine lv_iload_n hx hb dL_law_18 rfl (lv_at hl 0 rfl) ?_
  refine lv_aload_n hx hb dL_law_19 rfl (lv_at hl 3 rfl) ?_
  refine va_slen hx hb hX_ hbl hbA hS dL_law_20 ?_
  refine W.eq (g2 := F0 m 21 ls [.int 6, .int 6]) rfl ?_
  refine lv_bipush (v := 6) hx hb dL_law_21 (by decide +kernel) ?_
  refine gq_isub hx hb 0 (by decide +kernel) dL_law_23 ?_
  refine lv_icmp_gt (tgt := 1101) hx hb dL_law_24 (by decide) (fun _ => ?_) (fun c0 => absurd (by decide +kernel) c0)
  refine lv_iconst (v := 1) hx hb dL_law_1101 (by decide) ?_
  refine va_forget (fun q hq => hA2 _ (hS.2.2 q hq)) ?_
  refine W.widen (k := 600000) (n := 7302249) (Nat.le_of_ble_eq_true rfl) (Nat.le_of_ble_eq_true rfl) ?_
  exact lw_ret hx hb hr hlocks dL_law_1102
set_option maxHeartbeats 4000000 in
set_option maxRecDepth 100000 in
theorem lw_c1 {p : Program} {l : Launch} {e : Env} {s : State} {m : MethodId} {below : List Frame} {meth : Method} {c : Code} {b : Nat} {xs : Nat → Int32} (C0 : lw_At p s m meth c b 6 xs) {G : gg_T} {K V : Nat → Nat} {A : Nat → Prop} (hA : ∀ q : Nat, s.heap.size ≤ q → A q) (hA2 : ∀ q : Nat, A q → s.heap.size ≤ q) (hK : gg_K G s) (hX : sx_G K V A s s.heap) {qx qm : Nat} {ax am : Nat → Nat} {fs fo : Nat → Int32} {fr fi : Nat → Option Nat} (pr0 : fr 0 = some (ax 37)) (pi0 : fi 0 = some (ax 43)) (pi1 : fi 1 = some (ax 64)) (pi2 : fi 2 = some (ax 85)) (pi3 : fi 3 = some (ax 106)) {H : Heap} {locs : List Loc} {ls : Array Slot} (hP : va_P (gg_D G) classes (lw_W G qx qm ax am fs fo fr fi) H) (hD : va_D A (lw_W G qx qm ax am fs fo fr fi)) (hS : va_S A s.heap H locs) (hl : lv_has ls 4 [(3, .int 0), (2, .ref qm), (1, .ref qx), (0, .ref b)]) : W p l e room_1 s m #[Value.ref b] below meth c H locs 430 10514 (lw_Z below #[Value.ref b] s) (F0 m 235 ls []) := by
  obtain ⟨hx, hb, hr, hml, hown, hts, hX_, hbl, hlocks, hgv⟩ := id C0
  have ht : ∀ w ∈ tb_L, w.before #[Value.ref b] s = true := fun w h => hts w (List.mem_filter.mp h).1
  have hbA : ¬ A b := fun h => Nat.not_le.mpr hbl (hA2 b h)
  have hP := hP.sub (ws' := [(qx, .inr (11, [.ref (ax 0), .ref (ax 1), .ref (ax 2), .ref (ax 3), .ref (ax 4), .ref (ax 5), .ref (ax 6), .ref (ax 7), .ref (ax 8), .ref (ax 9), .ref (ax 10), .ref (ax 11), .ref (ax 12), .int 0, .int (-1), .int 0])), ((ax 0), .inr (8, [.ref (ax 13), .int 0, .int 0, .int 0, .int 0])), (qm, .inr (12, [.ref (am 0), .int 0, .int 0, .ref (am 1), .ref (am 2), .ref (am 3), .ref (am 4), .ref (am 5), .int 0, .int 0, .int 0, .int 0, .int 0, .int 0, .int 0, .ref (am 6), .int 0, .ref (am 7), .int 0, .ref (am 8), .ref (am 9), .int (-1), .int 0, .int 0, .int (-1), .int 0, .ref (am 10), .int 0, .ref (am 11), .ref (am 12), .ref (am 13), .ref (am 14), .long 0, .ref (am 15), .ref (am 16), .ref (am 17), .ref (am 18)]))]) [0, 1, 113] rfl
  have hD := hD.sub (ws' := [(qx, .inr (11, [.ref (ax 0), .ref (ax 1), .ref (ax 2), .ref (ax 3), .ref (ax 4), .ref (ax 5), .ref (ax 6), .ref (ax 7), .ref (ax 8), .ref (ax 9), .ref (ax 10), .ref (ax 11), .ref (ax 12), .int 0, .int (-1), .int 0])), ((ax 0), .inr (8, [.ref (ax 13), .int 0, .int 0, .int 0, .int 0])), (qm, .inr (12, [.ref (am 0), .int 0, .int 0, .ref (am 1), .ref (am 2), .ref (am 3), .ref (am 4), .ref (am 5), .int 0, .int 0, .int 0, .int 0, .int 0, .int 0, .int 0, .ref (am 6), .int 0, .ref (am 7), .int 0, .ref (am 8), .ref (am 9), .int (-1), .int 0, .int 0, .int (-1), .int 0, .ref (am 10), .int 0, .ref (am 11), .ref (am 12), .ref (am 13), .ref (am 14), .long 0, .ref (am 15), .ref (am 16), .ref (am 17), .ref (am 18)]))]) [0, 1, 113] (by decide) rfl
  refine lv_aload_n hx hb dL_law_235 rfl (lv_at hl 2 rfl) ?_
  refine lv_aload_n hx hb dL_law_236 rfl (lv_at hl 3 rfl) ?_
  refine lv_iload_n hx hb dL_law_237 rfl (lv_at hl 0 rfl) ?_
  refine lv_iconst (v := 1) hx hb dL_law_238 (by decide) ?_
  refine gq_iadd hx hb 1 (by decide +kernel) dL_law_239 ?_
  refine va_sld hx hb hX_ hbl hbA hS (by unfold vp_in; decide +kernel) dL_law_240 ?_
  have hPc := hP.sub (ws' := [(qx, .inr (11, [.ref (ax 0), .ref (ax 1), .ref (ax 2), .ref (ax 3), .ref (ax 4), .ref (ax 5), .ref (ax 6), .ref (ax 7), .ref (ax 8), .ref (ax 9), .ref (ax 10), .ref (ax 11), .ref (ax 12), .int 0, .int (-1), .int 0])), ((ax 0), .inr (8, [.ref (ax 13), .int 0, .int 0, .int 0, .int 0]))]) [0, 1] rfl
  have hDc := hD.sub (ws' := [(qx, .inr (11, [.ref (ax 0), .ref (ax 1), .ref (ax 2), .ref (ax 3), .ref (ax 4), .ref (ax 5), .ref (ax 6), .ref (ax 7), .ref (ax 8), .ref (ax 9), .ref (ax 10), .ref (ax 11), .ref (ax 12), .int 0, .int (-1), .int 0])), ((ax 0), .inr (8, [.ref (ax 13), .int 0, .int 0, .int 0, .int 0]))]) [0, 1] (by decide) rfl
  refine gq_callI (wr := [(qm, .inr (12, [.ref (am 0), .int 0, .int 0, .ref (am 1), .ref (am 2), .ref (am 3), .ref (am 4), .ref (am 5), .int 0, .int 0, .int 0, .int 0, .int 0, .int 0, .int 0, .ref (am 6), .int 0, .ref (am 7), .int 0, .ref (am 8), .ref (am 9), .int (-1), .int 0, .int 0, .int (-1), .int 0, .ref (am 10), .int 0, .ref (am 11), .ref (am 12), .ref (am 13), .ref (am 14), .long 0, .ref (am 15), .ref (am 16), .ref (am 17), .ref (am 18)]))]) (va_runV (As := [.int (xs (Int32.toNatClampNeg 1))]) (rest := []) ⟨hx, hb, hml, hown, ht⟩ (c_S_end l G H.size qx ax (xs (Int32.toNatClampNeg 1))) (cwV 1 ht (ts_gV wd_558 wd_559 wd_560 wd_122 wd_561) rfl rfl rfl (by decide +kernel) ⟨Nat.le_of_ble_eq_true rfl, Nat.le_of_ble_eq_true rfl⟩) (gc_preV (ci := 11) (q0 := 0) hK hPc hDc rfl rfl) rfl rfl hl.1 rfl (lv_room (Nat.le_of_ble_eq_true rfl)) dL_law_241 ⟨Nat.le_of_ble_eq_true rfl, Nat.le_of_ble_eq_true rfl⟩) hP hD hS hA [0, 1] [2] rfl rfl (by decide) (by decide) (fun r u H locs hw hP hD hS => ?_)
  have hw : r = (if (xs (Int32.toNatClampNeg 1)) = 0 then 0 else -1) := hw
  subst hw
  have hP : va_P (gg_D G) classes [(qm, .inr (12, [.ref (am 0), .int 0, .int 0, .ref (am 1), .ref (am 2), .ref (am 3), .ref (am 4), .ref (am 5), .int 0, .int 0, .int 0, .int 0, .int 0, .int 0, .int 0, .ref (am 6), .int 0, .ref (am 7), .int 0, .ref (am 8), .ref (am 9), .int (-1), .int 0, .int 0, .int (-1), .int 0, .ref (am 10), .int 0, .ref (am 11), .ref (am 12), .ref (am 13), .ref (am 14), .long 0, .ref (am 15), .ref (am 16), .ref (am 17), .ref (am 18)]))] H := hP
  have hD : va_D A [(qm, .inr (12, [.ref (am 0), .int 0, .int 0, .ref (am 1), .ref (am 2), .ref (am 3), .ref (am 4), .ref (am 5), .int 0, .int 0, .int 0, .int 0, .int 0, .int 0, .int 0, .ref (am 6), .int 0, .ref (am 7), .int 0, .ref (am 8), .ref (am 9), .int (-1), .int 0, .int 0, .int (-1), .int 0, .ref (am 10), .int 0, .ref (am 11), .ref (am 12), .ref (am 13), .ref (am 14), .long 0, .ref (am 15), .ref (am 16), .ref (am 17), .ref (am 18)]))] := hD
  refine lv_aload_n hx hb dL_law_244 rfl (lv_at hl 1 rfl) ?_
  refine lv_aload_n hx hb dL_law_245 rfl (lv_at hl 3 rfl) ?_
  refine lv_iload_n hx hb dL_law_246 rfl (lv_at hl 0 rfl) ?_
  refine lv_iconst (v := 1) hx hb dL_law_247 (by decide) ?_
  refine gq_iadd hx hb 1 (by decide +kernel) dL_law_248 ?_
  refine va_sld hx hb hX_ hbl hbA hS (by unfold vp_in; decide +kernel) dL_law_249 ?_
  have hPc := hP.sub (ws' := [(qm, .inr (12, [.ref (am 0), .int 0, .int 0, .ref (am 1), .ref (am 2), .ref (am 3), .ref (am 4), .ref (am 5), .int 0, .int 0, .int 0, .int 0, .int 0, .int 0, .int 0, .ref (am 6), .int 0, .ref (am 7), .int 0, .ref (am 8), .ref (am 9), .int (-1), .int 0, .int 0, .int (-1), .int 0, .ref (am 10), .int 0, .ref (am 11), .ref (am 12), .ref (am 13), .ref (am 14), .long 0, .ref (am 15), .ref (am 16), .ref (am 17), .ref (am 18)]))]) [0] rfl
  have hDc := hD.sub (ws' := [(qm, .inr (12, [.ref (am 0), .int 0, .int 0, .ref (am 1), .ref (am 2), .ref (am 3), .ref (am 4), .ref (am 5), .int 0, .int 0, .int 0, .int 0, .int 0, .int 0, .int 0, .ref (am 6), .int 0, .ref (am 7), .int 0, .ref (am 8), .ref (am 9), .int (-1), .int 0, .int 0, .int (-1), .int 0, .ref (am 10), .int 0, .ref (am 11), .ref (am 12), .ref (am 13), .ref (am 14), .long 0, .ref (am 15), .ref (am 16), .ref (am 17), .ref (am 18)]))]) [0] (by decide) rfl
  refine gq_callI (wr := []) (va_runV (As := [.int (xs (Int32.toNatClampNeg 1))]) (rest := [.int (if (xs (Int32.toNatClampNeg 1)) = 0 then 0 else -1)]) ⟨hx, hb, hml, hown, ht⟩ (c_M_end l G H.size qm am (xs (Int32.toNatClampNeg 1))) (cwV 1 ht (ts_gV wd_1373 wd_1374 wd_1375 wd_134 wd_1376) rfl rfl rfl (by decide +kernel) ⟨Nat.le_of_ble_eq_true rfl, Nat.le_of_ble_eq_true rfl⟩) (gc_preV (ci := 12) (q0 := 0) hK hPc hDc rfl rfl) rfl rfl hl.1 rfl (lv_room (Nat.le_of_ble_eq_true rfl)) dL_law_250 ⟨Nat.le_of_ble_eq_true rfl, Nat.le_of_ble_eq_true rfl⟩) hP hD hS hA [0] [] rfl rfl (by decide) (by decide) (fun r u H locs hw hP hD hS => ?_)
  have hw : r = (if (xs (Int32.toNatClampNeg 1)) = 0 then 0 else -1) := hw
  subst hw
  have hP : va_P (gg_D G) classes [] H := hP
  have hD : va_D A [] := hD
  refine lv_icmp_eq (tgt := 1095) hx hb dL_law_253 (by decide) (fun _ => ?_) (fun c0 => absurd rfl c0)
  refine lv_iinc (v := 6) (lv' := [(3, .int 6), (2, .ref qm), (1, .ref qx), (0, .ref b)]) hx hb dL_law_1095 hl (k := 0) rfl (by decide +kernel) (by decide) rfl (fun ls hl => ?_)
  refine lv_goto (tgt := 18) hx hb dL_law_1098 (by decide) ?_
  refine lv_iload_n hx hb dL_law_18 rfl (lv_at hl 0 rfl) ?_
  refine lv_aload_n hx hb dL_law_19 rfl (lv_at hl 3 rfl) ?_
  refine va_slen hx hb hX_ hbl hbA hS dL_law_20 ?_
  refine W.eq (g2 := F0 m 21 ls [.int 6, .int 6]) rfl ?_
  refine lv_bipush (v := 6) hx hb dL_law_21 (by decide +kernel) ?_
  refine gq_isub hx hb 0 (by decide +kernel) dL_law_23 ?_
  refine lv_icmp_gt (tgt := 1101) hx hb dL_law_24 (by decide) (fun _ => ?_) (fun c0 => absurd (by decide +kernel) c0)
  refine lv_iconst (v := 1) hx hb dL_law_1101 (by decide) ?_
  refine va_forget (fun q hq => hA2 _ (hS.2.2 q hq)) ?_
  refine W.widen (k := 600000) (n := 7302249) (Nat.le_of_ble_eq_true rfl) (Nat.le_of_ble_eq_true rfl) ?_
  exact lw_ret hx hb hr hlocks dL_law_1102
set_option maxHeartbeats 4000000 in
set_option maxRecDepth 100000 in
theorem lw_c2 {p : Program} {l : Launch} {e : Env} {s : State} {m : MethodId} {below : List Frame} {meth : Method} {c : Code} {b : Nat} {xs : Nat → Int32} (C0 : lw_At p s m meth c b 6 xs) {G : gg_T} {K V : Nat → Nat} {A : Nat → Prop} (hA : ∀ q : Nat, s.heap.size ≤ q → A q) (hA2 : ∀ q : Nat, A q → s.heap.size ≤ q) (hK : gg_K G s) (hX : sx_G K V A s s.heap) {qx qm : Nat} {ax am : Nat → Nat} {fs fo : Nat → Int32} {fr fi : Nat → Option Nat} (pr0 : fr 0 = some (ax 37)) (pi0 : fi 0 = some (ax 43)) (pi1 : fi 1 = some (ax 64)) (pi2 : fi 2 = some (ax 85)) (pi3 : fi 3 = some (ax 106)) {H : Heap} {locs : List Loc} {ls : Array Slot} (hP : va_P (gg_D G) classes (lw_W G qx qm ax am fs fo fr fi) H) (hD : va_D A (lw_W G qx qm ax am fs fo fr fi)) (hS : va_S A s.heap H locs) (hl : lv_has ls 4 [(3, .int 0), (2, .ref qm), (1, .ref qx), (0, .ref b)]) : W p l e room_1 s m #[Value.ref b] below meth c H locs 430 10514 (lw_Z below #[Value.ref b] s) (F0 m 258 ls []) := by
  obtain ⟨hx, hb, hr, hml, hown, hts, hX_, hbl, hlocks, hgv⟩ := id C0
  have ht : ∀ w ∈ tb_L, w.before #[Value.ref b] s = true := fun w h => hts w (List.mem_filter.mp h).1
  have hbA : ¬ A b := fun h => Nat.not_le.mpr hbl (hA2 b h)
  have hP := hP.sub (ws' := [(qx, .inr (11, [.ref (ax 0), .ref (ax 1), .ref (ax 2), .ref (ax 3), .ref (ax 4), .ref (ax 5), .ref (ax 6), .ref (ax 7), .ref (ax 8), .ref (ax 9), .ref (ax 10), .ref (ax 11), .ref (ax 12), .int 0, .int (-1), .int 0])), ((ax 0), .inr (8, [.ref (ax 13), .int 0, .int 0, .int 0, .int 0])), ((ax 2), .inr (9, [.int 0, .int 0, .int 0, .int 0, .ref (ax 19), .ref (ax 20), .ref (ax 21), .ref (ax 22), .ref (ax 23)])), ((ax 21), .inl (G.2.2 0, 15, .inl (fun _ => 0))), (qm, .inr (12, [.ref (am 0), .int 0, .int 0, .ref (am 1), .ref (am 2), .ref (am 3), .ref (am 4), .ref (am 5), .int 0, .int 0, .int 0, .int 0, .int 0, .int 0, .int 0, .ref (am 6), .int 0, .ref (am 7), .int 0, .ref (am 8), .ref (am 9), .int (-1), .int 0, .int 0, .int (-1), .int 0, .ref (am 10), .int 0, .ref (am 11), .ref (am 12), .ref (am 13), .ref (am 14), .long 0, .ref (am 15), .ref (am 16), .ref (am 17), .ref (am 18)])), ((am 2), .inl (G.2.2 0, 7, .inl (fun _ => 0))), ((am 5), .inl (G.2.2 0, 79, .inl (fun _ => 0)))]) [0, 1, 9, 10, 113, 115, 117] rfl
  have hD := hD.sub (ws' := [(qx, .inr (11, [.ref (ax 0), .ref (ax 1), .ref (ax 2), .ref (ax 3), .ref (ax 4), .ref (ax 5), .ref (ax 6), .ref (ax 7), .ref (ax 8), .ref (ax 9), .ref (ax 10), .ref (ax 11), .ref (ax 12), .int 0, .int (-1), .int 0])), ((ax 0), .inr (8, [.ref (ax 13), .int 0, .int 0, .int 0, .int 0])), ((ax 2), .inr (9, [.int 0, .int 0, .int 0, .int 0, .ref (ax 19), .ref (ax 20), .ref (ax 21), .ref (ax 22), .ref (ax 23)])), ((ax 21), .inl (G.2.2 0, 15, .inl (fun _ => 0))), (qm, .inr (12, [.ref (am 0), .int 0, .int 0, .ref (am 1), .ref (am 2), .ref (am 3), .ref (am 4), .ref (am 5), .int 0, .int 0, .int 0, .int 0, .int 0, .int 0, .int 0, .ref (am 6), .int 0, .ref (am 7), .int 0, .ref (am 8), .ref (am 9), .int (-1), .int 0, .int 0, .int (-1), .int 0, .ref (am 10), .int 0, .ref (am 11), .ref (am 12), .ref (am 13), .ref (am 14), .long 0, .ref (am 15), .ref (am 16), .ref (am 17), .ref (am 18)])), ((am 2), .inl (G.2.2 0, 7, .inl (fun _ => 0))), ((am 5), .inl (G.2.2 0, 79, .inl (fun _ => 0)))]) [0, 1, 9, 10, 113, 115, 117] (by decide) rfl
  refine lv_aload_n hx hb dL_law_258 rfl (lv_at hl 2 rfl) ?_
  have hPc := hP.sub (ws' := [(qx, .inr (11, [.ref (ax 0), .ref (ax 1), .ref (ax 2), .ref (ax 3), .ref (ax 4), .ref (ax 5), .ref (ax 6), .ref (ax 7), .ref (ax 8), .ref (ax 9), .ref (ax 10), .ref (ax 11), .ref (ax 12), .int 0, .int (-1), .int 0])), ((ax 0), .inr (8, [.ref (ax 13), .int 0, .int 0, .int 0, .int 0])), ((ax 2), .inr (9, [.int 0, .int 0, .int 0, .int 0, .ref (ax 19), .ref (ax 20), .ref (ax 21), .ref (ax 22), .ref (ax 23)])), ((ax 21), .inl (G.2.2 0, 15, .inl (fun _ => 0)))]) [0, 1, 2, 3] rfl
  have hDc := hD.sub (ws' := [(qx, .inr (11, [.ref (ax 0), .ref (ax 1), .ref (ax 2), .ref (ax 3), .ref (ax 4), .ref (ax 5), .ref (ax 6), .ref (ax 7), .ref (ax 8), .ref (ax 9), .ref (ax 10), .ref (ax 11), .ref (ax 12), .int 0, .int (-1), .int 0])), ((ax 0), .inr (8, [.ref (ax 13), .int 0, .int 0, .int 0, .int 0])), ((ax 2), .inr (9, [.int 0, .int 0, .int 0, .int 0, .ref (ax 19), .ref (ax 20), .ref (ax 21), .ref (ax 22), .ref (ax 23)])), ((ax 21), .inl (G.2.2 0, 15, .inl (fun _ => 0)))]) [0, 1, 2, 3] (by decide) rfl
  refine gq_callI (wr := [(qm, .inr (12, [.ref (am 0), .int 0, .int 0, .ref (am 1), .ref (am 2), .ref (am 3), .ref (am 4), .ref (am 5), .int 0, .int 0, .int 0, .int 0, .int 0, .int 0, .int 0, .ref (am 6), .int 0, .ref (am 7), .int 0, .ref (am 8), .ref (am 9), .int (-1), .int 0, .int 0, .int (-1), .int 0, .ref (am 10), .int 0, .ref (am 11), .ref (am 12), .ref (am 13), .ref (am 14), .long 0, .ref (am 15), .ref (am 16), .ref (am 17), .ref (am 18)])), ((am 2), .inl (G.2.2 0, 7, .inl (fun _ => 0))), ((am 5), .inl (G.2.2 0, 79, .inl (fun _ => 0)))]) (va_runV (As := []) (rest := []) ⟨hx, hb, hml, hown, ht⟩ (c_S_sale l G H.size K V qx ax) (cwV 0 ht (ts_gV wd_566 wd_567 wd_568 wd_122 wd_569) rfl rfl rfl (by decide +kernel) ⟨Nat.le_of_ble_eq_true rfl, Nat.le_of_ble_eq_true rfl⟩) (gx_preV (ci := 11) (q0 := 0) hK hPc hDc hX hS (va_free hD hS hA [0, 1, 2, 3] rfl) rfl rfl) rfl rfl hl.1 rfl (lv_room (Nat.le_of_ble_eq_true rfl)) dL_law_259 ⟨Nat.le_of_ble_eq_true rfl, Nat.le_of_ble_eq_true rfl⟩) hP hD hS hA [0, 1, 2, 3] [4, 5, 6] rfl rfl (by decide) (by decide) (fun r u H locs hw hP hD hS => ?_)
  have hw : r = (-3) := hw
  subst hw
  have hP : va_P (gg_D G) classes [(qm, .inr (12, [.ref (am 0), .int 0, .int 0, .ref (am 1), .ref (am 2), .ref (am 3), .ref (am 4), .ref (am 5), .int 0, .int 0, .int 0, .int 0, .int 0, .int 0, .int 0, .ref (am 6), .int 0, .ref (am 7), .int 0, .ref (am 8), .ref (am 9), .int (-1), .int 0, .int 0, .int (-1), .int 0, .ref (am 10), .int 0, .ref (am 11), .ref (am 12), .ref (am 13), .ref (am 14), .long 0, .ref (am 15), .ref (am 16), .ref (am 17), .ref (am 18)])), ((am 2), .inl (G.2.2 0, 7, .inl (fun _ => 0))), ((am 5), .inl (G.2.2 0, 79, .inl (fun _ => 0)))] H := hP
  have hD : va_D A [(qm, .inr (12, [.ref (am 0), .int 0, .int 0, .ref (am 1), .ref (am 2), .ref (am 3), .ref (am 4), .ref (am 5), .int 0, .int 0, .int 0, .int 0, .int 0, .int 0, .int 0, .ref (am 6), .int 0, .ref (am 7), .int 0, .ref (am 8), .ref (am 9), .int (-1), .int 0, .int 0, .int (-1), .int 0, .ref (am 10), .int 0, .ref (am 11), .ref (am 12), .ref (am 13), .ref (am 14), .long 0, .ref (am 15), .ref (am 16), .ref (am 17), .ref (am 18)])), ((am 2), .inl (G.2.2 0, 7, .inl (fun _ => 0))), ((am 5), .inl (G.2.2 0, 79, .inl (fun _ => 0)))] := hD
  refine lv_aload_n hx hb dL_law_262 rfl (lv_at hl 1 rfl) ?_
  have hPc := hP.sub (ws' := [(qm, .inr (12, [.ref (am 0), .int 0, .int 0, .ref (am 1), .ref (am 2), .ref (am 3), .ref (am 4), .ref (am 5), .int 0, .int 0, .int 0, .int 0, .int 0, .int 0, .int 0, .ref (am 6), .int 0, .ref (am 7), .int 0, .ref (am 8), .ref (am 9), .int (-1), .int 0, .int 0, .int (-1), .int 0, .ref (am 10), .int 0, .ref (am 11), .ref (am 12), .ref (am 13), .ref (am 14), .long 0, .ref (am 15), .ref (am 16), .ref (am 17), .ref (am 18)])), ((am 5), .inl (G.2.2 0, 79, .inl (fun _ => 0))), ((am 2), .inl (G.2.2 0, 7, .inl (fun _ => 0)))]) [0, 2, 1] rfl
  have hDc := hD.sub (ws' := [(qm, .inr (12, [.ref (am 0), .int 0, .int 0, .ref (am 1), .ref (am 2), .ref (am 3), .ref (am 4), .ref (am 5), .int 0, .int 0, .int 0, .int 0, .int 0, .int 0, .int 0, .ref (am 6), .int 0, .ref (am 7), .int 0, .ref (am 8), .ref (am 9), .int (-1), .int 0, .int 0, .int (-1), .int 0, .ref (am 10), .int 0, .ref (am 11), .ref (am 12), .ref (am 13), .ref (am 14), .long 0, .ref (am 15), .ref (am 16), .ref (am 17), .ref (am 18)])), ((am 5), .inl (G.2.2 0, 79, .inl (fun _ => 0))), ((am 2), .inl (G.2.2 0, 7, .inl (fun _ => 0)))]) [0, 2, 1] (by decide) rfl
  refine gq_callI (wr := []) (va_runV (As := []) (rest := [.int (-3)]) ⟨hx, hb, hml, hown, ht⟩ (c_M_sale l G H.size qm am) (cwV 0 ht (ts_gV wd_1533 wd_1534 wd_1535 wd_134 wd_1536) rfl rfl rfl (by decide +kernel) ⟨Nat.le_of_ble_eq_true rfl, Nat.le_of_ble_eq_true rfl⟩) (gc_preV (ci := 12) (q0 := 0) hK hPc hDc rfl rfl) rfl rfl hl.1 rfl (lv_room (Nat.le_of_ble_eq_true rfl)) dL_law_263 ⟨Nat.le_of_ble_eq_true rfl, Nat.le_of_ble_eq_true rfl⟩) hP hD hS hA [0, 2, 1] [] rfl rfl (by decide) (by decide) (fun r u H locs hw hP hD hS => ?_)
  have hw : r = (-3) := hw
  subst hw
  have hP : va_P (gg_D G) classes [] H := hP
  have hD : va_D A [] := hD
  refine lv_icmp_eq (tgt := 1095) hx hb dL_law_266 (by decide) (fun _ => ?_) (fun c0 => absurd (by decide +kernel) c0)
  refine lv_iinc (v := 6) (lv' := [(3, .int 6), (2, .ref qm), (1, .ref qx), (0, .ref b)]) hx hb dL_law_1095 hl (k := 0) rfl (by decide +kernel) (by decide) rfl (fun ls hl => ?_)
  refine lv_goto (tgt := 18) hx hb dL_law_1098 (by decide) ?_
  refine lv_iload_n hx hb dL_law_18 rfl (lv_at hl 0 rfl) ?_
  refine lv_aload_n hx hb dL_law_19 rfl (lv_at hl 3 rfl) ?_
  refine va_slen hx hb hX_ hbl hbA hS dL_law_20 ?_
  refine W.eq (g2 := F0 m 21 ls [.int 6, .int 6]) rfl ?_
  refine lv_bipush (v := 6) hx hb dL_law_21 (by decide +kernel) ?_
  refine gq_isub hx hb 0 (by decide +kernel) dL_law_23 ?_
  refine lv_icmp_gt (tgt := 1101) hx hb dL_law_24 (by decide) (fun _ => ?_) (fun c0 => absurd (by decide +kernel) c0)
  refine lv_iconst (v := 1) hx hb dL_law_1101 (by decide) ?_
  refine va_forget (fun q hq => hA2 _ (hS.2.2 q hq)) ?_
  refine W.widen (k := 600000) (n := 7302249) (Nat.le_of_ble_eq_true rfl) (Nat.le_of_ble_eq_true rfl) ?_
  exact lw_ret hx hb hr hlocks dL_law_1102
set_option maxHeartbeats 4000000 in
set_option maxRecDepth 100000 in
theorem lw_c3 {p : Program} {l : Launch} {e : Env} {s : State} {m : MethodId} {below : List Frame} {meth : Method} {c : Code} {b : Nat} {xs : Nat → Int32} (C0 : lw_At p s m meth c b 6 xs) {G : gg_T} {K V : Nat → Nat} {A : Nat → Prop} (hA : ∀ q : Nat, s.heap.size ≤ q → A q) (hA2 : ∀ q : Nat, A q → s.heap.size ≤ q) (hK : gg_K G s) (hX : sx_G K V A s s.heap) {qx qm : Nat} {ax am : Nat → Nat} {fs fo : Nat → Int32} {fr fi : Nat → Option Nat} (pr0 : fr 0 = some (ax 37)) (pi0 : fi 0 = some (ax 43)) (pi1 : fi 1 = some (ax 64)) (pi2 : fi 2 = some (ax 85)) (pi3 : fi 3 = some (ax 106)) {H : Heap} {locs : List Loc} {ls : Array Slot} (hP : va_P (gg_D G) classes (lw_W G qx qm ax am fs fo fr fi) H) (hD : va_D A (lw_W G qx qm ax am fs fo fr fi)) (hS : va_S A s.heap H locs) (hl : lv_has ls 4 [(3, .int 0), (2, .ref qm), (1, .ref qx), (0, .ref b)]) : W p l e room_1 s m #[Value.ref b] below meth c H locs 430 10514 (lw_Z below #[Value.ref b] s) (F0 m 271 ls []) := by
  obtain ⟨hx, hb, hr, hml, hown, hts, hX_, hbl, hlocks, hgv⟩ := id C0
  have ht : ∀ w ∈ tb_L, w.before #[Value.ref b] s = true := fun w h => hts w (List.mem_filter.mp h).1
  have hbA : ¬ A b := fun h => Nat.not_le.mpr hbl (hA2 b h)
  have hP := hP.sub (ws' := [(qx, .inr (11, [.ref (ax 0), .ref (ax 1), .ref (ax 2), .ref (ax 3), .ref (ax 4), .ref (ax 5), .ref (ax 6), .ref (ax 7), .ref (ax 8), .ref (ax 9), .ref (ax 10), .ref (ax 11), .ref (ax 12), .int 0, .int (-1), .int 0])), ((ax 0), .inr (8, [.ref (ax 13), .int 0, .int 0, .int 0, .int 0])), ((ax 7), .inl (G.2.2 5, 6, .inr (.inr (.inr (.inr fr))))), ((ax 37), .inr (4, [.ref (ax 38), .ref (ax 39), .ref (ax 40), .ref (ax 41), .ref (ax 42), .int 0, .int 0, .int 0, .int 0])), (qm, .inr (12, [.ref (am 0), .int 0, .int 0, .ref (am 1), .ref (am 2), .ref (am 3), .ref (am 4), .ref (am 5), .int 0, .int 0, .int 0, .int 0, .int 0, .int 0, .int 0, .ref (am 6), .int 0, .ref (am 7), .int 0, .ref (am 8), .ref (am 9), .int (-1), .int 0, .int 0, .int (-1), .int 0, .ref (am 10), .int 0, .ref (am 11), .ref (am 12), .ref (am 13), .ref (am 14), .long 0, .ref (am 15), .ref (am 16), .ref (am 17), .ref (am 18)])), ((am 2), .inl (G.2.2 0, 7, .inl (fun _ => 0))), ((am 4), .inl (G.2.2 0, 6, .inl (fun _ => 0)))]) [0, 1, 26, 27, 113, 115, 116] rfl
  have hD := hD.sub (ws' := [(qx, .inr (11, [.ref (ax 0), .ref (ax 1), .ref (ax 2), .ref (ax 3), .ref (ax 4), .ref (ax 5), .ref (ax 6), .ref (ax 7), .ref (ax 8), .ref (ax 9), .ref (ax 10), .ref (ax 11), .ref (ax 12), .int 0, .int (-1), .int 0])), ((ax 0), .inr (8, [.ref (ax 13), .int 0, .int 0, .int 0, .int 0])), ((ax 7), .inl (G.2.2 5, 6, .inr (.inr (.inr (.inr fr))))), ((ax 37), .inr (4, [.ref (ax 38), .ref (ax 39), .ref (ax 40), .ref (ax 41), .ref (ax 42), .int 0, .int 0, .int 0, .int 0])), (qm, .inr (12, [.ref (am 0), .int 0, .int 0, .ref (am 1), .ref (am 2), .ref (am 3), .ref (am 4), .ref (am 5), .int 0, .int 0, .int 0, .int 0, .int 0, .int 0, .int 0, .ref (am 6), .int 0, .ref (am 7), .int 0, .ref (am 8), .ref (am 9), .int (-1), .int 0, .int 0, .int (-1), .int 0, .ref (am 10), .int 0, .ref (am 11), .ref (am 12), .ref (am 13), .ref (am 14), .long 0, .ref (am 15), .ref (am 16), .ref (am 17), .ref (am 18)])), ((am 2), .inl (G.2.2 0, 7, .inl (fun _ => 0))), ((am 4), .inl (G.2.2 0, 6, .inl (fun _ => 0)))]) [0, 1, 26, 27, 113, 115, 116] (by decide) rfl
  refine lv_aload_n hx hb dL_law_271 rfl (lv_at hl 2 rfl) ?_
  have hPc := hP.sub (ws' := [(qx, .inr (11, [.ref (ax 0), .ref (ax 1), .ref (ax 2), .ref (ax 3), .ref (ax 4), .ref (ax 5), .ref (ax 6), .ref (ax 7), .ref (ax 8), .ref (ax 9), .ref (ax 10), .ref (ax 11), .ref (ax 12), .int 0, .int (-1), .int 0])), ((ax 0), .inr (8, [.ref (ax 13), .int 0, .int 0, .int 0, .int 0])), ((ax 7), .inl (G.2.2 5, 6, .inr (.inr (.inr (.inr fr))))), ((ax 37), .inr (4, [.ref (ax 38), .ref (ax 39), .ref (ax 40), .ref (ax 41), .ref (ax 42), .int 0, .int 0, .int 0, .int 0]))]) [0, 1, 2, 3] rfl
  have hDc := hD.sub (ws' := [(qx, .inr (11, [.ref (ax 0), .ref (ax 1), .ref (ax 2), .ref (ax 3), .ref (ax 4), .ref (ax 5), .ref (ax 6), .ref (ax 7), .ref (ax 8), .ref (ax 9), .ref (ax 10), .ref (ax 11), .ref (ax 12), .int 0, .int (-1), .int 0])), ((ax 0), .inr (8, [.ref (ax 13), .int 0, .int 0, .int 0, .int 0])), ((ax 7), .inl (G.2.2 5, 6, .inr (.inr (.inr (.inr fr))))), ((ax 37), .inr (4, [.ref (ax 38), .ref (ax 39), .ref (ax 40), .ref (ax 41), .ref (ax 42), .int 0, .int 0, .int 0, .int 0]))]) [0, 1, 2, 3] (by decide) rfl
  refine gq_callI (wr := [(qm, .inr (12, [.ref (am 0), .int 0, .int 0, .ref (am 1), .ref (am 2), .ref (am 3), .ref (am 4), .ref (am 5), .int 0, .int 0, .int 0, .int 0, .int 0, .int 0, .int 0, .ref (am 6), .int 0, .ref (am 7), .int 0, .ref (am 8), .ref (am 9), .int (-1), .int 0, .int 0, .int (-1), .int 0, .ref (am 10), .int 0, .ref (am 11), .ref (am 12), .ref (am 13), .ref (am 14), .long 0, .ref (am 15), .ref (am 16), .ref (am 17), .ref (am 18)])), ((am 2), .inl (G.2.2 0, 7, .inl (fun _ => 0))), ((am 4), .inl (G.2.2 0, 6, .inl (fun _ => 0)))]) (va_runV (As := []) (rest := []) ⟨hx, hb, hml, hown, ht⟩ (c_S_rule l G H.size K V qx ax fr pr0) (cwV 0 ht (ts_gV wd_704 wd_705 wd_706 wd_122 wd_707) rfl rfl rfl (by decide +kernel) ⟨Nat.le_of_ble_eq_true rfl, Nat.le_of_ble_eq_true rfl⟩) (gx_preV (ci := 11) (q0 := 0) hK hPc hDc hX hS (va_free hD hS hA [0, 1, 2, 3] rfl) rfl rfl) rfl rfl hl.1 rfl (lv_room (Nat.le_of_ble_eq_true rfl)) dL_law_272 ⟨Nat.le_of_ble_eq_true rfl, Nat.le_of_ble_eq_true rfl⟩) hP hD hS hA [0, 1, 2, 3] [4, 5, 6] rfl rfl (by decide) (by decide) (fun r u H locs hw hP hD hS => ?_)
  have hw : r = (-3) := hw
  subst hw
  have hP : va_P (gg_D G) classes [(qm, .inr (12, [.ref (am 0), .int 0, .int 0, .ref (am 1), .ref (am 2), .ref (am 3), .ref (am 4), .ref (am 5), .int 0, .int 0, .int 0, .int 0, .int 0, .int 0, .int 0, .ref (am 6), .int 0, .ref (am 7), .int 0, .ref (am 8), .ref (am 9), .int (-1), .int 0, .int 0, .int (-1), .int 0, .ref (am 10), .int 0, .ref (am 11), .ref (am 12), .ref (am 13), .ref (am 14), .long 0, .ref (am 15), .ref (am 16), .ref (am 17), .ref (am 18)])), ((am 2), .inl (G.2.2 0, 7, .inl (fun _ => 0))), ((am 4), .inl (G.2.2 0, 6, .inl (fun _ => 0)))] H := hP
  have hD : va_D A [(qm, .inr (12, [.ref (am 0), .int 0, .int 0, .ref (am 1), .ref (am 2), .ref (am 3), .ref (am 4), .ref (am 5), .int 0, .int 0, .int 0, .int 0, .int 0, .int 0, .int 0, .ref (am 6), .int 0, .ref (am 7), .int 0, .ref (am 8), .ref (am 9), .int (-1), .int 0, .int 0, .int (-1), .int 0, .ref (am 10), .int 0, .ref (am 11), .ref (am 12), .ref (am 13), .ref (am 14), .long 0, .ref (am 15), .ref (am 16), .ref (am 17), .ref (am 18)])), ((am 2), .inl (G.2.2 0, 7, .inl (fun _ => 0))), ((am 4), .inl (G.2.2 0, 6, .inl (fun _ => 0)))] := hD
  refine lv_aload_n hx hb dL_law_275 rfl (lv_at hl 1 rfl) ?_
  have hPc := hP.sub (ws' := [(qm, .inr (12, [.ref (am 0), .int 0, .int 0, .ref (am 1), .ref (am 2), .ref (am 3), .ref (am 4), .ref (am 5), .int 0, .int 0, .int 0, .int 0, .int 0, .int 0, .int 0, .ref (am 6), .int 0, .ref (am 7), .int 0, .ref (am 8), .ref (am 9), .int (-1), .int 0, .int 0, .int (-1), .int 0, .ref (am 10), .int 0, .ref (am 11), .ref (am 12), .ref (am 13), .ref (am 14), .long 0, .ref (am 15), .ref (am 16), .ref (am 17), .ref (am 18)])), ((am 4), .inl (G.2.2 0, 6, .inl (fun _ => 0))), ((am 2), .inl (G.2.2 0, 7, .inl (fun _ => 0)))]) [0, 2, 1] rfl
  have hDc := hD.sub (ws' := [(qm, .inr (12, [.ref (am 0), .int 0, .int 0, .ref (am 1), .ref (am 2), .ref (am 3), .ref (am 4), .ref (am 5), .int 0, .int 0, .int 0, .int 0, .int 0, .int 0, .int 0, .ref (am 6), .int 0, .ref (am 7), .int 0, .ref (am 8), .ref (am 9), .int (-1), .int 0, .int 0, .int (-1), .int 0, .ref (am 10), .int 0, .ref (am 11), .ref (am 12), .ref (am 13), .ref (am 14), .long 0, .ref (am 15), .ref (am 16), .ref (am 17), .ref (am 18)])), ((am 4), .inl (G.2.2 0, 6, .inl (fun _ => 0))), ((am 2), .inl (G.2.2 0, 7, .inl (fun _ => 0)))]) [0, 2, 1] (by decide) rfl
  refine gq_callI (wr := []) (va_runV (As := []) (rest := [.int (-3)]) ⟨hx, hb, hml, hown, ht⟩ (c_M_rule l G H.size qm am) (cwV 0 ht (ts_gV wd_1377 wd_1378 wd_1379 wd_134 wd_1380) rfl rfl rfl (by decide +kernel) ⟨Nat.le_of_ble_eq_true rfl, Nat.le_of_ble_eq_true rfl⟩) (gc_preV (ci := 12) (q0 := 0) hK hPc hDc rfl rfl) rfl rfl hl.1 rfl (lv_room (Nat.le_of_ble_eq_true rfl)) dL_law_276 ⟨Nat.le_of_ble_eq_true rfl, Nat.le_of_ble_eq_true rfl⟩) hP hD hS hA [0, 2, 1] [] rfl rfl (by decide) (by decide) (fun r u H locs hw hP hD hS => ?_)
  have hw : r = (-3) := hw
  subst hw
  have hP : va_P (gg_D G) classes [] H := hP
  have hD : va_D A [] := hD
  refine lv_icmp_eq (tgt := 1095) hx hb dL_law_279 (by decide) (fun _ => ?_) (fun c0 => absurd (by decide +kernel) c0)
  refine lv_iinc (v := 6) (lv' := [(3, .int 6), (2, .ref qm), (1, .ref qx), (0, .ref b)]) hx hb dL_law_1095 hl (k := 0) rfl (by decide +kernel) (by decide) rfl (fun ls hl => ?_)
  refine lv_goto (tgt := 18) hx hb dL_law_1098 (by decide) ?_
  refine lv_iload_n hx hb dL_law_18 rfl (lv_at hl 0 rfl) ?_
  refine lv_aload_n hx hb dL_law_19 rfl (lv_at hl 3 rfl) ?_
  refine va_slen hx hb hX_ hbl hbA hS dL_law_20 ?_
  refine W.eq (g2 := F0 m 21 ls [.int 6, .int 6]) rfl ?_
  refine lv_bipush (v := 6) hx hb dL_law_21 (by decide +kernel) ?_
  refine gq_isub hx hb 0 (by decide +kernel) dL_law_23 ?_
  refine lv_icmp_gt (tgt := 1101) hx hb dL_law_24 (by decide) (fun _ => ?_) (fun c0 => absurd (by decide +kernel) c0)
  refine lv_iconst (v := 1) hx hb dL_law_1101 (by decide) ?_
  refine va_forget (fun q hq => hA2 _ (hS.2.2 q hq)) ?_
  refine W.widen (k := 600000) (n := 7302249) (Nat.le_of_ble_eq_true rfl) (Nat.le_of_ble_eq_true rfl) ?_
  exact lw_ret hx hb hr hlocks dL_law_1102
set_option maxHeartbeats 4000000 in
set_option maxRecDepth 100000 in
theorem lw_c4 {p : Program} {l : Launch} {e : Env} {s : State} {m : MethodId} {below : List Frame} {meth : Method} {c : Code} {b : Nat} {xs : Nat → Int32} (C0 : lw_At p s m meth c b 6 xs) {G : gg_T} {K V : Nat → Nat} {A : Nat → Prop} (hA : ∀ q : Nat, s.heap.size ≤ q → A q) (hA2 : ∀ q : Nat, A q → s.heap.size ≤ q) (hK : gg_K G s) (hX : sx_G K V A s s.heap) {qx qm : Nat} {ax am : Nat → Nat} {fs fo : Nat → Int32} {fr fi : Nat → Option Nat} (pr0 : fr 0 = some (ax 37)) (pi0 : fi 0 = some (ax 43)) (pi1 : fi 1 = some (ax 64)) (pi2 : fi 2 = some (ax 85)) (pi3 : fi 3 = some (ax 106)) {H : Heap} {locs : List Loc} {ls : Array Slot} (hP : va_P (gg_D G) classes (lw_W G qx qm ax am fs fo fr fi) H) (hD : va_D A (lw_W G qx qm ax am fs fo fr fi)) (hS : va_S A s.heap H locs) (hl : lv_has ls 4 [(3, .int 0), (2, .ref qm), (1, .ref qx), (0, .ref b)]) : W p l e room_1 s m #[Value.ref b] below meth c H locs 430 10514 (lw_Z below #[Value.ref b] s) (F0 m 284 ls []) := by
  obtain ⟨hx, hb, hr, hml, hown, hts, hX_, hbl, hlocks, hgv⟩ := id C0
  have ht : ∀ w ∈ tb_L, w.before #[Value.ref b] s = true := fun w h => hts w (List.mem_filter.mp h).1
  have hbA : ¬ A b := fun h => Nat.not_le.mpr hbl (hA2 b h)
  have hP := hP.sub (ws' := [(qx, .inr (11, [.ref (ax 0), .ref (ax 1), .ref (ax 2), .ref (ax 3), .ref (ax 4), .ref (ax 5), .ref (ax 6), .ref (ax 7), .ref (ax 8), .ref (ax 9), .ref (ax 10), .ref (ax 11), .ref (ax 12), .int 0, .int (-1), .int 0])), (qm, .inr (12, [.ref (am 0), .int 0, .int 0, .ref (am 1), .ref (am 2), .ref (am 3), .ref (am 4), .ref (am 5), .int 0, .int 0, .int 0, .int 0, .int 0, .int 0, .int 0, .ref (am 6), .int 0, .ref (am 7), .int 0, .ref (am 8), .ref (am 9), .int (-1), .int 0, .int 0, .int (-1), .int 0, .ref (am 10), .int 0, .ref (am 11), .ref (am 12), .ref (am 13), .ref (am 14), .long 0, .ref (am 15), .ref (am 16), .ref (am 17), .ref (am 18)]))]) [0, 113] rfl
  have hD := hD.sub (ws' := [(qx, .inr (11, [.ref (ax 0), .ref (ax 1), .ref (ax 2), .ref (ax 3), .ref (ax 4), .ref (ax 5), .ref (ax 6), .ref (ax 7), .ref (ax 8), .ref (ax 9), .ref (ax 10), .ref (ax 11), .ref (ax 12), .int 0, .int (-1), .int 0])), (qm, .inr (12, [.ref (am 0), .int 0, .int 0, .ref (am 1), .ref (am 2), .ref (am 3), .ref (am 4), .ref (am 5), .int 0, .int 0, .int 0, .int 0, .int 0, .int 0, .int 0, .ref (am 6), .int 0, .ref (am 7), .int 0, .ref (am 8), .ref (am 9), .int (-1), .int 0, .int 0, .int (-1), .int 0, .ref (am 10), .int 0, .ref (am 11), .ref (am 12), .ref (am 13), .ref (am 14), .long 0, .ref (am 15), .ref (am 16), .ref (am 17), .ref (am 18)]))]) [0, 113] (by decide) rfl
  refine lv_aload_n hx hb dL_law_284 rfl (lv_at hl 2 rfl) ?_
  refine lv_aload_n hx hb dL_law_285 rfl (lv_at hl 3 rfl) ?_
  refine lv_iload_n hx hb dL_law_286 rfl (lv_at hl 0 rfl) ?_
  refine lv_iconst (v := 1) hx hb dL_law_287 (by decide) ?_
  refine gq_iadd hx hb 1 (by decide +kernel) dL_law_288 ?_
  refine va_sld hx hb hX_ hbl hbA hS (by unfold vp_in; decide +kernel) dL_law_289 ?_
  have hPc := hP.sub (ws' := [(qx, .inr (11, [.ref (ax 0), .ref (ax 1), .ref (ax 2), .ref (ax 3), .ref (ax 4), .ref (ax 5), .ref (ax 6), .ref (ax 7), .ref (ax 8), .ref (ax 9), .ref (ax 10), .ref (ax 11), .ref (ax 12), .int 0, .int (-1), .int 0]))]) [0] rfl
  have hDc := hD.sub (ws' := [(qx, .inr (11, [.ref (ax 0), .ref (ax 1), .ref (ax 2), .ref (ax 3), .ref (ax 4), .ref (ax 5), .ref (ax 6), .ref (ax 7), .ref (ax 8), .ref (ax 9), .ref (ax 10), .ref (ax 11), .ref (ax 12), .int 0, .int (-1), .int 0]))]) [0] (by decide) rfl
  refine gq_callI (wr := [(qm, .inr (12, [.ref (am 0), .int 0, .int 0, .ref (am 1), .ref (am 2), .ref (am 3), .ref (am 4), .ref (am 5), .int 0, .int 0, .int 0, .int 0, .int 0, .int 0, .int 0, .ref (am 6), .int 0, .ref (am 7), .int 0, .ref (am 8), .ref (am 9), .int (-1), .int 0, .int 0, .int (-1), .int 0, .ref (am 10), .int 0, .ref (am 11), .ref (am 12), .ref (am 13), .ref (am 14), .long 0, .ref (am 15), .ref (am 16), .ref (am 17), .ref (am 18)]))]) (va_runV (As := [.int (xs (Int32.toNatClampNeg 1))]) (rest := []) ⟨hx, hb, hml, hown, ht⟩ (c_S_force l G H.size qx ax (xs (Int32.toNatClampNeg 1))) (cwV 1 ht (ts_gV wd_781 wd_782 wd_783 wd_122 wd_784) rfl rfl rfl (by decide +kernel) ⟨Nat.le_of_ble_eq_true rfl, Nat.le_of_ble_eq_true rfl⟩) (gc_preV (ci := 11) (q0 := 0) hK hPc hDc rfl rfl) rfl rfl hl.1 rfl (lv_room (Nat.le_of_ble_eq_true rfl)) dL_law_290 ⟨Nat.le_of_ble_eq_true rfl, Nat.le_of_ble_eq_true rfl⟩) hP hD hS hA [0] [1] rfl rfl (by decide) (by decide) (fun r u H locs hw hP hD hS => ?_)
  have hw : r = (if (xs (Int32.toNatClampNeg 1)) = -1 then -1 else -2) := hw
  subst hw
  have hP : va_P (gg_D G) classes [(qm, .inr (12, [.ref (am 0), .int 0, .int 0, .ref (am 1), .ref (am 2), .ref (am 3), .ref (am 4), .ref (am 5), .int 0, .int 0, .int 0, .int 0, .int 0, .int 0, .int 0, .ref (am 6), .int 0, .ref (am 7), .int 0, .ref (am 8), .ref (am 9), .int (-1), .int 0, .int 0, .int (-1), .int 0, .ref (am 10), .int 0, .ref (am 11), .ref (am 12), .ref (am 13), .ref (am 14), .long 0, .ref (am 15), .ref (am 16), .ref (am 17), .ref (am 18)]))] H := hP
  have hD : va_D A [(qm, .inr (12, [.ref (am 0), .int 0, .int 0, .ref (am 1), .ref (am 2), .ref (am 3), .ref (am 4), .ref (am 5), .int 0, .int 0, .int 0, .int 0, .int 0, .int 0, .int 0, .ref (am 6), .int 0, .ref (am 7), .int 0, .ref (am 8), .ref (am 9), .int (-1), .int 0, .int 0, .int (-1), .int 0, .ref (am 10), .int 0, .ref (am 11), .ref (am 12), .ref (am 13), .ref (am 14), .long 0, .ref (am 15), .ref (am 16), .ref (am 17), .ref (am 18)]))] := hD
  refine lv_aload_n hx hb dL_law_293 rfl (lv_at hl 1 rfl) ?_
  refine lv_aload_n hx hb dL_law_294 rfl (lv_at hl 3 rfl) ?_
  refine lv_iload_n hx hb dL_law_295 rfl (lv_at hl 0 rfl) ?_
  refine lv_iconst (v := 1) hx hb dL_law_296 (by decide) ?_
  refine gq_iadd hx hb 1 (by decide +kernel) dL_law_297 ?_
  refine va_sld hx hb hX_ hbl hbA hS (by unfold vp_in; decide +kernel) dL_law_298 ?_
  have hPc := hP.sub (ws' := [(qm, .inr (12, [.ref (am 0), .int 0, .int 0, .ref (am 1), .ref (am 2), .ref (am 3), .ref (am 4), .ref (am 5), .int 0, .int 0, .int 0, .int 0, .int 0, .int 0, .int 0, .ref (am 6), .int 0, .ref (am 7), .int 0, .ref (am 8), .ref (am 9), .int (-1), .int 0, .int 0, .int (-1), .int 0, .ref (am 10), .int 0, .ref (am 11), .ref (am 12), .ref (am 13), .ref (am 14), .long 0, .ref (am 15), .ref (am 16), .ref (am 17), .ref (am 18)]))]) [0] rfl
  have hDc := hD.sub (ws' := [(qm, .inr (12, [.ref (am 0), .int 0, .int 0, .ref (am 1), .ref (am 2), .ref (am 3), .ref (am 4), .ref (am 5), .int 0, .int 0, .int 0, .int 0, .int 0, .int 0, .int 0, .ref (am 6), .int 0, .ref (am 7), .int 0, .ref (am 8), .ref (am 9), .int (-1), .int 0, .int 0, .int (-1), .int 0, .ref (am 10), .int 0, .ref (am 11), .ref (am 12), .ref (am 13), .ref (am 14), .long 0, .ref (am 15), .ref (am 16), .ref (am 17), .ref (am 18)]))]) [0] (by decide) rfl
  refine gq_callI (wr := []) (va_runV (As := [.int (xs (Int32.toNatClampNeg 1))]) (rest := [.int (if (xs (Int32.toNatClampNeg 1)) = -1 then -1 else -2)]) ⟨hx, hb, hml, hown, ht⟩ (c_M_force l G H.size qm am (xs (Int32.toNatClampNeg 1))) (cwV 1 ht (ts_gV wd_1541 wd_1542 wd_1543 wd_134 wd_1544) rfl rfl rfl (by decide +kernel) ⟨Nat.le_of_ble_eq_true rfl, Nat.le_of_ble_eq_true rfl⟩) (gc_preV (ci := 12) (q0 := 0) hK hPc hDc rfl rfl) rfl rfl hl.1 rfl (lv_room (Nat.le_of_ble_eq_true rfl)) dL_law_299 ⟨Nat.le_of_ble_eq_true rfl, Nat.le_of_ble_eq_true rfl⟩) hP hD hS hA [0] [] rfl rfl (by decide) (by decide) (fun r u H locs hw hP hD hS => ?_)
  have hw : r = (if (xs (Int32.toNatClampNeg 1)) = -1 then -1 else -2) := hw
  subst hw
  have hP : va_P (gg_D G) classes [] H := hP
  have hD : va_D A [] := hD
  refine lv_icmp_eq (tgt := 1095) hx hb dL_law_302 (by decide) (fun _ => ?_) (fun c0 => absurd rfl c0)
  refine lv_iinc (v := 6) (lv' := [(3, .int 6), (2, .ref qm), (1, .ref qx), (0, .ref b)]) hx hb dL_law_1095 hl (k := 0) rfl (by decide +kernel) (by decide) rfl (fun ls hl => ?_)
  refine lv_goto (tgt := 18) hx hb dL_law_1098 (by decide) ?_
  refine lv_iload_n hx hb dL_law_18 rfl (lv_at hl 0 rfl) ?_
  refine lv_aload_n hx hb dL_law_19 rfl (lv_at hl 3 rfl) ?_
  refine va_slen hx hb hX_ hbl hbA hS dL_law_20 ?_
  refine W.eq (g2 := F0 m 21 ls [.int 6, .int 6]) rfl ?_
  refine lv_bipush (v := 6) hx hb dL_law_21 (by decide +kernel) ?_
  refine gq_isub hx hb 0 (by decide +kernel) dL_law_23 ?_
  refine lv_icmp_gt (tgt := 1101) hx hb dL_law_24 (by decide) (fun _ => ?_) (fun c0 => absurd (by decide +kernel) c0)
  refine lv_iconst (v := 1) hx hb dL_law_1101 (by decide) ?_
  refine va_forget (fun q hq => hA2 _ (hS.2.2 q hq)) ?_
  refine W.widen (k := 600000) (n := 7302249) (Nat.le_of_ble_eq_true rfl) (Nat.le_of_ble_eq_true rfl) ?_
  exact lw_ret hx hb hr hlocks dL_law_1102
set_option maxHeartbeats 4000000 in
set_option maxRecDepth 100000 in
theorem lw_c5 {p : Program} {l : Launch} {e : Env} {s : State} {m : MethodId} {below : List Frame} {meth : Method} {c : Code} {b : Nat} {xs : Nat → Int32} (C0 : lw_At p s m meth c b 6 xs) {G : gg_T} {K V : Nat → Nat} {A : Nat → Prop} (hA : ∀ q : Nat, s.heap.size ≤ q → A q) (hA2 : ∀ q : Nat, A q → s.heap.size ≤ q) (hK : gg_K G s) (hX : sx_G K V A s s.heap) {qx qm : Nat} {ax am : Nat → Nat} {fs fo : Nat → Int32} {fr fi : Nat → Option Nat} (pr0 : fr 0 = some (ax 37)) (pi0 : fi 0 = some (ax 43)) (pi1 : fi 1 = some (ax 64)) (pi2 : fi 2 = some (ax 85)) (pi3 : fi 3 = some (ax 106)) {H : Heap} {locs : List Loc} {ls : Array Slot} (hP : va_P (gg_D G) classes (lw_W G qx qm ax am fs fo fr fi) H) (hD : va_D A (lw_W G qx qm ax am fs fo fr fi)) (hS : va_S A s.heap H locs) (hl : lv_has ls 4 [(3, .int 0), (2, .ref qm), (1, .ref qx), (0, .ref b)]) : W p l e room_1 s m #[Value.ref b] below meth c H locs 430 10514 (lw_Z below #[Value.ref b] s) (F0 m 307 ls []) := by
  obtain ⟨hx, hb, hr, hml, hown, hts, hX_, hbl, hlocks, hgv⟩ := id C0
  have ht : ∀ w ∈ tb_L, w.before #[Value.ref b] s = true := fun w h => hts w (List.mem_filter.mp h).1
  have hbA : ¬ A b := fun h => Nat.not_le.mpr hbl (hA2 b h)
  have hP := hP.sub (ws' := [(qx, .inr (11, [.ref (ax 0), .ref (ax 1), .ref (ax 2), .ref (ax 3), .ref (ax 4), .ref (ax 5), .ref (ax 6), .ref (ax 7), .ref (ax 8), .ref (ax 9), .ref (ax 10), .ref (ax 11), .ref (ax 12), .int 0, .int (-1), .int 0])), ((ax 1), .inr (9, [.int 0, .int 0, .int 0, .int 0, .ref (ax 14), .ref (ax 15), .ref (ax 16), .ref (ax 17), .ref (ax 18)])), (qm, .inr (12, [.ref (am 0), .int 0, .int 0, .ref (am 1), .ref (am 2), .ref (am 3), .ref (am 4), .ref (am 5), .int 0, .int 0, .int 0, .int 0, .int 0, .int 0, .int 0, .ref (am 6), .int 0, .ref (am 7), .int 0, .ref (am 8), .ref (am 9), .int (-1), .int 0, .int 0, .int (-1), .int 0, .ref (am 10), .int 0, .ref (am 11), .ref (am 12), .ref (am 13), .ref (am 14), .long 0, .ref (am 15), .ref (am 16), .ref (am 17), .ref (am 18)])), ((am 9), .inl (G.2.2 0, 110, .inl (fun _ => 0)))]) [0, 3, 113, 118] rfl
  have hD := hD.sub (ws' := [(qx, .inr (11, [.ref (ax 0), .ref (ax 1), .ref (ax 2), .ref (ax 3), .ref (ax 4), .ref (ax 5), .ref (ax 6), .ref (ax 7), .ref (ax 8), .ref (ax 9), .ref (ax 10), .ref (ax 11), .ref (ax 12), .int 0, .int (-1), .int 0])), ((ax 1), .inr (9, [.int 0, .int 0, .int 0, .int 0, .ref (ax 14), .ref (ax 15), .ref (ax 16), .ref (ax 17), .ref (ax 18)])), (qm, .inr (12, [.ref (am 0), .int 0, .int 0, .ref (am 1), .ref (am 2), .ref (am 3), .ref (am 4), .ref (am 5), .int 0, .int 0, .int 0, .int 0, .int 0, .int 0, .int 0, .ref (am 6), .int 0, .ref (am 7), .int 0, .ref (am 8), .ref (am 9), .int (-1), .int 0, .int 0, .int (-1), .int 0, .ref (am 10), .int 0, .ref (am 11), .ref (am 12), .ref (am 13), .ref (am 14), .long 0, .ref (am 15), .ref (am 16), .ref (am 17), .ref (am 18)])), ((am 9), .inl (G.2.2 0, 110, .inl (fun _ => 0)))]) [0, 3, 113, 118] (by decide) rfl
  refine lv_aload_n hx hb dL_law_307 rfl (lv_at hl 2 rfl) ?_
  refine lv_aload_n hx hb dL_law_308 rfl (lv_at hl 3 rfl) ?_
  refine lv_iload_n hx hb dL_law_309 rfl (lv_at hl 0 rfl) ?_
  refine lv_iconst (v := 1) hx hb dL_law_310 (by decide) ?_
  refine gq_iadd hx hb 1 (by decide +kernel) dL_law_311 ?_
  refine va_sld hx hb hX_ hbl hbA hS (by unfold vp_in; decide +kernel) dL_law_312 ?_
  refine lv_aload_n hx hb dL_law_313 rfl (lv_at hl 3 rfl) ?_
  refine lv_iload_n hx hb dL_law_314 rfl (lv_at hl 0 rfl) ?_
  refine lv_iconst (v := 2) hx hb dL_law_315 (by decide) ?_
  refine gq_iadd hx hb 2 (by decide +kernel) dL_law_316 ?_
  refine va_sld hx hb hX_ hbl hbA hS (by unfold vp_in; decide +kernel) dL_law_317 ?_
  have hPc := hP.sub (ws' := [(qx, .inr (11, [.ref (ax 0), .ref (ax 1), .ref (ax 2), .ref (ax 3), .ref (ax 4), .ref (ax 5), .ref (ax 6), .ref (ax 7), .ref (ax 8), .ref (ax 9), .ref (ax 10), .ref (ax 11), .ref (ax 12), .int 0, .int (-1), .int 0])), ((ax 1), .inr (9, [.int 0, .int 0, .int 0, .int 0, .ref (ax 14), .ref (ax 15), .ref (ax 16), .ref (ax 17), .ref (ax 18)]))]) [0, 1] rfl
  have hDc := hD.sub (ws' := [(qx, .inr (11, [.ref (ax 0), .ref (ax 1), .ref (ax 2), .ref (ax 3), .ref (ax 4), .ref (ax 5), .ref (ax 6), .ref (ax 7), .ref (ax 8), .ref (ax 9), .ref (ax 10), .ref (ax 11), .ref (ax 12), .int 0, .int (-1), .int 0])), ((ax 1), .inr (9, [.int 0, .int 0, .int 0, .int 0, .ref (ax 14), .ref (ax 15), .ref (ax 16), .ref (ax 17), .ref (ax 18)]))]) [0, 1] (by decide) rfl
  refine gq_callI (wr := [(qm, .inr (12, [.ref (am 0), .int 0, .int 0, .ref (am 1), .ref (am 2), .ref (am 3), .ref (am 4), .ref (am 5), .int 0, .int 0, .int 0, .int 0, .int 0, .int 0, .int 0, .ref (am 6), .int 0, .ref (am 7), .int 0, .ref (am 8), .ref (am 9), .int (-1), .int 0, .int 0, .int (-1), .int 0, .ref (am 10), .int 0, .ref (am 11), .ref (am 12), .ref (am 13), .ref (am 14), .long 0, .ref (am 15), .ref (am 16), .ref (am 17), .ref (am 18)])), ((am 9), .inl (G.2.2 0, 110, .inl (fun _ => 0)))]) (va_runV (As := [.int (xs (Int32.toNatClampNeg 1)), .int (xs (Int32.toNatClampNeg 2))]) (rest := []) ⟨hx, hb, hml, hown, ht⟩ (c_S_bidder l G H.size qx ax (xs (Int32.toNatClampNeg 1)) (xs (Int32.toNatClampNeg 2))) (cwV 2 ht (ts_gV wd_785 wd_786 wd_787 wd_122 wd_788) rfl rfl rfl (by decide +kernel) ⟨Nat.le_of_ble_eq_true rfl, Nat.le_of_ble_eq_true rfl⟩) (gc_preV (ci := 11) (q0 := 0) hK hPc hDc rfl rfl) rfl rfl hl.1 rfl (lv_room (Nat.le_of_ble_eq_true rfl)) dL_law_318 ⟨Nat.le_of_ble_eq_true rfl, Nat.le_of_ble_eq_true rfl⟩) hP hD hS hA [0, 1] [2, 3] rfl rfl (by decide) (by decide) (fun r u H locs hw hP hD hS => ?_)
  have hw : r = (-1000) := hw
  subst hw
  have hP : va_P (gg_D G) classes [(qm, .inr (12, [.ref (am 0), .int 0, .int 0, .ref (am 1), .ref (am 2), .ref (am 3), .ref (am 4), .ref (am 5), .int 0, .int 0, .int 0, .int 0, .int 0, .int 0, .int 0, .ref (am 6), .int 0, .ref (am 7), .int 0, .ref (am 8), .ref (am 9), .int (-1), .int 0, .int 0, .int (-1), .int 0, .ref (am 10), .int 0, .ref (am 11), .ref (am 12), .ref (am 13), .ref (am 14), .long 0, .ref (am 15), .ref (am 16), .ref (am 17), .ref (am 18)])), ((am 9), .inl (G.2.2 0, 110, .inl (fun _ => 0)))] H := hP
  have hD : va_D A [(qm, .inr (12, [.ref (am 0), .int 0, .int 0, .ref (am 1), .ref (am 2), .ref (am 3), .ref (am 4), .ref (am 5), .int 0, .int 0, .int 0, .int 0, .int 0, .int 0, .int 0, .ref (am 6), .int 0, .ref (am 7), .int 0, .ref (am 8), .ref (am 9), .int (-1), .int 0, .int 0, .int (-1), .int 0, .ref (am 10), .int 0, .ref (am 11), .ref (am 12), .ref (am 13), .ref (am 14), .long 0, .ref (am 15), .ref (am 16), .ref (am 17), .ref (am 18)])), ((am 9), .inl (G.2.2 0, 110, .inl (fun _ => 0)))] := hD
  refine lv_aload_n hx hb dL_law_321 rfl (lv_at hl 1 rfl) ?_
  refine lv_aload_n hx hb dL_law_322 rfl (lv_at hl 3 rfl) ?_
  refine lv_iload_n hx hb dL_law_323 rfl (lv_at hl 0 rfl) ?_
  refine lv_iconst (v := 1) hx hb dL_law_324 (by decide) ?_
  refine gq_iadd hx hb 1 (by decide +kernel) dL_law_325 ?_
  refine va_sld hx hb hX_ hbl hbA hS (by unfold vp_in; decide +kernel) dL_law_326 ?_
  refine lv_aload_n hx hb dL_law_327 rfl (lv_at hl 3 rfl) ?_
  refine lv_iload_n hx hb dL_law_328 rfl (lv_at hl 0 rfl) ?_
  refine lv_iconst (v := 2) hx hb dL_law_329 (by decide) ?_
  refine gq_iadd hx hb 2 (by decide +kernel) dL_law_330 ?_
  refine va_sld hx hb hX_ hbl hbA hS (by unfold vp_in; decide +kernel) dL_law_331 ?_
  have hPc := hP.sub (ws' := [(qm, .inr (12, [.ref (am 0), .int 0, .int 0, .ref (am 1), .ref (am 2), .ref (am 3), .ref (am 4), .ref (am 5), .int 0, .int 0, .int 0, .int 0, .int 0, .int 0, .int 0, .ref (am 6), .int 0, .ref (am 7), .int 0, .ref (am 8), .ref (am 9), .int (-1), .int 0, .int 0, .int (-1), .int 0, .ref (am 10), .int 0, .ref (am 11), .ref (am 12), .ref (am 13), .ref (am 14), .long 0, .ref (am 15), .ref (am 16), .ref (am 17), .ref (am 18)])), ((am 9), .inl (G.2.2 0, 110, .inl (fun _ => 0)))]) [0, 1] rfl
  have hDc := hD.sub (ws' := [(qm, .inr (12, [.ref (am 0), .int 0, .int 0, .ref (am 1), .ref (am 2), .ref (am 3), .ref (am 4), .ref (am 5), .int 0, .int 0, .int 0, .int 0, .int 0, .int 0, .int 0, .ref (am 6), .int 0, .ref (am 7), .int 0, .ref (am 8), .ref (am 9), .int (-1), .int 0, .int 0, .int (-1), .int 0, .ref (am 10), .int 0, .ref (am 11), .ref (am 12), .ref (am 13), .ref (am 14), .long 0, .ref (am 15), .ref (am 16), .ref (am 17), .ref (am 18)])), ((am 9), .inl (G.2.2 0, 110, .inl (fun _ => 0)))]) [0, 1] (by decide) rfl
  refine gq_callI (wr := []) (va_runV (As := [.int (xs (Int32.toNatClampNeg 1)), .int (xs (Int32.toNatClampNeg 2))]) (rest := [.int (-1000)]) ⟨hx, hb, hml, hown, ht⟩ (c_M_bidder l G H.size qm am (xs (Int32.toNatClampNeg 1)) (xs (Int32.toNatClampNeg 2))) (cwV 2 ht (ts_gV wd_1549 wd_1550 wd_1551 wd_134 wd_1552) rfl rfl rfl (by decide +kernel) ⟨Nat.le_of_ble_eq_true rfl, Nat.le_of_ble_eq_true rfl⟩) (gc_preV (ci := 12) (q0 := 0) hK hPc hDc rfl rfl) rfl rfl hl.1 rfl (lv_room (Nat.le_of_ble_eq_true rfl)) dL_law_332 ⟨Nat.le_of_ble_eq_true rfl, Nat.le_of_ble_eq_true rfl⟩) hP hD hS hA [0, 1] [] rfl rfl (by decide) (by decide) (fun r u H locs hw hP hD hS => ?_)
  have hw : r = (-1000) := hw
  subst hw
  have hP : va_P (gg_D G) classes [] H := hP
  have hD : va_D A [] := hD
  refine lv_icmp_eq (tgt := 1095) hx hb dL_law_335 (by decide) (fun _ => ?_) (fun c0 => absurd (by decide +kernel) c0)
  refine lv_iinc (v := 6) (lv' := [(3, .int 6), (2, .ref qm), (1, .ref qx), (0, .ref b)]) hx hb dL_law_1095 hl (k := 0) rfl (by decide +kernel) (by decide) rfl (fun ls hl => ?_)
  refine lv_goto (tgt := 18) hx hb dL_law_1098 (by decide) ?_
  refine lv_iload_n hx hb dL_law_18 rfl (lv_at hl 0 rfl) ?_
  refine lv_aload_n hx hb dL_law_19 rfl (lv_at hl 3 rfl) ?_
  refine va_slen hx hb hX_ hbl hbA hS dL_law_20 ?_
  refine W.eq (g2 := F0 m 21 ls [.int 6, .int 6]) rfl ?_
  refine lv_bipush (v := 6) hx hb dL_law_21 (by decide +kernel) ?_
  refine gq_isub hx hb 0 (by decide +kernel) dL_law_23 ?_
  refine lv_icmp_gt (tgt := 1101) hx hb dL_law_24 (by decide) (fun _ => ?_) (fun c0 => absurd (by decide +kernel) c0)
  refine lv_iconst (v := 1) hx hb dL_law_1101 (by decide) ?_
  refine va_forget (fun q hq => hA2 _ (hS.2.2 q hq)) ?_
  refine W.widen (k := 600000) (n := 7302249) (Nat.le_of_ble_eq_true rfl) (Nat.le_of_ble_eq_true rfl) ?_
  exact lw_ret hx hb hr hlocks dL_law_1102
set_option maxHeartbeats 4000000 in
set_option maxRecDepth 100000 in
theorem lw_c6 {p : Program} {l : Launch} {e : Env} {s : State} {m : MethodId} {below : List Frame} {meth : Method} {c : Code} {b : Nat} {xs : Nat → Int32} (C0 : lw_At p s m meth c b 6 xs) {G : gg_T} {K V : Nat → Nat} {A : Nat → Prop} (hA : ∀ q : Nat, s.heap.size ≤ q → A q) (hA2 : ∀ q : Nat, A q → s.heap.size ≤ q) (hK : gg_K G s) (hX : sx_G K V A s s.heap) {qx qm : Nat} {ax am : Nat → Nat} {fs fo : Nat → Int32} {fr fi : Nat → Option Nat} (pr0 : fr 0 = some (ax 37)) (pi0 : fi 0 = some (ax 43)) (pi1 : fi 1 = some (ax 64)) (pi2 : fi 2 = some (ax 85)) (pi3 : fi 3 = some (ax 106)) {H : Heap} {locs : List Loc} {ls : Array Slot} (hP : va_P (gg_D G) classes (lw_W G qx qm ax am fs fo fr fi) H) (hD : va_D A (lw_W G qx qm ax am fs fo fr fi)) (hS : va_S A s.heap H locs) (hl : lv_has ls 4 [(3, .int 0), (2, .ref qm), (1, .ref qx), (0, .ref b)]) : W p l e room_1 s m #[Value.ref b] below meth c H locs 430 10514 (lw_Z below #[Value.ref b] s) (F0 m 340 ls []) := by
  obtain ⟨hx, hb, hr, hml, hown, hts, hX_, hbl, hlocks, hgv⟩ := id C0
  have ht : ∀ w ∈ tb_L, w.before #[Value.ref b] s = true := fun w h => hts w (List.mem_filter.mp h).1
  have hbA : ¬ A b := fun h => Nat.not_le.mpr hbl (hA2 b h)
  have hP := hP.sub (ws' := [(qx, .inr (11, [.ref (ax 0), .ref (ax 1), .ref (ax 2), .ref (ax 3), .ref (ax 4), .ref (ax 5), .ref (ax 6), .ref (ax 7), .ref (ax 8), .ref (ax 9), .ref (ax 10), .ref (ax 11), .ref (ax 12), .int 0, .int (-1), .int 0])), ((ax 1), .inr (9, [.int 0, .int 0, .int 0, .int 0, .ref (ax 14), .ref (ax 15), .ref (ax 16), .ref (ax 17), .ref (ax 18)])), (qm, .inr (12, [.ref (am 0), .int 0, .int 0, .ref (am 1), .ref (am 2), .ref (am 3), .ref (am 4), .ref (am 5), .int 0, .int 0, .int 0, .int 0, .int 0, .int 0, .int 0, .ref (am 6), .int 0, .ref (am 7), .int 0, .ref (am 8), .ref (am 9), .int (-1), .int 0, .int 0, .int (-1), .int 0, .ref (am 10), .int 0, .ref (am 11), .ref (am 12), .ref (am 13), .ref (am 14), .long 0, .ref (am 15), .ref (am 16), .ref (am 17), .ref (am 18)])), ((am 9), .inl (G.2.2 0, 110, .inl (fun _ => 0)))]) [0, 3, 113, 118] rfl
  have hD := hD.sub (ws' := [(qx, .inr (11, [.ref (ax 0), .ref (ax 1), .ref (ax 2), .ref (ax 3), .ref (ax 4), .ref (ax 5), .ref (ax 6), .ref (ax 7), .ref (ax 8), .ref (ax 9), .ref (ax 10), .ref (ax 11), .ref (ax 12), .int 0, .int (-1), .int 0])), ((ax 1), .inr (9, [.int 0, .int 0, .int 0, .int 0, .ref (ax 14), .ref (ax 15), .ref (ax 16), .ref (ax 17), .ref (ax 18)])), (qm, .inr (12, [.ref (am 0), .int 0, .int 0, .ref (am 1), .ref (am 2), .ref (am 3), .ref (am 4), .ref (am 5), .int 0, .int 0, .int 0, .int 0, .int 0, .int 0, .int 0, .ref (am 6), .int 0, .ref (am 7), .int 0, .ref (am 8), .ref (am 9), .int (-1), .int 0, .int 0, .int (-1), .int 0, .ref (am 10), .int 0, .ref (am 11), .ref (am 12), .ref (am 13), .ref (am 14), .long 0, .ref (am 15), .ref (am 16), .ref (am 17), .ref (am 18)])), ((am 9), .inl (G.2.2 0, 110, .inl (fun _ => 0)))]) [0, 3, 113, 118] (by decide) rfl
  refine lv_aload_n hx hb dL_law_340 rfl (lv_at hl 2 rfl) ?_
  refine lv_aload_n hx hb dL_law_341 rfl (lv_at hl 3 rfl) ?_
  refine lv_iload_n hx hb dL_law_342 rfl (lv_at hl 0 rfl) ?_
  refine lv_iconst (v := 1) hx hb dL_law_343 (by decide) ?_
  refine gq_iadd hx hb 1 (by decide +kernel) dL_law_344 ?_
  refine va_sld hx hb hX_ hbl hbA hS (by unfold vp_in; decide +kernel) dL_law_345 ?_
  refine lv_aload_n hx hb dL_law_346 rfl (lv_at hl 3 rfl) ?_
  refine lv_iload_n hx hb dL_law_347 rfl (lv_at hl 0 rfl) ?_
  refine lv_iconst (v := 2) hx hb dL_law_348 (by decide) ?_
  refine gq_iadd hx hb 2 (by decide +kernel) dL_law_349 ?_
  refine va_sld hx hb hX_ hbl hbA hS (by unfold vp_in; decide +kernel) dL_law_350 ?_
  have hPc := hP.sub (ws' := [(qx, .inr (11, [.ref (ax 0), .ref (ax 1), .ref (ax 2), .ref (ax 3), .ref (ax 4), .ref (ax 5), .ref (ax 6), .ref (ax 7), .ref (ax 8), .ref (ax 9), .ref (ax 10), .ref (ax 11), .ref (ax 12), .int 0, .int (-1), .int 0])), ((ax 1), .inr (9, [.int 0, .int 0, .int 0, .int 0, .ref (ax 14), .ref (ax 15), .ref (ax 16), .ref (ax 17), .ref (ax 18)]))]) [0, 1] rfl
  have hDc := hD.sub (ws' := [(qx, .inr (11, [.ref (ax 0), .ref (ax 1), .ref (ax 2), .ref (ax 3), .ref (ax 4), .ref (ax 5), .ref (ax 6), .ref (ax 7), .ref (ax 8), .ref (ax 9), .ref (ax 10), .ref (ax 11), .ref (ax 12), .int 0, .int (-1), .int 0])), ((ax 1), .inr (9, [.int 0, .int 0, .int 0, .int 0, .ref (ax 14), .ref (ax 15), .ref (ax 16), .ref (ax 17), .ref (ax 18)]))]) [0, 1] (by decide) rfl
  refine gq_callI (wr := [(qm, .inr (12, [.ref (am 0), .int 0, .int 0, .ref (am 1), .ref (am 2), .ref (am 3), .ref (am 4), .ref (am 5), .int 0, .int 0, .int 0, .int 0, .int 0, .int 0, .int 0, .ref (am 6), .int 0, .ref (am 7), .int 0, .ref (am 8), .ref (am 9), .int (-1), .int 0, .int 0, .int (-1), .int 0, .ref (am 10), .int 0, .ref (am 11), .ref (am 12), .ref (am 13), .ref (am 14), .long 0, .ref (am 15), .ref (am 16), .ref (am 17), .ref (am 18)])), ((am 9), .inl (G.2.2 0, 110, .inl (fun _ => 0)))]) (va_runV (As := [.int (xs (Int32.toNatClampNeg 1)), .int (xs (Int32.toNatClampNeg 2))]) (rest := []) ⟨hx, hb, hml, hown, ht⟩ (c_S_lot l G H.size qx ax (xs (Int32.toNatClampNeg 1)) (xs (Int32.toNatClampNeg 2))) (cwV 2 ht (ts_gV wd_816 wd_817 wd_818 wd_122 wd_819) rfl rfl rfl (by decide +kernel) ⟨Nat.le_of_ble_eq_true rfl, Nat.le_of_ble_eq_true rfl⟩) (gc_preV (ci := 11) (q0 := 0) hK hPc hDc rfl rfl) rfl rfl hl.1 rfl (lv_room (Nat.le_of_ble_eq_true rfl)) dL_law_351 ⟨Nat.le_of_ble_eq_true rfl, Nat.le_of_ble_eq_true rfl⟩) hP hD hS hA [0, 1] [2, 3] rfl rfl (by decide) (by decide) (fun r u H locs hw hP hD hS => ?_)
  have hw : r = (-2) := hw
  subst hw
  have hP : va_P (gg_D G) classes [(qm, .inr (12, [.ref (am 0), .int 0, .int 0, .ref (am 1), .ref (am 2), .ref (am 3), .ref (am 4), .ref (am 5), .int 0, .int 0, .int 0, .int 0, .int 0, .int 0, .int 0, .ref (am 6), .int 0, .ref (am 7), .int 0, .ref (am 8), .ref (am 9), .int (-1), .int 0, .int 0, .int (-1), .int 0, .ref (am 10), .int 0, .ref (am 11), .ref (am 12), .ref (am 13), .ref (am 14), .long 0, .ref (am 15), .ref (am 16), .ref (am 17), .ref (am 18)])), ((am 9), .inl (G.2.2 0, 110, .inl (fun _ => 0)))] H := hP
  have hD : va_D A [(qm, .inr (12, [.ref (am 0), .int 0, .int 0, .ref (am 1), .ref (am 2), .ref (am 3), .ref (am 4), .ref (am 5), .int 0, .int 0, .int 0, .int 0, .int 0, .int 0, .int 0, .ref (am 6), .int 0, .ref (am 7), .int 0, .ref (am 8), .ref (am 9), .int (-1), .int 0, .int 0, .int (-1), .int 0, .ref (am 10), .int 0, .ref (am 11), .ref (am 12), .ref (am 13), .ref (am 14), .long 0, .ref (am 15), .ref (am 16), .ref (am 17), .ref (am 18)])), ((am 9), .inl (G.2.2 0, 110, .inl (fun _ => 0)))] := hD
  refine lv_aload_n hx hb dL_law_354 rfl (lv_at hl 1 rfl) ?_
  refine lv_aload_n hx hb dL_law_355 rfl (lv_at hl 3 rfl) ?_
  refine lv_iload_n hx hb dL_law_356 rfl (lv_at hl 0 rfl) ?_
  refine lv_iconst (v := 1) hx hb dL_law_357 (by decide) ?_
  refine gq_iadd hx hb 1 (by decide +kernel) dL_law_358 ?_
  refine va_sld hx hb hX_ hbl hbA hS (by unfold vp_in; decide +kernel) dL_law_359 ?_
  refine lv_aload_n hx hb dL_law_360 rfl (lv_at hl 3 rfl) ?_
  refine lv_iload_n hx hb dL_law_361 rfl (lv_at hl 0 rfl) ?_
  refine lv_iconst (v := 2) hx hb dL_law_362 (by decide) ?_
  refine gq_iadd hx hb 2 (by decide +kernel) dL_law_363 ?_
  refine va_sld hx hb hX_ hbl hbA hS (by unfold vp_in; decide +kernel) dL_law_364 ?_
  have hPc := hP.sub (ws' := [(qm, .inr (12, [.ref (am 0), .int 0, .int 0, .ref (am 1), .ref (am 2), .ref (am 3), .ref (am 4), .ref (am 5), .int 0, .int 0, .int 0, .int 0, .int 0, .int 0, .int 0, .ref (am 6), .int 0, .ref (am 7), .int 0, .ref (am 8), .ref (am 9), .int (-1), .int 0, .int 0, .int (-1), .int 0, .ref (am 10), .int 0, .ref (am 11), .ref (am 12), .ref (am 13), .ref (am 14), .long 0, .ref (am 15), .ref (am 16), .ref (am 17), .ref (am 18)])), ((am 9), .inl (G.2.2 0, 110, .inl (fun _ => 0)))]) [0, 1] rfl
  have hDc := hD.sub (ws' := [(qm, .inr (12, [.ref (am 0), .int 0, .int 0, .ref (am 1), .ref (am 2), .ref (am 3), .ref (am 4), .ref (am 5), .int 0, .int 0, .int 0, .int 0, .int 0, .int 0, .int 0, .ref (am 6), .int 0, .ref (am 7), .int 0, .ref (am 8), .ref (am 9), .int (-1), .int 0, .int 0, .int (-1), .int 0, .ref (am 10), .int 0, .ref (am 11), .ref (am 12), .ref (am 13), .ref (am 14), .long 0, .ref (am 15), .ref (am 16), .ref (am 17), .ref (am 18)])), ((am 9), .inl (G.2.2 0, 110, .inl (fun _ => 0)))]) [0, 1] (by decide) rfl
  refine gq_callI (wr := []) (va_runV (As := [.int (xs (Int32.toNatClampNeg 1)), .int (xs (Int32.toNatClampNeg 2))]) (rest := [.int (-2)]) ⟨hx, hb, hml, hown, ht⟩ (c_M_lot l G H.size qm am (xs (Int32.toNatClampNeg 1)) (xs (Int32.toNatClampNeg 2))) (cwV 2 ht (ts_gV wd_1578 wd_1579 wd_1580 wd_134 wd_1581) rfl rfl rfl (by decide +kernel) ⟨Nat.le_of_ble_eq_true rfl, Nat.le_of_ble_eq_true rfl⟩) (gc_preV (ci := 12) (q0 := 0) hK hPc hDc rfl rfl) rfl rfl hl.1 rfl (lv_room (Nat.le_of_ble_eq_true rfl)) dL_law_365 ⟨Nat.le_of_ble_eq_true rfl, Nat.le_of_ble_eq_true rfl⟩) hP hD hS hA [0, 1] [] rfl rfl (by decide) (by decide) (fun r u H locs hw hP hD hS => ?_)
  have hw : r = (-2) := hw
  subst hw
  have hP : va_P (gg_D G) classes [] H := hP
  have hD : va_D A [] := hD
  refine lv_icmp_eq (tgt := 1095) hx hb dL_law_368 (by decide) (fun _ => ?_) (fun c0 => absurd (by decide +kernel) c0)
  refine lv_iinc (v := 6) (lv' := [(3, .int 6), (2, .ref qm), (1, .ref qx), (0, .ref b)]) hx hb dL_law_1095 hl (k := 0) rfl (by decide +kernel) (by decide) rfl (fun ls hl => ?_)
  refine lv_goto (tgt := 18) hx hb dL_law_1098 (by decide) ?_
  refine lv_iload_n hx hb dL_law_18 rfl (lv_at hl 0 rfl) ?_
  refine lv_aload_n hx hb dL_law_19 rfl (lv_at hl 3 rfl) ?_
  refine va_slen hx hb hX_ hbl hbA hS dL_law_20 ?_
  refine W.eq (g2 := F0 m 21 ls [.int 6, .int 6]) rfl ?_
  refine lv_bipush (v := 6) hx hb dL_law_21 (by decide +kernel) ?_
  refine gq_isub hx hb 0 (by decide +kernel) dL_law_23 ?_
  refine lv_icmp_gt (tgt := 1101) hx hb dL_law_24 (by decide) (fun _ => ?_) (fun c0 => absurd (by decide +kernel) c0)
  refine lv_iconst (v := 1) hx hb dL_law_1101 (by decide) ?_
  refine va_forget (fun q hq => hA2 _ (hS.2.2 q hq)) ?_
  refine W.widen (k := 600000) (n := 7302249) (Nat.le_of_ble_eq_true rfl) (Nat.le_of_ble_eq_true rfl) ?_
  exact lw_ret hx hb hr hlocks dL_law_1102
set_option maxHeartbeats 4000000 in
set_option maxRecDepth 100000 in
theorem lw_c7 {p : Program} {l : Launch} {e : Env} {s : State} {m : MethodId} {below : List Frame} {meth : Method} {c : Code} {b : Nat} {xs : Nat → Int32} (C0 : lw_At p s m meth c b 6 xs) {G : gg_T} {K V : Nat → Nat} {A : Nat → Prop} (hA : ∀ q : Nat, s.heap.size ≤ q → A q) (hA2 : ∀ q : Nat, A q → s.heap.size ≤ q) (hK : gg_K G s) (hX : sx_G K V A s s.heap) {qx qm : Nat} {ax am : Nat → Nat} {fs fo : Nat → Int32} {fr fi : Nat → Option Nat} (pr0 : fr 0 = some (ax 37)) (pi0 : fi 0 = some (ax 43)) (pi1 : fi 1 = some (ax 64)) (pi2 : fi 2 = some (ax 85)) (pi3 : fi 3 = some (ax 106)) {H : Heap} {locs : List Loc} {ls : Array Slot} (hP : va_P (gg_D G) classes (lw_W G qx qm ax am fs fo fr fi) H) (hD : va_D A (lw_W G qx qm ax am fs fo fr fi)) (hS : va_S A s.heap H locs) (hl : lv_has ls 4 [(3, .int 0), (2, .ref qm), (1, .ref qx), (0, .ref b)]) : W p l e room_1 s m #[Value.ref b] below meth c H locs 430 10514 (lw_Z below #[Value.ref b] s) (F0 m 373 ls []) := by
  obtain ⟨hx, hb, hr, hml, hown, hts, hX_, hbl, hlocks, hgv⟩ := id C0
  have ht : ∀ w ∈ tb_L, w.before #[Value.ref b] s = true := fun w h => hts w (List.mem_filter.mp h).1
  have hbA : ¬ A b := fun h => Nat.not_le.mpr hbl (hA2 b h)
  have hP := hP.sub (ws' := [(qx, .inr (11, [.ref (ax 0), .ref (ax 1), .ref (ax 2), .ref (ax 3), .ref (ax 4), .ref (ax 5), .ref (ax 6), .ref (ax 7), .ref (ax 8), .ref (ax 9), .ref (ax 10), .ref (ax 11), .ref (ax 12), .int 0, .int (-1), .int 0])), ((ax 1), .inr (9, [.int 0, .int 0, .int 0, .int 0, .ref (ax 14), .ref (ax 15), .ref (ax 16), .ref (ax 17), .ref (ax 18)])), (qm, .inr (12, [.ref (am 0), .int 0, .int 0, .ref (am 1), .ref (am 2), .ref (am 3), .ref (am 4), .ref (am 5), .int 0, .int 0, .int 0, .int 0, .int 0, .int 0, .int 0, .ref (am 6), .int 0, .ref (am 7), .int 0, .ref (am 8), .ref (am 9), .int (-1), .int 0, .int 0, .int (-1), .int 0, .ref (am 10), .int 0, .ref (am 11), .ref (am 12), .ref (am 13), .ref (am 14), .long 0, .ref (am 15), .ref (am 16), .ref (am 17), .ref (am 18)])), ((am 9), .inl (G.2.2 0, 110, .inl (fun _ => 0)))]) [0, 3, 113, 118] rfl
  have hD := hD.sub (ws' := [(qx, .inr (11, [.ref (ax 0), .ref (ax 1), .ref (ax 2), .ref (ax 3), .ref (ax 4), .ref (ax 5), .ref (ax 6), .ref (ax 7), .ref (ax 8), .ref (ax 9), .ref (ax 10), .ref (ax 11), .ref (ax 12), .int 0, .int (-1), .int 0])), ((ax 1), .inr (9, [.int 0, .int 0, .int 0, .int 0, .ref (ax 14), .ref (ax 15), .ref (ax 16), .ref (ax 17), .ref (ax 18)])), (qm, .inr (12, [.ref (am 0), .int 0, .int 0, .ref (am 1), .ref (am 2), .ref (am 3), .ref (am 4), .ref (am 5), .int 0, .int 0, .int 0, .int 0, .int 0, .int 0, .int 0, .ref (am 6), .int 0, .ref (am 7), .int 0, .ref (am 8), .ref (am 9), .int (-1), .int 0, .int 0, .int (-1), .int 0, .ref (am 10), .int 0, .ref (am 11), .ref (am 12), .ref (am 13), .ref (am 14), .long 0, .ref (am 15), .ref (am 16), .ref (am 17), .ref (am 18)])), ((am 9), .inl (G.2.2 0, 110, .inl (fun _ => 0)))]) [0, 3, 113, 118] (by decide) rfl
  refine lv_aload_n hx hb dL_law_373 rfl (lv_at hl 2 rfl) ?_
  refine lv_aload_n hx hb dL_law_374 rfl (lv_at hl 3 rfl) ?_
  refine lv_iload_n hx hb dL_law_375 rfl (lv_at hl 0 rfl) ?_
  refine lv_iconst (v := 1) hx hb dL_law_376 (by decide) ?_
  refine gq_iadd hx hb 1 (by decide +kernel) dL_law_377 ?_
  refine va_sld hx hb hX_ hbl hbA hS (by unfold vp_in; decide +kernel) dL_law_378 ?_
  refine lv_aload_n hx hb dL_law_379 rfl (lv_at hl 3 rfl) ?_
  refine lv_iload_n hx hb dL_law_380 rfl (lv_at hl 0 rfl) ?_
  refine lv_iconst (v := 2) hx hb dL_law_381 (by decide) ?_
  refine gq_iadd hx hb 2 (by decide +kernel) dL_law_382 ?_
  refine va_sld hx hb hX_ hbl hbA hS (by unfold vp_in; decide +kernel) dL_law_383 ?_
  have hPc := hP.sub (ws' := [(qx, .inr (11, [.ref (ax 0), .ref (ax 1), .ref (ax 2), .ref (ax 3), .ref (ax 4), .ref (ax 5), .ref (ax 6), .ref (ax 7), .ref (ax 8), .ref (ax 9), .ref (ax 10), .ref (ax 11), .ref (ax 12), .int 0, .int (-1), .int 0])), ((ax 1), .inr (9, [.int 0, .int 0, .int 0, .int 0, .ref (ax 14), .ref (ax 15), .ref (ax 16), .ref (ax 17), .ref (ax 18)]))]) [0, 1] rfl
  have hDc := hD.sub (ws' := [(qx, .inr (11, [.ref (ax 0), .ref (ax 1), .ref (ax 2), .ref (ax 3), .ref (ax 4), .ref (ax 5), .ref (ax 6), .ref (ax 7), .ref (ax 8), .ref (ax 9), .ref (ax 10), .ref (ax 11), .ref (ax 12), .int 0, .int (-1), .int 0])), ((ax 1), .inr (9, [.int 0, .int 0, .int 0, .int 0, .ref (ax 14), .ref (ax 15), .ref (ax 16), .ref (ax 17), .ref (ax 18)]))]) [0, 1] (by decide) rfl
  refine gq_callI (wr := [(qm, .inr (12, [.ref (am 0), .int 0, .int 0, .ref (am 1), .ref (am 2), .ref (am 3), .ref (am 4), .ref (am 5), .int 0, .int 0, .int 0, .int 0, .int 0, .int 0, .int 0, .ref (am 6), .int 0, .ref (am 7), .int 0, .ref (am 8), .ref (am 9), .int (-1), .int 0, .int 0, .int (-1), .int 0, .ref (am 10), .int 0, .ref (am 11), .ref (am 12), .ref (am 13), .ref (am 14), .long 0, .ref (am 15), .ref (am 16), .ref (am 17), .ref (am 18)])), ((am 9), .inl (G.2.2 0, 110, .inl (fun _ => 0)))]) (va_runV (As := [.int (xs (Int32.toNatClampNeg 1)), .int (xs (Int32.toNatClampNeg 2))]) (rest := []) ⟨hx, hb, hml, hown, ht⟩ (c_S_worth l G H.size qx ax (xs (Int32.toNatClampNeg 1)) (xs (Int32.toNatClampNeg 2))) (cwV 2 ht (ts_gV wd_828 wd_829 wd_830 wd_122 wd_831) rfl rfl rfl (by decide +kernel) ⟨Nat.le_of_ble_eq_true rfl, Nat.le_of_ble_eq_true rfl⟩) (gc_preV (ci := 11) (q0 := 0) hK hPc hDc rfl rfl) rfl rfl hl.1 rfl (lv_room (Nat.le_of_ble_eq_true rfl)) dL_law_384 ⟨Nat.le_of_ble_eq_true rfl, Nat.le_of_ble_eq_true rfl⟩) hP hD hS hA [0, 1] [2, 3] rfl rfl (by decide) (by decide) (fun r u H locs hw hP hD hS => ?_)
  have hw : r = (-1) := hw
  subst hw
  have hP : va_P (gg_D G) classes [(qm, .inr (12, [.ref (am 0), .int 0, .int 0, .ref (am 1), .ref (am 2), .ref (am 3), .ref (am 4), .ref (am 5), .int 0, .int 0, .int 0, .int 0, .int 0, .int 0, .int 0, .ref (am 6), .int 0, .ref (am 7), .int 0, .ref (am 8), .ref (am 9), .int (-1), .int 0, .int 0, .int (-1), .int 0, .ref (am 10), .int 0, .ref (am 11), .ref (am 12), .ref (am 13), .ref (am 14), .long 0, .ref (am 15), .ref (am 16), .ref (am 17), .ref (am 18)])), ((am 9), .inl (G.2.2 0, 110, .inl (fun _ => 0)))] H := hP
  have hD : va_D A [(qm, .inr (12, [.ref (am 0), .int 0, .int 0, .ref (am 1), .ref (am 2), .ref (am 3), .ref (am 4), .ref (am 5), .int 0, .int 0, .int 0, .int 0, .int 0, .int 0, .int 0, .ref (am 6), .int 0, .ref (am 7), .int 0, .ref (am 8), .ref (am 9), .int (-1), .int 0, .int 0, .int (-1), .int 0, .ref (am 10), .int 0, .ref (am 11), .ref (am 12), .ref (am 13), .ref (am 14), .long 0, .ref (am 15), .ref (am 16), .ref (am 17), .ref (am 18)])), ((am 9), .inl (G.2.2 0, 110, .inl (fun _ => 0)))] := hD
  refine lv_aload_n hx hb dL_law_387 rfl (lv_at hl 1 rfl) ?_
  refine lv_aload_n hx hb dL_law_388 rfl (lv_at hl 3 rfl) ?_
  refine lv_iload_n hx hb dL_law_389 rfl (lv_at hl 0 rfl) ?_
  refine lv_iconst (v := 1) hx hb dL_law_390 (by decide) ?_
  refine gq_iadd hx hb 1 (by decide +kernel) dL_law_391 ?_
  refine va_sld hx hb hX_ hbl hbA hS (by unfold vp_in; decide +kernel) dL_law_392 ?_
  refine lv_aload_n hx hb dL_law_393 rfl (lv_at hl 3 rfl) ?_
  refine lv_iload_n hx hb dL_law_394 rfl (lv_at hl 0 rfl) ?_
  refine lv_iconst (v := 2) hx hb dL_law_395 (by decide) ?_
  refine gq_iadd hx hb 2 (by decide +kernel) dL_law_396 ?_
  refine va_sld hx hb hX_ hbl hbA hS (by unfold vp_in; decide +kernel) dL_law_397 ?_
  have hPc := hP.sub (ws' := [(qm, .inr (12, [.ref (am 0), .int 0, .int 0, .ref (am 1), .ref (am 2), .ref (am 3), .ref (am 4), .ref (am 5), .int 0, .int 0, .int 0, .int 0, .int 0, .int 0, .int 0, .ref (am 6), .int 0, .ref (am 7), .int 0, .ref (am 8), .ref (am 9), .int (-1), .int 0, .int 0, .int (-1), .int 0, .ref (am 10), .int 0, .ref (am 11), .ref (am 12), .ref (am 13), .ref (am 14), .long 0, .ref (am 15), .ref (am 16), .ref (am 17), .ref (am 18)])), ((am 9), .inl (G.2.2 0, 110, .inl (fun _ => 0)))]) [0, 1] rfl
  have hDc := hD.sub (ws' := [(qm, .inr (12, [.ref (am 0), .int 0, .int 0, .ref (am 1), .ref (am 2), .ref (am 3), .ref (am 4), .ref (am 5), .int 0, .int 0, .int 0, .int 0, .int 0, .int 0, .int 0, .ref (am 6), .int 0, .ref (am 7), .int 0, .ref (am 8), .ref (am 9), .int (-1), .int 0, .int 0, .int (-1), .int 0, .ref (am 10), .int 0, .ref (am 11), .ref (am 12), .ref (am 13), .ref (am 14), .long 0, .ref (am 15), .ref (am 16), .ref (am 17), .ref (am 18)])), ((am 9), .inl (G.2.2 0, 110, .inl (fun _ => 0)))]) [0, 1] (by decide) rfl
  refine gq_callI (wr := []) (va_runV (As := [.int (xs (Int32.toNatClampNeg 1)), .int (xs (Int32.toNatClampNeg 2))]) (rest := [.int (-1)]) ⟨hx, hb, hml, hown, ht⟩ (c_M_worth l G H.size qm am (xs (Int32.toNatClampNeg 1)) (xs (Int32.toNatClampNeg 2))) (cwV 2 ht (ts_gV wd_1599 wd_1600 wd_1601 wd_134 wd_1602) rfl rfl rfl (by decide +kernel) ⟨Nat.le_of_ble_eq_true rfl, Nat.le_of_ble_eq_true rfl⟩) (gc_preV (ci := 12) (q0 := 0) hK hPc hDc rfl rfl) rfl rfl hl.1 rfl (lv_room (Nat.le_of_ble_eq_true rfl)) dL_law_398 ⟨Nat.le_of_ble_eq_true rfl, Nat.le_of_ble_eq_true rfl⟩) hP hD hS hA [0, 1] [] rfl rfl (by decide) (by decide) (fun r u H locs hw hP hD hS => ?_)
  have hw : r = (-1) := hw
  subst hw
  have hP : va_P (gg_D G) classes [] H := hP
  have hD : va_D A [] := hD
  refine lv_icmp_eq (tgt := 1095) hx hb dL_law_401 (by decide) (fun _ => ?_) (fun c0 => absurd (by decide +kernel) c0)
  refine lv_iinc (v := 6) (lv' := [(3, .int 6), (2, .ref qm), (1, .ref qx), (0, .ref b)]) hx hb dL_law_1095 hl (k := 0) rfl (by decide +kernel) (by decide) rfl (fun ls hl => ?_)
  refine lv_goto (tgt := 18) hx hb dL_law_1098 (by decide) ?_
  refine lv_iload_n hx hb dL_law_18 rfl (lv_at hl 0 rfl) ?_
  refine lv_aload_n hx hb dL_law_19 rfl (lv_at hl 3 rfl) ?_
  refine va_slen hx hb hX_ hbl hbA hS dL_law_20 ?_
  refine W.eq (g2 := F0 m 21 ls [.int 6, .int 6]) rfl ?_
  refine lv_bipush (v := 6) hx hb dL_law_21 (by decide +kernel) ?_
  refine gq_isub hx hb 0 (by decide +kernel) dL_law_23 ?_
  refine lv_icmp_gt (tgt := 1101) hx hb dL_law_24 (by decide) (fun _ => ?_) (fun c0 => absurd (by decide +kernel) c0)
  refine lv_iconst (v := 1) hx hb dL_law_1101 (by decide) ?_
  refine va_forget (fun q hq => hA2 _ (hS.2.2 q hq)) ?_
  refine W.widen (k := 600000) (n := 7302249) (Nat.le_of_ble_eq_true rfl) (Nat.le_of_ble_eq_true rfl) ?_
  exact lw_ret hx hb hr hlocks dL_law_1102
