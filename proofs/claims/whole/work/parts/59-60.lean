section
theorem d_M_bitsOf_0 : decode prog_14_method_39_code 0 = .ok (.lconst 0, 1) := by decide +kernel
theorem d_M_bitsOf_1 : decode prog_14_method_39_code 1 = .ok (.lstore 4, 2) := by decide +kernel
theorem d_M_bitsOf_3 : decode prog_14_method_39_code 3 = .ok (.iconst 0, 1) := by decide +kernel
theorem d_M_bitsOf_4 : decode prog_14_method_39_code 4 = .ok (.istore 6, 2) := by decide +kernel
theorem d_M_bitsOf_6 : decode prog_14_method_39_code 6 = .ok (.iload 6, 2) := by decide +kernel
theorem d_M_bitsOf_8 : decode prog_14_method_39_code 8 = .ok (.aload_n 0, 1) := by decide +kernel
theorem d_M_bitsOf_9 : decode prog_14_method_39_code 9 = .ok (.getfield 160, 3) := by decide +kernel
theorem d_M_bitsOf_12 : decode prog_14_method_39_code 12 = .ok (.if_icmp .ge 334, 3) := by decide +kernel
theorem d_M_bitsOf_346 : decode prog_14_method_39_code 346 = .ok (.lload 4, 2) := by decide +kernel
theorem d_M_bitsOf_348 : decode prog_14_method_39_code 348 = .ok (.lreturn, 1) := by decide +kernel
theorem d_M_bitsOf_15 : decode prog_14_method_39_code 15 = .ok (.iconst 0, 1) := by decide +kernel
theorem d_M_bitsOf_16 : decode prog_14_method_39_code 16 = .ok (.istore 7, 2) := by decide +kernel
theorem d_M_bitsOf_18 : decode prog_14_method_39_code 18 = .ok (.lconst 0, 1) := by decide +kernel
theorem d_M_bitsOf_19 : decode prog_14_method_39_code 19 = .ok (.lstore 8, 2) := by decide +kernel
theorem d_M_bitsOf_21 : decode prog_14_method_39_code 21 = .ok (.lconst 0, 1) := by decide +kernel
theorem d_M_bitsOf_22 : decode prog_14_method_39_code 22 = .ok (.lstore 10, 2) := by decide +kernel
theorem d_M_bitsOf_24 : decode prog_14_method_39_code 24 = .ok (.lconst 0, 1) := by decide +kernel
theorem d_M_bitsOf_25 : decode prog_14_method_39_code 25 = .ok (.lstore 12, 2) := by decide +kernel
theorem d_M_bitsOf_27 : decode prog_14_method_39_code 27 = .ok (.iconst (-1), 1) := by decide +kernel
theorem d_M_bitsOf_28 : decode prog_14_method_39_code 28 = .ok (.istore 14, 2) := by decide +kernel
theorem d_M_bitsOf_30 : decode prog_14_method_39_code 30 = .ok (.iconst 0, 1) := by decide +kernel
theorem d_M_bitsOf_31 : decode prog_14_method_39_code 31 = .ok (.istore 15, 2) := by decide +kernel
theorem d_M_bitsOf_33 : decode prog_14_method_39_code 33 = .ok (.iconst 0, 1) := by decide +kernel
theorem d_M_bitsOf_34 : decode prog_14_method_39_code 34 = .ok (.istore 16, 2) := by decide +kernel
theorem d_M_bitsOf_36 : decode prog_14_method_39_code 36 = .ok (.iload 16, 2) := by decide +kernel
theorem d_M_bitsOf_38 : decode prog_14_method_39_code 38 = .ok (.aload_n 0, 1) := by decide +kernel
theorem d_M_bitsOf_39 : decode prog_14_method_39_code 39 = .ok (.getfield 169, 3) := by decide +kernel
theorem d_M_bitsOf_42 : decode prog_14_method_39_code 42 = .ok (.if_icmp .ge 298, 3) := by decide +kernel
theorem d_M_bitsOf_340 : decode prog_14_method_39_code 340 = .ok (.iinc 6 1, 3) := by decide +kernel
theorem d_M_bitsOf_343 : decode prog_14_method_39_code 343 = .ok (.goto (-337), 3) := by decide +kernel
theorem d_M_bitsOf_95 : decode prog_14_method_39_code 95 = .ok (.aload_n 0, 1) := by decide +kernel
theorem d_M_bitsOf_96 : decode prog_14_method_39_code 96 = .ok (.getfield 46, 3) := by decide +kernel
theorem d_M_bitsOf_99 : decode prog_14_method_39_code 99 = .ok (.iload 16, 2) := by decide +kernel
theorem d_M_bitsOf_101 : decode prog_14_method_39_code 101 = .ok (.laload, 1) := by decide +kernel
theorem d_M_bitsOf_102 : decode prog_14_method_39_code 102 = .ok (.lload 8, 2) := by decide +kernel
theorem d_M_bitsOf_104 : decode prog_14_method_39_code 104 = .ok (.lsub, 1) := by decide +kernel
theorem d_M_bitsOf_105 : decode prog_14_method_39_code 105 = .ok (.lstore 17, 2) := by decide +kernel
theorem d_M_bitsOf_107 : decode prog_14_method_39_code 107 = .ok (.aload_n 0, 1) := by decide +kernel
theorem d_M_bitsOf_108 : decode prog_14_method_39_code 108 = .ok (.getfield 49, 3) := by decide +kernel
theorem d_M_bitsOf_111 : decode prog_14_method_39_code 111 = .ok (.iload 16, 2) := by decide +kernel
theorem d_M_bitsOf_113 : decode prog_14_method_39_code 113 = .ok (.laload, 1) := by decide +kernel
theorem d_M_bitsOf_114 : decode prog_14_method_39_code 114 = .ok (.lload 12, 2) := by decide +kernel
theorem d_M_bitsOf_116 : decode prog_14_method_39_code 116 = .ok (.lxor, 1) := by decide +kernel
theorem d_M_bitsOf_117 : decode prog_14_method_39_code 117 = .ok (.lstore 19, 2) := by decide +kernel
theorem d_M_bitsOf_300 : decode prog_14_method_39_code 300 = .ok (.iload 7, 2) := by decide +kernel
theorem d_M_bitsOf_302 : decode prog_14_method_39_code 302 = .ok (.ifCond .ne 7, 3) := by decide +kernel
theorem d_M_bitsOf_309 : decode prog_14_method_39_code 309 = .ok (.lload 17, 2) := by decide +kernel
theorem d_M_bitsOf_311 : decode prog_14_method_39_code 311 = .ok (.lstore 10, 2) := by decide +kernel
theorem d_M_bitsOf_313 : decode prog_14_method_39_code 313 = .ok (.aload_n 0, 1) := by decide +kernel
theorem d_M_bitsOf_314 : decode prog_14_method_39_code 314 = .ok (.getfield 46, 3) := by decide +kernel
theorem d_M_bitsOf_317 : decode prog_14_method_39_code 317 = .ok (.iload 16, 2) := by decide +kernel
theorem d_M_bitsOf_319 : decode prog_14_method_39_code 319 = .ok (.laload, 1) := by decide +kernel
theorem d_M_bitsOf_320 : decode prog_14_method_39_code 320 = .ok (.lstore 8, 2) := by decide +kernel
theorem d_M_bitsOf_322 : decode prog_14_method_39_code 322 = .ok (.aload_n 0, 1) := by decide +kernel
theorem d_M_bitsOf_323 : decode prog_14_method_39_code 323 = .ok (.getfield 49, 3) := by decide +kernel
theorem d_M_bitsOf_326 : decode prog_14_method_39_code 326 = .ok (.iload 16, 2) := by decide +kernel
theorem d_M_bitsOf_328 : decode prog_14_method_39_code 328 = .ok (.laload, 1) := by decide +kernel
theorem d_M_bitsOf_329 : decode prog_14_method_39_code 329 = .ok (.lstore 12, 2) := by decide +kernel
theorem d_M_bitsOf_331 : decode prog_14_method_39_code 331 = .ok (.iinc 7 1, 3) := by decide +kernel
theorem d_M_bitsOf_334 : decode prog_14_method_39_code 334 = .ok (.iinc 16 1, 3) := by decide +kernel
theorem d_M_bitsOf_337 : decode prog_14_method_39_code 337 = .ok (.goto (-301), 3) := by decide +kernel
theorem d_M_bitsOf_305 : decode prog_14_method_39_code 305 = .ok (.lconst 0, 1) := by decide +kernel
theorem d_M_bitsOf_306 : decode prog_14_method_39_code 306 = .ok (.goto 5, 3) := by decide +kernel
theorem d_M_bitsOf_119 : decode prog_14_method_39_code 119 = .ok (.iload 7, 2) := by decide +kernel
theorem d_M_bitsOf_121 : decode prog_14_method_39_code 121 = .ok (.ifCond .ne 14, 3) := by decide +kernel
theorem d_M_bitsOf_153 : decode prog_14_method_39_code 153 = .ok (.invokestatic 303, 3) := by decide +kernel
theorem d_M_bitsOf_156 : decode prog_14_method_39_code 156 = .ok (.i2l, 1) := by decide +kernel
theorem d_M_bitsOf_157 : decode prog_14_method_39_code 157 = .ok (.ladd, 1) := by decide +kernel
theorem d_M_bitsOf_158 : decode prog_14_method_39_code 158 = .ok (.lstore 4, 2) := by decide +kernel
theorem d_M_bitsOf_218 : decode prog_14_method_39_code 218 = .ok (.lload 19, 2) := by decide +kernel
theorem d_M_bitsOf_220 : decode prog_14_method_39_code 220 = .ok (.lconst 0, 1) := by decide +kernel
theorem d_M_bitsOf_221 : decode prog_14_method_39_code 221 = .ok (.lcmp, 1) := by decide +kernel
theorem d_M_bitsOf_222 : decode prog_14_method_39_code 222 = .ok (.ifCond .ne 12, 3) := by decide +kernel
theorem d_M_bitsOf_234 : decode prog_14_method_39_code 234 = .ok (.iload 14, 2) := by decide +kernel
theorem d_M_bitsOf_236 : decode prog_14_method_39_code 236 = .ok (.ifCond .lt 38, 3) := by decide +kernel
theorem d_M_bitsOf_274 : decode prog_14_method_39_code 274 = .ok (.iload 21, 2) := by decide +kernel
theorem d_M_bitsOf_276 : decode prog_14_method_39_code 276 = .ok (.istore 14, 2) := by decide +kernel
theorem d_M_bitsOf_278 : decode prog_14_method_39_code 278 = .ok (.bipush 64, 2) := by decide +kernel
theorem d_M_bitsOf_280 : decode prog_14_method_39_code 280 = .ok (.iload 21, 2) := by decide +kernel
theorem d_M_bitsOf_282 : decode prog_14_method_39_code 282 = .ok (.isub, 1) := by decide +kernel
theorem d_M_bitsOf_283 : decode prog_14_method_39_code 283 = .ok (.iload 22, 2) := by decide +kernel
theorem d_M_bitsOf_285 : decode prog_14_method_39_code 285 = .ok (.isub, 1) := by decide +kernel
theorem d_M_bitsOf_286 : decode prog_14_method_39_code 286 = .ok (.istore 15, 2) := by decide +kernel
theorem d_M_bitsOf_288 : decode prog_14_method_39_code 288 = .ok (.lload 4, 2) := by decide +kernel
theorem d_M_bitsOf_290 : decode prog_14_method_39_code 290 = .ok (.ldc2_w 309, 3) := by decide +kernel
theorem d_M_bitsOf_293 : decode prog_14_method_39_code 293 = .ok (.iload 15, 2) := by decide +kernel
theorem d_M_bitsOf_295 : decode prog_14_method_39_code 295 = .ok (.i2l, 1) := by decide +kernel
theorem d_M_bitsOf_296 : decode prog_14_method_39_code 296 = .ok (.ladd, 1) := by decide +kernel
theorem d_M_bitsOf_297 : decode prog_14_method_39_code 297 = .ok (.ladd, 1) := by decide +kernel
theorem d_M_bitsOf_298 : decode prog_14_method_39_code 298 = .ok (.lstore 4, 2) := by decide +kernel
theorem d_M_bitsOf_239 : decode prog_14_method_39_code 239 = .ok (.iload 21, 2) := by decide +kernel
theorem d_M_bitsOf_241 : decode prog_14_method_39_code 241 = .ok (.iload 14, 2) := by decide +kernel
theorem d_M_bitsOf_243 : decode prog_14_method_39_code 243 = .ok (.if_icmp .lt 31, 3) := by decide +kernel
theorem d_M_bitsOf_246 : decode prog_14_method_39_code 246 = .ok (.iload 22, 2) := by decide +kernel
theorem d_M_bitsOf_248 : decode prog_14_method_39_code 248 = .ok (.bipush 64, 2) := by decide +kernel
theorem d_M_bitsOf_250 : decode prog_14_method_39_code 250 = .ok (.iload 14, 2) := by decide +kernel
theorem d_M_bitsOf_252 : decode prog_14_method_39_code 252 = .ok (.isub, 1) := by decide +kernel
theorem d_M_bitsOf_253 : decode prog_14_method_39_code 253 = .ok (.iload 15, 2) := by decide +kernel
theorem d_M_bitsOf_255 : decode prog_14_method_39_code 255 = .ok (.isub, 1) := by decide +kernel
theorem d_M_bitsOf_256 : decode prog_14_method_39_code 256 = .ok (.if_icmp .lt 18, 3) := by decide +kernel
theorem d_M_bitsOf_259 : decode prog_14_method_39_code 259 = .ok (.lload 4, 2) := by decide +kernel
theorem d_M_bitsOf_261 : decode prog_14_method_39_code 261 = .ok (.ldc2_w 307, 3) := by decide +kernel
theorem d_M_bitsOf_264 : decode prog_14_method_39_code 264 = .ok (.iload 15, 2) := by decide +kernel
theorem d_M_bitsOf_266 : decode prog_14_method_39_code 266 = .ok (.i2l, 1) := by decide +kernel
theorem d_M_bitsOf_267 : decode prog_14_method_39_code 267 = .ok (.ladd, 1) := by decide +kernel
theorem d_M_bitsOf_268 : decode prog_14_method_39_code 268 = .ok (.ladd, 1) := by decide +kernel
theorem d_M_bitsOf_269 : decode prog_14_method_39_code 269 = .ok (.lstore 4, 2) := by decide +kernel
theorem d_M_bitsOf_271 : decode prog_14_method_39_code 271 = .ok (.goto 29, 3) := by decide +kernel
theorem d_M_bitsOf_225 : decode prog_14_method_39_code 225 = .ok (.lload 4, 2) := by decide +kernel
theorem d_M_bitsOf_227 : decode prog_14_method_39_code 227 = .ok (.lconst 1, 1) := by decide +kernel
theorem d_M_bitsOf_228 : decode prog_14_method_39_code 228 = .ok (.ladd, 1) := by decide +kernel
theorem d_M_bitsOf_229 : decode prog_14_method_39_code 229 = .ok (.lstore 4, 2) := by decide +kernel
theorem d_M_bitsOf_231 : decode prog_14_method_39_code 231 = .ok (.goto 69, 3) := by decide +kernel
theorem d_M_bitsOf_189 : decode prog_14_method_39_code 189 = .ok (.iconst 0, 1) := by decide +kernel
theorem d_M_bitsOf_190 : decode prog_14_method_39_code 190 = .ok (.istore 22, 2) := by decide +kernel
theorem d_M_bitsOf_192 : decode prog_14_method_39_code 192 = .ok (.iload 22, 2) := by decide +kernel
theorem d_M_bitsOf_194 : decode prog_14_method_39_code 194 = .ok (.bipush 64, 2) := by decide +kernel
theorem d_M_bitsOf_196 : decode prog_14_method_39_code 196 = .ok (.if_icmp .ge 22, 3) := by decide +kernel
theorem d_M_bitsOf_199 : decode prog_14_method_39_code 199 = .ok (.lload 19, 2) := by decide +kernel
theorem d_M_bitsOf_201 : decode prog_14_method_39_code 201 = .ok (.bipush 63, 2) := by decide +kernel
theorem d_M_bitsOf_203 : decode prog_14_method_39_code 203 = .ok (.iload 22, 2) := by decide +kernel
theorem d_M_bitsOf_205 : decode prog_14_method_39_code 205 = .ok (.isub, 1) := by decide +kernel
theorem d_M_bitsOf_206 : decode prog_14_method_39_code 206 = .ok (.lshl, 1) := by decide +kernel
theorem d_M_bitsOf_207 : decode prog_14_method_39_code 207 = .ok (.lconst 0, 1) := by decide +kernel
theorem d_M_bitsOf_208 : decode prog_14_method_39_code 208 = .ok (.lcmp, 1) := by decide +kernel
theorem d_M_bitsOf_209 : decode prog_14_method_39_code 209 = .ok (.ifCond .ne 9, 3) := by decide +kernel
theorem d_M_bitsOf_212 : decode prog_14_method_39_code 212 = .ok (.iinc 22 1, 3) := by decide +kernel
theorem d_M_bitsOf_215 : decode prog_14_method_39_code 215 = .ok (.goto (-23), 3) := by decide +kernel
theorem d_M_bitsOf_160 : decode prog_14_method_39_code 160 = .ok (.iconst 0, 1) := by decide +kernel
theorem d_M_bitsOf_161 : decode prog_14_method_39_code 161 = .ok (.istore 21, 2) := by decide +kernel
theorem d_M_bitsOf_163 : decode prog_14_method_39_code 163 = .ok (.iload 21, 2) := by decide +kernel
theorem d_M_bitsOf_165 : decode prog_14_method_39_code 165 = .ok (.bipush 31, 2) := by decide +kernel
theorem d_M_bitsOf_167 : decode prog_14_method_39_code 167 = .ok (.if_icmp .ge 22, 3) := by decide +kernel
theorem d_M_bitsOf_170 : decode prog_14_method_39_code 170 = .ok (.lload 19, 2) := by decide +kernel
theorem d_M_bitsOf_172 : decode prog_14_method_39_code 172 = .ok (.bipush 63, 2) := by decide +kernel
theorem d_M_bitsOf_174 : decode prog_14_method_39_code 174 = .ok (.iload 21, 2) := by decide +kernel
theorem d_M_bitsOf_176 : decode prog_14_method_39_code 176 = .ok (.isub, 1) := by decide +kernel
theorem d_M_bitsOf_177 : decode prog_14_method_39_code 177 = .ok (.lshr, 1) := by decide +kernel
theorem d_M_bitsOf_178 : decode prog_14_method_39_code 178 = .ok (.lconst 0, 1) := by decide +kernel
theorem d_M_bitsOf_179 : decode prog_14_method_39_code 179 = .ok (.lcmp, 1) := by decide +kernel
theorem d_M_bitsOf_180 : decode prog_14_method_39_code 180 = .ok (.ifCond .ne 9, 3) := by decide +kernel
theorem d_M_bitsOf_183 : decode prog_14_method_39_code 183 = .ok (.iinc 21 1, 3) := by decide +kernel
theorem d_M_bitsOf_186 : decode prog_14_method_39_code 186 = .ok (.goto (-23), 3) := by decide +kernel
theorem d_M_bitsOf_135 : decode prog_14_method_39_code 135 = .ok (.lload 4, 2) := by decide +kernel
theorem d_M_bitsOf_137 : decode prog_14_method_39_code 137 = .ok (.iload 7, 2) := by decide +kernel
theorem d_M_bitsOf_139 : decode prog_14_method_39_code 139 = .ok (.iconst 1, 1) := by decide +kernel
theorem d_M_bitsOf_140 : decode prog_14_method_39_code 140 = .ok (.if_icmp .ne 8, 3) := by decide +kernel
theorem d_M_bitsOf_148 : decode prog_14_method_39_code 148 = .ok (.lload 17, 2) := by decide +kernel
theorem d_M_bitsOf_150 : decode prog_14_method_39_code 150 = .ok (.lload 10, 2) := by decide +kernel
theorem d_M_bitsOf_152 : decode prog_14_method_39_code 152 = .ok (.lsub, 1) := by decide +kernel
theorem d_M_bitsOf_143 : decode prog_14_method_39_code 143 = .ok (.lload 17, 2) := by decide +kernel
theorem d_M_bitsOf_145 : decode prog_14_method_39_code 145 = .ok (.goto 8, 3) := by decide +kernel
theorem d_M_bitsOf_124 : decode prog_14_method_39_code 124 = .ok (.lload 4, 2) := by decide +kernel
theorem d_M_bitsOf_126 : decode prog_14_method_39_code 126 = .ok (.ldc2_w 301, 3) := by decide +kernel
theorem d_M_bitsOf_129 : decode prog_14_method_39_code 129 = .ok (.ladd, 1) := by decide +kernel
theorem d_M_bitsOf_130 : decode prog_14_method_39_code 130 = .ok (.lstore 4, 2) := by decide +kernel
theorem d_M_bitsOf_132 : decode prog_14_method_39_code 132 = .ok (.goto 168, 3) := by decide +kernel
theorem d_M_bitsOf_45 : decode prog_14_method_39_code 45 = .ok (.aload_n 0, 1) := by decide +kernel
theorem d_M_bitsOf_46 : decode prog_14_method_39_code 46 = .ok (.getfield 43, 3) := by decide +kernel
theorem d_M_bitsOf_49 : decode prog_14_method_39_code 49 = .ok (.iload 16, 2) := by decide +kernel
theorem d_M_bitsOf_51 : decode prog_14_method_39_code 51 = .ok (.iaload, 1) := by decide +kernel
theorem d_M_bitsOf_52 : decode prog_14_method_39_code 52 = .ok (.iload 6, 2) := by decide +kernel
theorem d_M_bitsOf_54 : decode prog_14_method_39_code 54 = .ok (.if_icmp .ne 280, 3) := by decide +kernel
theorem d_M_bitsOf_57 : decode prog_14_method_39_code 57 = .ok (.aload_n 0, 1) := by decide +kernel
theorem d_M_bitsOf_58 : decode prog_14_method_39_code 58 = .ok (.getfield 52, 3) := by decide +kernel
theorem d_M_bitsOf_61 : decode prog_14_method_39_code 61 = .ok (.iload 16, 2) := by decide +kernel
theorem d_M_bitsOf_63 : decode prog_14_method_39_code 63 = .ok (.iaload, 1) := by decide +kernel
theorem d_M_bitsOf_64 : decode prog_14_method_39_code 64 = .ok (.iload_n 1, 1) := by decide +kernel
theorem d_M_bitsOf_65 : decode prog_14_method_39_code 65 = .ok (.if_icmp .eq 14, 3) := by decide +kernel
theorem d_M_bitsOf_79 : decode prog_14_method_39_code 79 = .ok (.iload_n 3, 1) := by decide +kernel
theorem d_M_bitsOf_80 : decode prog_14_method_39_code 80 = .ok (.ifCond .eq 15, 3) := by decide +kernel
theorem d_M_bitsOf_83 : decode prog_14_method_39_code 83 = .ok (.aload_n 0, 1) := by decide +kernel
theorem d_M_bitsOf_84 : decode prog_14_method_39_code 84 = .ok (.iload 16, 2) := by decide +kernel
theorem d_M_bitsOf_86 : decode prog_14_method_39_code 86 = .ok (.invokevirtual 207, 3) := by decide +kernel
theorem d_M_bitsOf_89 : decode prog_14_method_39_code 89 = .ok (.ifCond .ne 6, 3) := by decide +kernel
theorem d_M_bitsOf_92 : decode prog_14_method_39_code 92 = .ok (.goto 242, 3) := by decide +kernel
theorem d_M_bitsOf_68 : decode prog_14_method_39_code 68 = .ok (.aload_n 0, 1) := by decide +kernel
theorem d_M_bitsOf_69 : decode prog_14_method_39_code 69 = .ok (.getfield 52, 3) := by decide +kernel
theorem d_M_bitsOf_72 : decode prog_14_method_39_code 72 = .ok (.iload 16, 2) := by decide +kernel
theorem d_M_bitsOf_74 : decode prog_14_method_39_code 74 = .ok (.iaload, 1) := by decide +kernel
theorem d_M_bitsOf_75 : decode prog_14_method_39_code 75 = .ok (.iload_n 2, 1) := by decide +kernel
theorem d_M_bitsOf_76 : decode prog_14_method_39_code 76 = .ok (.if_icmp .ne 258, 3) := by decide +kernel
theorem w908 : Cond.methodLink "SeriesVaultModel" 303 ⟨"SeriesVaultModel", "turnBits", "(J)I"⟩ ∈ aW := aw_of (tb_10 (List.mem_of_getElem? (i := 77) rfl)) rfl
theorem w909 : Cond.code ⟨"SeriesVaultModel", "turnBits", "(J)I"⟩ prog_14_method_38_code 2 (some FieldType.int) ∈ aW := aw_of (tb_10 (List.mem_of_getElem? (i := 79) rfl)) rfl
theorem w910 : Cond.static ⟨"SeriesVaultModel", "turnBits", "(J)I"⟩ ∈ aW := aw_of (tb_10 (List.mem_of_getElem? (i := 78) rfl)) rfl
theorem w911 : Cond.constantLong "SeriesVaultModel" 309 13 ∈ aW := aw_of (tb_10 (List.mem_of_getElem? (i := 87) rfl)) rfl
theorem w912 : Cond.constantLong "SeriesVaultModel" 307 2 ∈ aW := aw_of (tb_10 (List.mem_of_getElem? (i := 86) rfl)) rfl
theorem w913 : Cond.constantLong "SeriesVaultModel" 301 168 ∈ aW := aw_of (tb_10 (List.mem_of_getElem? (i := 76) rfl)) rfl
set_option maxHeartbeats 4000000 in
set_option maxRecDepth 100000 in
theorem k_bitsOf (l : Launch) (D : va_G) (dA : Nat → ClassId) (sz : Nat) (h : Nat) (ad : Nat → Nat) (x : MS) (o1 : Int32) (o2 : Int32) (sn : Bool) (h1 : x.points ≤ 12000) (h2 : x.seriesCount ≤ 256) (hs : ∀ q : Nat, q < x.points → x.pointSeries q < 256) : Met l ⟨"SeriesVaultModel", "bitsOf", "(IIZ)J"⟩ [Cond.code ⟨"SeriesVaultModel", "bitsOf", "(IIZ)J"⟩ prog_14_method_39_code 23 (some FieldType.long)] { frames := 2, cells := 0, slots := 0, locals := 21 } (pC D dA [.ref h, .int o1, .int o2, .int (bI sn)] (MW dA h ad x) sz) (va_Ql (fun (r9 : Int64) (u9 : Unit) => r9 = lN (x.bA o1 o2 sn x.seriesCount)) (fun (u9 : Unit) t9 => bW D (va_A (MW dA h ad x) sz) (MW dA h ad x) t9) (va_A (MW dA h ad x) sz)) 0 0 (va_A (MW dA h ad x) sz) := by
  refine mkC (y := ⟨"SeriesVaultModel", "bitsOf", "(IIZ)J"⟩) (cc := prog_14_method_39_code) (maxL := 23) (av := [.ref h, .int o1, .int o2, .int (bI sn)]) (ws := MW dA h ad x) (sz := sz) (Qc := fun A => va_Ql (fun (r9 : Int64) (u9 : Unit) => r9 = lN (x.bA o1 o2 sn x.seriesCount)) (fun (u9 : Unit) t9 => bW D A (MW dA h ad x) t9) A) (by decide) (Nat.le_of_ble_eq_true rfl) ?_
  intro A p e s m below meth c ls hsz hB
  obtain ⟨hx, hb, hr, hml, hown, hin, hlk, hE, hK, hP, hD, hS, hA, hN, hl⟩ := hB
  have hown : s.vm.findClass "SeriesVaultModel" = some m.cls := hown
  have hl : lv_has ls 23 [(0, .ref h), (1, .int o1), (2, .int o2), (3, .int (bI sn))] := hl
  obtain ⟨H, hH⟩ : ∃ z, z = s.heap := ⟨_, rfl⟩
  have hP : va_P D vwCl (MW dA h ad x) H := by rw [hH]; exact hP
  have hS : va_S A s.heap H [] := by rw [hH]; exact hS
  rw [← hH]
  refine lv_lconst (v := 0) hx hb d_M_bitsOf_0 (by decide) ?_
  refine lv_lstore hx hb d_M_bitsOf_1 hl (by decide) rfl (fun ls hl => ?_)
  have hl : lv_has ls 23 [(4, .long 0), (0, .ref h), (1, .int o1), (2, .int o2), (3, .int (bI sn))] := hl
  refine lv_iconst (v := 0) hx hb d_M_bitsOf_3 (by decide) ?_
  refine lv_istore hx hb d_M_bitsOf_4 hl (by decide) rfl (fun ls hl => ?_)
  have hl : lv_has ls 23 [(6, .int 0), (4, .long 0), (0, .ref h), (1, .int o1), (2, .int o2), (3, .int (bI sn))] := hl
  have L6 : ∀ (k9 : Nat) (w : Nat) (bt : Nat) (i1 : w ≤ x.seriesCount) (i2 : x.bA o1 o2 sn w = bt) (hk9 : x.seriesCount - w = k9), ∀ (H : Heap) (locs : List Loc) (ls : Array Slot) (hP : va_P D vwCl (MW dA h ad x) H) (hD : va_D A (MW dA h ad x)) (hS : va_S A s.heap H locs) (hl : lv_has ls 23 [(6, .int (nI w)), (4, .long (lN bt)), (0, .ref h), (1, .int o1), (2, .int o2), (3, .int (bI sn))]), W p l e ({ frames := 2, cells := 0, slots := 0, locals := 21 } : Room) s m ([.ref h, .int o1, .int o2, .int (bI sn)] : List Value).toArray below meth c H locs 0 0 (MQ below (va_Ql (fun (r9 : Int64) (u9 : Unit) => r9 = lN (x.bA o1 o2 sn x.seriesCount)) (fun (u9 : Unit) t9 => bW D A (MW dA h ad x) t9) A) ([.ref h, .int o1, .int o2, .int (bI sn)] : List Value).toArray s 0 0 A) (F0 m 6 ls []) := by
    intro k9
    induction k9 using Nat.strongRecOn with
    | ind k9 ih6 =>
      intro w bt i1 i2 hk9 H locs ls hP hD hS hl
      refine lv_iload hx hb d_M_bitsOf_6 (lv_at hl 0 rfl) ?_
      refine lv_aload_n hx hb d_M_bitsOf_8 rfl (lv_at hl 2 rfl) ?_
      refine gF (v := .int (nI x.seriesCount)) hx hb hown hE hK hP 0 rfl rfl layM 12 (by decide) w332 rfl d_M_bitsOf_9 ?_
      refine lv_icmp_ge hx hb d_M_bitsOf_12 (tgt := 346) rfl (fun g1 => ?_) (fun g1 => ?_)
      · have g1 := (nI_leI (a := x.seriesCount) (b := w) (by omega) (by omega)).mp g1
        refine lv_lload hx hb d_M_bitsOf_346 (lv_at hl 1 rfl) ?_
        exact rfL hx hb hr hlk hS () (by rw [← show w = x.seriesCount by omega, i2]) hP hD (Nat.le_of_ble_eq_true rfl) (Nat.le_of_ble_eq_true rfl) d_M_bitsOf_348
      · have g1 := mt (nI_leI (a := x.seriesCount) (b := w) (by omega) (by omega)).mpr g1
        refine lv_iconst (v := 0) hx hb d_M_bitsOf_15 (by decide) ?_
        refine lv_istore hx hb d_M_bitsOf_16 hl (by decide) rfl (fun ls hl => ?_)
        have hl : lv_has ls 23 [(7, .int 0), (6, .int (nI w)), (4, .long (lN bt)), (0, .ref h), (1, .int o1), (2, .int o2), (3, .int (bI sn))] := hl
        refine lv_lconst (v := 0) hx hb d_M_bitsOf_18 (by decide) ?_
        refine lv_lstore hx hb d_M_bitsOf_19 hl (by decide) rfl (fun ls hl => ?_)
        have hl : lv_has ls 23 [(8, .long 0), (7, .int 0), (6, .int (nI w)), (4, .long (lN bt)), (0, .ref h), (1, .int o1), (2, .int o2), (3, .int (bI sn))] := hl
        refine lv_lconst (v := 0) hx hb d_M_bitsOf_21 (by decide) ?_
        refine lv_lstore hx hb d_M_bitsOf_22 hl (by decide) rfl (fun ls hl => ?_)
        have hl : lv_has ls 23 [(10, .long 0), (8, .long 0), (7, .int 0), (6, .int (nI w)), (4, .long (lN bt)), (0, .ref h), (1, .int o1), (2, .int o2), (3, .int (bI sn))] := hl
        refine lv_lconst (v := 0) hx hb d_M_bitsOf_24 (by decide) ?_
        refine lv_lstore hx hb d_M_bitsOf_25 hl (by decide) rfl (fun ls hl => ?_)
        have hl : lv_has ls 23 [(12, .long 0), (10, .long 0), (8, .long 0), (7, .int 0), (6, .int (nI w)), (4, .long (lN bt)), (0, .ref h), (1, .int o1), (2, .int o2), (3, .int (bI sn))] := hl
        refine lv_iconst (v := (-1)) hx hb d_M_bitsOf_27 (by decide) ?_
        refine lv_istore hx hb d_M_bitsOf_28 hl (by decide) rfl (fun ls hl => ?_)
        have hl : lv_has ls 23 [(14, .int (-1)), (12, .long 0), (10, .long 0), (8, .long 0), (7, .int 0), (6, .int (nI w)), (4, .long (lN bt)), (0, .ref h), (1, .int o1), (2, .int o2), (3, .int (bI sn))] := hl
        refine lv_iconst (v := 0) hx hb d_M_bitsOf_30 (by decide) ?_
        refine lv_istore hx hb d_M_bitsOf_31 hl (by decide) rfl (fun ls hl => ?_)
        have hl : lv_has ls 23 [(15, .int 0), (14, .int (-1)), (12, .long 0), (10, .long 0), (8, .long 0), (7, .int 0), (6, .int (nI w)), (4, .long (lN bt)), (0, .ref h), (1, .int o1), (2, .int o2), (3, .int (bI sn))] := hl
        refine lv_iconst (v := 0) hx hb d_M_bitsOf_33 (by decide) ?_
        refine lv_istore hx hb d_M_bitsOf_34 hl (by decide) rfl (fun ls hl => ?_)
        have hl : lv_has ls 23 [(16, .int 0), (15, .int 0), (14, .int (-1)), (12, .long 0), (10, .long 0), (8, .long 0), (7, .int 0), (6, .int (nI w)), (4, .long (lN bt)), (0, .ref h), (1, .int o1), (2, .int o2), (3, .int (bI sn))] := hl
        have L36 : ∀ (k9 : Nat) (q : Nat) (n : Nat) (tm : Int64) (sp : Int64) (vl : Int64) (fz : Int32) (fb : Nat) (bu : Nat) (m1 : q ≤ x.points) (m2 : x.bP o1 o2 sn w bt q = (n, tm, sp, vl, fz, fb, bu)) (m3 : n ≤ q) (m4 : fb ≤ 64) (hk9 : x.points - q = k9), ∀ (H : Heap) (locs : List Loc) (ls : Array Slot) (hP : va_P D vwCl (MW dA h ad x) H) (hD : va_D A (MW dA h ad x)) (hS : va_S A s.heap H locs) (hl : lv_has ls 23 [(4, .long (lN bu)), (6, .int (nI w)), (7, .int (nI n)), (8, .long tm), (10, .long sp), (12, .long vl), (14, .int fz), (15, .int (nI fb)), (16, .int (nI q)), (0, .ref h), (1, .int o1), (2, .int o2), (3, .int (bI sn))]), W p l e ({ frames := 2, cells := 0, slots := 0, locals := 21 } : Room) s m ([.ref h, .int o1, .int o2, .int (bI sn)] : List Value).toArray below meth c H locs 0 0 (MQ below (va_Ql (fun (r9 : Int64) (u9 : Unit) => r9 = lN (x.bA o1 o2 sn x.seriesCount)) (fun (u9 : Unit) t9 => bW D A (MW dA h ad x) t9) A) ([.ref h, .int o1, .int o2, .int (bI sn)] : List Value).toArray s 0 0 A) (F0 m 36 ls []) := by
          intro k9
          induction k9 using Nat.strongRecOn with
          | ind k9 ih36 =>
            intro q n tm sp vl fz fb bu m1 m2 m3 m4 hk9 H locs ls hP hD hS hl
            refine lv_iload hx hb d_M_bitsOf_36 (lv_at hl 8 rfl) ?_
            refine lv_aload_n hx hb d_M_bitsOf_38 rfl (lv_at hl 9 rfl) ?_
            refine gF (v := .int (nI x.points)) hx hb hown hE hK hP 0 rfl rfl layM 23 (by decide) w420 rfl d_M_bitsOf_39 ?_
            refine lv_icmp_ge hx hb d_M_bitsOf_42 (tgt := 340) rfl (fun g2 => ?_) (fun g2 => ?_)
            · have g2 := (nI_leI (a := x.points) (b := q) (by omega) (by omega)).mp g2
              refine lv_iinc (k := 1) (v := nI (w + 1)) hx hb d_M_bitsOf_340 hl rfl (iincN (w) 1 1 (by decide)) (by decide) rfl (fun ls hl => ?_)
              have hl : lv_has ls 23 [(6, .int (nI (w + 1))), (4, .long (lN bu)), (7, .int (nI n)), (8, .long tm), (10, .long sp), (12, .long vl), (14, .int fz), (15, .int (nI fb)), (16, .int (nI q)), (0, .ref h), (1, .int o1), (2, .int o2), (3, .int (bI sn))] := hl
              refine lv_goto hx hb d_M_bitsOf_343 (tgt := 6) rfl ?_
              exact ih6 _ (by omega) (w + 1) bu (by omega) (by show (x.bP o1 o2 sn w (x.bA o1 o2 sn w) x.points).2.2.2.2.2.2 = _; rw [i2, ← show q = x.points by omega, m2]) rfl H _ ls hP hD hS (lv_sub hl [0, 1, 9, 10, 11, 12] rfl)
            · have g2 := mt (nI_leI (a := x.points) (b := q) (by omega) (by omega)).mpr g2
              have J95 : ∀ (s9 : x.sel o1 o2 sn w q = true), ∀ (H : Heap) (locs : List Loc) (ls : Array Slot) (hP : va_P D vwCl (MW dA h ad x) H) (hD : va_D A (MW dA h ad x)) (hS : va_S A s.heap H locs) (hl : lv_has ls 23 [(4, .long (lN bu)), (6, .int (nI w)), (7, .int (nI n)), (8, .long tm), (10, .long sp), (12, .long vl), (14, .int fz), (15, .int (nI fb)), (16, .int (nI q)), (0, .ref h), (1, .int o1), (2, .int o2), (3, .int (bI sn))]), W p l e ({ frames := 2, cells := 0, slots := 0, locals := 21 } : Room) s m ([.ref h, .int o1, .int o2, .int (bI sn)] : List Value).toArray below meth c H locs 0 0 (MQ below (va_Ql (fun (r9 : Int64) (u9 : Unit) => r9 = lN (x.bA o1 o2 sn x.seriesCount)) (fun (u9 : Unit) t9 => bW D A (MW dA h ad x) t9) A) ([.ref h, .int o1, .int o2, .int (bI sn)] : List Value).toArray s 0 0 A) (F0 m 95 ls []) := by
                intro s9 H locs ls hP hD hS hl
                refine lv_aload_n hx hb d_M_bitsOf_95 rfl (lv_at hl 9 rfl) ?_
                refine gF (v := .ref (ad 18)) hx hb hown hE hK hP 0 rfl rfl layM 18 (by decide) w504 rfl d_M_bitsOf_96 ?_
                refine lv_iload hx hb d_M_bitsOf_99 (lv_at hl 8 rfl) ?_
                refine nlld (f := x.pointTimes) hx hb hK hP 7 2 rfl rfl (q) (by omega) (by decide) d_M_bitsOf_101 ?_
                refine lv_lload hx hb d_M_bitsOf_102 (lv_at hl 3 rfl) ?_
                refine lv_lsub hx hb d_M_bitsOf_104 ?_
                refine lv_lstore hx hb d_M_bitsOf_105 hl (by decide) rfl (fun ls hl => ?_)
                have hl : lv_has ls 23 [(17, .long ((x.pointTimes q) - tm)), (4, .long (lN bu)), (6, .int (nI w)), (7, .int (nI n)), (8, .long tm), (10, .long sp), (12, .long vl), (14, .int fz), (15, .int (nI fb)), (16, .int (nI q)), (0, .ref h), (1, .int o1), (2, .int o2), (3, .int (bI sn))] := hl
                refine lv_aload_n hx hb d_M_bitsOf_107 rfl (lv_at hl 10 rfl) ?_
                refine gF (v := .ref (ad 19)) hx hb hown hE hK hP 0 rfl rfl layM 19 (by decide) w505 rfl d_M_bitsOf_108 ?_
                refine lv_iload hx hb d_M_bitsOf_111 (lv_at hl 9 rfl) ?_
                refine nlld (f := x.pointValues) hx hb hK hP 8 2 rfl rfl (q) (by omega) (by decide) d_M_bitsOf_113 ?_
                refine lv_lload hx hb d_M_bitsOf_114 (lv_at hl 6 rfl) ?_
                refine lv_lxor hx hb d_M_bitsOf_116 ?_
                refine lv_lstore hx hb d_M_bitsOf_117 hl (by decide) rfl (fun ls hl => ?_)
                have hl : lv_has ls 23 [(19, .long ((x.pointValues q) ^^^ vl)), (17, .long ((x.pointTimes q) - tm)), (4, .long (lN bu)), (6, .int (nI w)), (7, .int (nI n)), (8, .long tm), (10, .long sp), (12, .long vl), (14, .int fz), (15, .int (nI fb)), (16, .int (nI q)), (0, .ref h), (1, .int o1), (2, .int o2), (3, .int (bI sn))] := hl
                have J300 : ∀ (fz2 : Int32) (fb2 : Nat) (bu2 : Nat) (j9 : b3 n sp fz fb bu (x.pointTimes q - tm) (x.pointValues q ^^^ vl) = (fz2, fb2, bu2)) (j8 : fb2 ≤ 64), ∀ (H : Heap) (locs : List Loc) (ls : Array Slot) (hP : va_P D vwCl (MW dA h ad x) H) (hD : va_D A (MW dA h ad x)) (hS : va_S A s.heap H locs) (hl : lv_has ls 23 [(14, .int fz2), (15, .int (nI fb2)), (4, .long (lN bu2)), (6, .int (nI w)), (7, .int (nI n)), (8, .long tm), (10, .long sp), (12, .long vl), (16, .int (nI q)), (0, .ref h), (1, .int o1), (2, .int o2), (3, .int (bI sn)), (17, .long (x.pointTimes q - tm)), (19, .long (x.pointValues q ^^^ vl))]), W p l e ({ frames := 2, cells := 0, slots := 0, locals := 21 } : Room) s m ([.ref h, .int o1, .int o2, .int (bI sn)] : List Value).toArray below meth c H locs 0 0 (MQ below (va_Ql (fun (r9 : Int64) (u9 : Unit) => r9 = lN (x.bA o1 o2 sn x.seriesCount)) (fun (u9 : Unit) t9 => bW D A (MW dA h ad x) t9) A) ([.ref h, .int o1, .int o2, .int (bI sn)] : List Value).toArray s 0 0 A) (F0 m 300 ls []) := by
                  intro fz2 fb2 bu2 j9 j8 H locs ls hP hD hS hl
                  refine lv_iload hx hb d_M_bitsOf_300 (lv_at hl 4 rfl) ?_
                  refine lv_if_ne hx hb d_M_bitsOf_302 (tgt := 309) rfl (fun g3 => ?_) (fun g3 => ?_)
                  · have g3 := mt (nI_eq (a := n) (b := 0) (by omega) (by decide)).mpr g3
                    refine lv_lload hx hb d_M_bitsOf_309 (lv_at hl 13 rfl) ?_
                    refine lv_lstore hx hb d_M_bitsOf_311 hl (by decide) rfl (fun ls hl => ?_)
                    have hl : lv_has ls 23 [(10, .long (x.pointTimes q - tm)), (14, .int fz2), (15, .int (nI fb2)), (4, .long (lN bu2)), (6, .int (nI w)), (7, .int (nI n)), (8, .long tm), (12, .long vl), (16, .int (nI q)), (0, .ref h), (1, .int o1), (2, .int o2), (3, .int (bI sn)), (17, .long (x.pointTimes q - tm)), (19, .long (x.pointValues q ^^^ vl))] := hl
                    refine lv_aload_n hx hb d_M_bitsOf_313 rfl (lv_at hl 9 rfl) ?_
                    refine gF (v := .ref (ad 18)) hx hb hown hE hK hP 0 rfl rfl layM 18 (by decide) w504 rfl d_M_bitsOf_314 ?_
                    refine lv_iload hx hb d_M_bitsOf_317 (lv_at hl 8 rfl) ?_
                    refine nlld (f := x.pointTimes) hx hb hK hP 7 2 rfl rfl (q) (by omega) (by decide) d_M_bitsOf_319 ?_
                    refine lv_lstore hx hb d_M_bitsOf_320 hl (by decide) rfl (fun ls hl => ?_)
                    have hl : lv_has ls 23 [(8, .long (x.pointTimes q)), (10, .long (x.pointTimes q - tm)), (14, .int fz2), (15, .int (nI fb2)), (4, .long (lN bu2)), (6, .int (nI w)), (7, .int (nI n)), (12, .long vl), (16, .int (nI q)), (0, .ref h), (1, .int o1), (2, .int o2), (3, .int (bI sn)), (17, .long (x.pointTimes q - tm)), (19, .long (x.pointValues q ^^^ vl))] := hl
                    refine lv_aload_n hx hb d_M_bitsOf_322 rfl (lv_at hl 9 rfl) ?_
                    refine gF (v := .ref (ad 19)) hx hb hown hE hK hP 0 rfl rfl layM 19 (by decide) w505 rfl d_M_bitsOf_323 ?_
                    refine lv_iload hx hb d_M_bitsOf_326 (lv_at hl 8 rfl) ?_
                    refine nlld (f := x.pointValues) hx hb hK hP 8 2 rfl rfl (q) (by omega) (by decide) d_M_bitsOf_328 ?_
                    refine lv_lstore hx hb d_M_bitsOf_329 hl (by decide) rfl (fun ls hl => ?_)
                    have hl : lv_has ls 23 [(12, .long (x.pointValues q)), (8, .long (x.pointTimes q)), (10, .long (x.pointTimes q - tm)), (14, .int fz2), (15, .int (nI fb2)), (4, .long (lN bu2)), (6, .int (nI w)), (7, .int (nI n)), (16, .int (nI q)), (0, .ref h), (1, .int o1), (2, .int o2), (3, .int (bI sn)), (17, .long (x.pointTimes q - tm)), (19, .long (x.pointValues q ^^^ vl))] := hl
                    refine lv_iinc (k := 7) (v := nI (n + 1)) hx hb d_M_bitsOf_331 hl rfl (iincN (n) 1 1 (by decide)) (by decide) rfl (fun ls hl => ?_)
                    have hl : lv_has ls 23 [(7, .int (nI (n + 1))), (12, .long (x.pointValues q)), (8, .long (x.pointTimes q)), (10, .long (x.pointTimes q - tm)), (14, .int fz2), (15, .int (nI fb2)), (4, .long (lN bu2)), (6, .int (nI w)), (16, .int (nI q)), (0, .ref h), (1, .int o1), (2, .int o2), (3, .int (bI sn)), (17, .long (x.pointTimes q - tm)), (19, .long (x.pointValues q ^^^ vl))] := hl
                    refine lv_iinc (k := 8) (v := nI (q + 1)) hx hb d_M_bitsOf_334 hl rfl (iincN (q) 1 1 (by decide)) (by decide) rfl (fun ls hl => ?_)
                    have hl : lv_has ls 23 [(16, .int (nI (q + 1))), (7, .int (nI (n + 1))), (12, .long (x.pointValues q)), (8, .long (x.pointTimes q)), (10, .long (x.pointTimes q - tm)), (14, .int fz2), (15, .int (nI fb2)), (4, .long (lN bu2)), (6, .int (nI w)), (0, .ref h), (1, .int o1), (2, .int o2), (3, .int (bI sn)), (17, .long (x.pointTimes q - tm)), (19, .long (x.pointValues q ^^^ vl))] := hl
                    refine lv_goto hx hb d_M_bitsOf_337 (tgt := 36) rfl ?_
                    exact ih36 _ (by omega) (q + 1) (n + 1) (x.pointTimes q) (x.pointTimes q - tm) (x.pointValues q) fz2 fb2 bu2 (by omega) (bP_t m2 s9 j9 (by simp [*])) (by omega) (by omega) rfl H _ ls hP hD hS (lv_sub hl [7, 8, 1, 3, 4, 2, 5, 6, 0, 9, 10, 11, 12] rfl)
                  · have g3 := (nI_eq (a := n) (b := 0) (by omega) (by decide)).mp g3
                    refine lv_lconst (v := 0) hx hb d_M_bitsOf_305 (by decide) ?_
                    refine lv_goto hx hb d_M_bitsOf_306 (tgt := 311) rfl ?_
                    refine lv_lstore hx hb d_M_bitsOf_311 hl (by decide) rfl (fun ls hl => ?_)
                    have hl : lv_has ls 23 [(10, .long 0), (14, .int fz2), (15, .int (nI fb2)), (4, .long (lN bu2)), (6, .int (nI w)), (7, .int (nI n)), (8, .long tm), (12, .long vl), (16, .int (nI q)), (0, .ref h), (1, .int o1), (2, .int o2), (3, .int (bI sn)), (17, .long (x.pointTimes q - tm)), (19, .long (x.pointValues q ^^^ vl))] := hl
                    refine lv_aload_n hx hb d_M_bitsOf_313 rfl (lv_at hl 9 rfl) ?_
                    refine gF (v := .ref (ad 18)) hx hb hown hE hK hP 0 rfl rfl layM 18 (by decide) w504 rfl d_M_bitsOf_314 ?_
                    refine lv_iload hx hb d_M_bitsOf_317 (lv_at hl 8 rfl) ?_
                    refine nlld (f := x.pointTimes) hx hb hK hP 7 2 rfl rfl (q) (by omega) (by decide) d_M_bitsOf_319 ?_
                    refine lv_lstore hx hb d_M_bitsOf_320 hl (by decide) rfl (fun ls hl => ?_)
                    have hl : lv_has ls 23 [(8, .long (x.pointTimes q)), (10, .long 0), (14, .int fz2), (15, .int (nI fb2)), (4, .long (lN bu2)), (6, .int (nI w)), (7, .int (nI n)), (12, .long vl), (16, .int (nI q)), (0, .ref h), (1, .int o1), (2, .int o2), (3, .int (bI sn)), (17, .long (x.pointTimes q - tm)), (19, .long (x.pointValues q ^^^ vl))] := hl
                    refine lv_aload_n hx hb d_M_bitsOf_322 rfl (lv_at hl 9 rfl) ?_
                    refine gF (v := .ref (ad 19)) hx hb hown hE hK hP 0 rfl rfl layM 19 (by decide) w505 rfl d_M_bitsOf_323 ?_
                    refine lv_iload hx hb d_M_bitsOf_326 (lv_at hl 8 rfl) ?_
                    refine nlld (f := x.pointValues) hx hb hK hP 8 2 rfl rfl (q) (by omega) (by decide) d_M_bitsOf_328 ?_
                    refine lv_lstore hx hb d_M_bitsOf_329 hl (by decide) rfl (fun ls hl => ?_)
                    have hl : lv_has ls 23 [(12, .long (x.pointValues q)), (8, .long (x.pointTimes q)), (10, .long 0), (14, .int fz2), (15, .int (nI fb2)), (4, .long (lN bu2)), (6, .int (nI w)), (7, .int (nI n)), (16, .int (nI q)), (0, .ref h), (1, .int o1), (2, .int o2), (3, .int (bI sn)), (17, .long (x.pointTimes q - tm)), (19, .long (x.pointValues q ^^^ vl))] := hl
                    refine lv_iinc (k := 7) (v := nI (n + 1)) hx hb d_M_bitsOf_331 hl rfl (iincN (n) 1 1 (by decide)) (by decide) rfl (fun ls hl => ?_)
                    have hl : lv_has ls 23 [(7, .int (nI (n + 1))), (12, .long (x.pointValues q)), (8, .long (x.pointTimes q)), (10, .long 0), (14, .int fz2), (15, .int (nI fb2)), (4, .long (lN bu2)), (6, .int (nI w)), (16, .int (nI q)), (0, .ref h), (1, .int o1), (2, .int o2), (3, .int (bI sn)), (17, .long (x.pointTimes q - tm)), (19, .long (x.pointValues q ^^^ vl))] := hl
                    refine lv_iinc (k := 8) (v := nI (q + 1)) hx hb d_M_bitsOf_334 hl rfl (iincN (q) 1 1 (by decide)) (by decide) rfl (fun ls hl => ?_)
                    have hl : lv_has ls 23 [(16, .int (nI (q + 1))), (7, .int (nI (n + 1))), (12, .long (x.pointValues q)), (8, .long (x.pointTimes q)), (10, .long 0), (14, .int fz2), (15, .int (nI fb2)), (4, .long (lN bu2)), (6, .int (nI w)), (0, .ref h), (1, .int o1), (2, .int o2), (3, .int (bI sn)), (17, .long (x.pointTimes q - tm)), (19, .long (x.pointValues q ^^^ vl))] := hl
                    refine lv_goto hx hb d_M_bitsOf_337 (tgt := 36) rfl ?_
                    exact ih36 _ (by omega) (q + 1) (n + 1) (x.pointTimes q) 0 (x.pointValues q) fz2 fb2 bu2 (by omega) (bP_t m2 s9 j9 (by simp [*])) (by omega) (by omega) rfl H _ ls hP hD hS (lv_sub hl [7, 8, 1, 3, 4, 2, 5, 6, 0, 9, 10, 11, 12] rfl)
                refine lv_iload hx hb d_M_bitsOf_119 (lv_at hl 4 rfl) ?_
                refine lv_if_ne hx hb d_M_bitsOf_121 (tgt := 135) rfl (fun g4 => ?_) (fun g4 => ?_)
                · have g4 := mt (nI_eq (a := n) (b := 0) (by omega) (by decide)).mpr g4
                  have J153 : ∀ (v : Int64) (hv9 : (if n = 1 then x.pointTimes q - tm else x.pointTimes q - tm - sp) = v), ∀ (H : Heap) (locs : List Loc) (ls : Array Slot) (hP : va_P D vwCl (MW dA h ad x) H) (hD : va_D A (MW dA h ad x)) (hS : va_S A s.heap H locs) (hl : lv_has ls 23 [(4, .long (lN bu)), (6, .int (nI w)), (7, .int (nI n)), (8, .long tm), (10, .long sp), (12, .long vl), (14, .int fz), (15, .int (nI fb)), (16, .int (nI q)), (0, .ref h), (1, .int o1), (2, .int o2), (3, .int (bI sn)), (17, .long (x.pointTimes q - tm)), (19, .long (x.pointValues q ^^^ vl))]), W p l e ({ frames := 2, cells := 0, slots := 0, locals := 21 } : Room) s m ([.ref h, .int o1, .int o2, .int (bI sn)] : List Value).toArray below meth c H locs 0 0 (MQ below (va_Ql (fun (r9 : Int64) (u9 : Unit) => r9 = lN (x.bA o1 o2 sn x.seriesCount)) (fun (u9 : Unit) t9 => bW D A (MW dA h ad x) t9) A) ([.ref h, .int o1, .int o2, .int (bI sn)] : List Value).toArray s 0 0 A) (F0 m 153 ls [.long v, .long (lN bu)]) := by
                    intro v hv9 H locs ls hP hD hS hl
                    have hPc := hP.sub (ws' := []) [] rfl
                    have hDc := hD.sub (ws' := []) [] (by decide) rfl
                    refine jnI (rnS (As := [.long v]) (rest := [.long (lN bu)]) hx hb hml hown hE hK (hN _ _ hS) hPc hDc (k_turnBits l D dA H.size v) w909 w908 w910 w328 rfl rfl ⟨⟨by decide, by decide⟩, rfl⟩ ⟨(Nat.le_of_ble_eq_true rfl), (Nat.le_of_ble_eq_true rfl)⟩ rfl hl.1 rfl (Nat.le_of_ble_eq_true rfl) d_M_bitsOf_153 ⟨(Nat.le_of_ble_eq_true rfl), (Nat.le_of_ble_eq_true rfl)⟩) hP hD hS hA [] [0, 1, 2, 3, 4, 5, 6, 7, 8, 9, 10, 11, 12, 13, 14, 15, 16, 17, 18, 19, 20, 21, 22, 23, 24, 25, 26, 27, 28, 29, 30, 31, 32, 33, 34, 35, 36, 37, 38] (wr := MW dA h ad x) rfl rfl (by decide) (by decide) (fun r5 u9 H locs hp9 hP hD hS => ?_)
                    have hP : va_P D vwCl (MW dA h ad x) H := hP
                    have hD : va_D A (MW dA h ad x) := hD
                    replace hp9 : nI (tbN v) = r5 := Eq.symm hp9
                    subst hp9
                    have b9 := tbN_le v
                    refine lv_i2l (v := lN (tbN v)) hx hb d_M_bitsOf_156 (nI_l (by omega)) ?_
                    refine lv_ladd hx hb d_M_bitsOf_157 (tpl (y := lN (bu + (tbN v))) (lN_add (bu) (tbN v)) ?_)
                    refine lv_lstore hx hb d_M_bitsOf_158 hl (by decide) rfl (fun ls hl => ?_)
                    have hl : lv_has ls 23 [(4, .long (lN (bu + (tbN v)))), (6, .int (nI w)), (7, .int (nI n)), (8, .long tm), (10, .long sp), (12, .long vl), (14, .int fz), (15, .int (nI fb)), (16, .int (nI q)), (0, .ref h), (1, .int o1), (2, .int o2), (3, .int (bI sn)), (17, .long (x.pointTimes q - tm)), (19, .long (x.pointValues q ^^^ vl))] := hl
                    have J189 : ∀ (hi : Nat) (hh9 : hiN (x.pointValues q ^^^ vl) = hi) (hh8 : hi ≤ 31), ∀ (H : Heap) (locs : List Loc) (ls : Array Slot) (hP : va_P D vwCl (MW dA h ad x) H) (hD : va_D A (MW dA h ad x)) (hS : va_S A s.heap H locs) (hl : lv_has ls 23 [(21, .int (nI hi)), (4, .long (lN (bu + tbN v))), (6, .int (nI w)), (7, .int (nI n)), (8, .long tm), (10, .long sp), (12, .long vl), (14, .int fz), (15, .int (nI fb)), (16, .int (nI q)), (0, .ref h), (1, .int o1), (2, .int o2), (3, .int (bI sn)), (17, .long (x.pointTimes q - tm)), (19, .long (x.pointValues q ^^^ vl))]), W p l e ({ frames := 2, cells := 0, slots := 0, locals := 21 } : Room) s m ([.ref h, .int o1, .int o2, .int (bI sn)] : List Value).toArray below meth c H locs 0 0 (MQ below (va_Ql (fun (r9 : Int64) (u9 : Unit) => r9 = lN (x.bA o1 o2 sn x.seriesCount)) (fun (u9 : Unit) t9 => bW D A (MW dA h ad x) t9) A) ([.ref h, .int o1, .int o2, .int (bI sn)] : List Value).toArray s 0 0 A) (F0 m 189 ls []) := by
                      intro hi hh9 hh8 H locs ls hP hD hS hl
                      have J218 : ∀ (lo : Nat) (hl9 : loN (x.pointValues q ^^^ vl) = lo) (hl8 : lo ≤ 64), ∀ (H : Heap) (locs : List Loc) (ls : Array Slot) (hP : va_P D vwCl (MW dA h ad x) H) (hD : va_D A (MW dA h ad x)) (hS : va_S A s.heap H locs) (hl : lv_has ls 23 [(22, .int (nI lo)), (21, .int (nI hi)), (4, .long (lN (bu + tbN v))), (6, .int (nI w)), (7, .int (nI n)), (8, .long tm), (10, .long sp), (12, .long vl), (14, .int fz), (15, .int (nI fb)), (16, .int (nI q)), (0, .ref h), (1, .int o1), (2, .int o2), (3, .int (bI sn)), (17, .long (x.pointTimes q - tm)), (19, .long (x.pointValues q ^^^ vl))]), W p l e ({ frames := 2, cells := 0, slots := 0, locals := 21 } : Room) s m ([.ref h, .int o1, .int o2, .int (bI sn)] : List Value).toArray below meth c H locs 0 0 (MQ below (va_Ql (fun (r9 : Int64) (u9 : Unit) => r9 = lN (x.bA o1 o2 sn x.seriesCount)) (fun (u9 : Unit) t9 => bW D A (MW dA h ad x) t9) A) ([.ref h, .int o1, .int o2, .int (bI sn)] : List Value).toArray s 0 0 A) (F0 m 218 ls []) := by
                        intro lo hl9 hl8 H locs ls hP hD hS hl
                        refine lv_lload hx hb d_M_bitsOf_218 (lv_at hl 16 rfl) ?_
                        refine lv_lconst (v := 0) hx hb d_M_bitsOf_220 (by decide) ?_
                        refine W.lcmp hx hb d_M_bitsOf_221 ?_
                        refine lv_if_ne hx hb d_M_bitsOf_222 (tgt := 234) rfl (fun g7 => ?_) (fun g7 => ?_)
                        · have g7 := mt (lg_cmp_eq _ _).mpr g7
                          refine lv_iload hx hb d_M_bitsOf_234 (lv_at hl 8 rfl) ?_
                          refine lv_if_lt hx hb d_M_bitsOf_236 (tgt := 274) rfl (fun g8 => ?_) (fun g8 => ?_)
                          · have g8 := g8
                            refine lv_iload hx hb d_M_bitsOf_274 (lv_at hl 1 rfl) ?_
                            refine lv_istore hx hb d_M_bitsOf_276 hl (by decide) rfl (fun ls hl => ?_)
                            have hl : lv_has ls 23 [(14, .int (nI hi)), (22, .int (nI lo)), (21, .int (nI hi)), (4, .long (lN (bu + tbN v))), (6, .int (nI w)), (7, .int (nI n)), (8, .long tm), (10, .long sp), (12, .long vl), (15, .int (nI fb)), (16, .int (nI q)), (0, .ref h), (1, .int o1), (2, .int o2), (3, .int (bI sn)), (17, .long (x.pointTimes q - tm)), (19, .long (x.pointValues q ^^^ vl))] := hl
                            have hb9 := hilo (v := x.pointValues q ^^^ vl) g7
                            refine lv_bipush (v := 64) hx hb d_M_bitsOf_278 (by decide) ?_
                            refine lv_iload hx hb d_M_bitsOf_280 (lv_at hl 2 rfl) ?_
                            refine lv_isub hx hb d_M_bitsOf_282 (tpi (y := nI (64 - hi)) (pk_sub (a := 64) (b := hi) (by omega)) ?_)
                            refine lv_iload hx hb d_M_bitsOf_283 (lv_at hl 1 rfl) ?_
                            refine lv_isub hx hb d_M_bitsOf_285 (tpi (y := nI ((64 - hi) - lo)) (pk_sub (a := 64 - hi) (b := lo) (by omega)) ?_)
                            refine lv_istore hx hb d_M_bitsOf_286 hl (by decide) rfl (fun ls hl => ?_)
                            have hl : lv_has ls 23 [(15, .int (nI ((64 - hi) - lo))), (14, .int (nI hi)), (22, .int (nI lo)), (21, .int (nI hi)), (4, .long (lN (bu + tbN v))), (6, .int (nI w)), (7, .int (nI n)), (8, .long tm), (10, .long sp), (12, .long vl), (16, .int (nI q)), (0, .ref h), (1, .int o1), (2, .int o2), (3, .int (bI sn)), (17, .long (x.pointTimes q - tm)), (19, .long (x.pointValues q ^^^ vl))] := hl
                            refine lv_lload hx hb d_M_bitsOf_288 (lv_at hl 4 rfl) ?_
                            refine lv_ldc2 (v := 13) hx hb hown (hE.t w911 rfl) d_M_bitsOf_290 ?_
                            refine lv_iload hx hb d_M_bitsOf_293 (lv_at hl 0 rfl) ?_
                            refine lv_i2l (v := lN ((64 - hi) - lo)) hx hb d_M_bitsOf_295 (nI_l (by omega)) ?_
                            refine lv_ladd hx hb d_M_bitsOf_296 (tpl (y := lN (13 + ((64 - hi) - lo))) (lN_add (13) ((64 - hi) - lo)) ?_)
                            refine lv_ladd hx hb d_M_bitsOf_297 (tpl (y := lN (bu + tbN v + (13 + ((64 - hi) - lo)))) (lN_add (bu + tbN v) (13 + ((64 - hi) - lo))) ?_)
                            refine lv_lstore hx hb d_M_bitsOf_298 hl (by decide) rfl (fun ls hl => ?_)
                            have hl : lv_has ls 23 [(4, .long (lN (bu + tbN v + (13 + ((64 - hi) - lo))))), (15, .int (nI ((64 - hi) - lo))), (14, .int (nI hi)), (22, .int (nI lo)), (21, .int (nI hi)), (6, .int (nI w)), (7, .int (nI n)), (8, .long tm), (10, .long sp), (12, .long vl), (16, .int (nI q)), (0, .ref h), (1, .int o1), (2, .int o2), (3, .int (bI sn)), (17, .long (x.pointTimes q - tm)), (19, .long (x.pointValues q ^^^ vl))] := hl
                            exact J300 (nI hi) ((64 - hi) - lo) (bu + tbN v + (13 + ((64 - hi) - lo))) (b3_n g4 g7 hv9 hh9 hl9 (Or.inl g8)) (by omega) H _ ls hP hD hS (lv_sub hl [2, 1, 0, 5, 6, 7, 8, 9, 10, 11, 12, 13, 14, 15, 16] rfl)
                          · have g8 := g8
                            refine lv_iload hx hb d_M_bitsOf_239 (lv_at hl 1 rfl) ?_
                            refine lv_iload hx hb d_M_bitsOf_241 (lv_at hl 8 rfl) ?_
                            refine lv_icmp_lt hx hb d_M_bitsOf_243 (tgt := 274) rfl (fun g9 => ?_) (fun g9 => ?_)
                            · have g9 := g9
                              refine lv_iload hx hb d_M_bitsOf_274 (lv_at hl 1 rfl) ?_
                              refine lv_istore hx hb d_M_bitsOf_276 hl (by decide) rfl (fun ls hl => ?_)
                              have hl : lv_has ls 23 [(14, .int (nI hi)), (22, .int (nI lo)), (21, .int (nI hi)), (4, .long (lN (bu + tbN v))), (6, .int (nI w)), (7, .int (nI n)), (8, .long tm), (10, .long sp), (12, .long vl), (15, .int (nI fb)), (16, .int (nI q)), (0, .ref h), (1, .int o1), (2, .int o2), (3, .int (bI sn)), (17, .long (x.pointTimes q - tm)), (19, .long (x.pointValues q ^^^ vl))] := hl
                              have hb9 := hilo (v := x.pointValues q ^^^ vl) g7
                              refine lv_bipush (v := 64) hx hb d_M_bitsOf_278 (by decide) ?_
                              refine lv_iload hx hb d_M_bitsOf_280 (lv_at hl 2 rfl) ?_
                              refine lv_isub hx hb d_M_bitsOf_282 (tpi (y := nI (64 - hi)) (pk_sub (a := 64) (b := hi) (by omega)) ?_)
                              refine lv_iload hx hb d_M_bitsOf_283 (lv_at hl 1 rfl) ?_
                              refine lv_isub hx hb d_M_bitsOf_285 (tpi (y := nI ((64 - hi) - lo)) (pk_sub (a := 64 - hi) (b := lo) (by omega)) ?_)
                              refine lv_istore hx hb d_M_bitsOf_286 hl (by decide) rfl (fun ls hl => ?_)
                              have hl : lv_has ls 23 [(15, .int (nI ((64 - hi) - lo))), (14, .int (nI hi)), (22, .int (nI lo)), (21, .int (nI hi)), (4, .long (lN (bu + tbN v))), (6, .int (nI w)), (7, .int (nI n)), (8, .long tm), (10, .long sp), (12, .long vl), (16, .int (nI q)), (0, .ref h), (1, .int o1), (2, .int o2), (3, .int (bI sn)), (17, .long (x.pointTimes q - tm)), (19, .long (x.pointValues q ^^^ vl))] := hl
                              refine lv_lload hx hb d_M_bitsOf_288 (lv_at hl 4 rfl) ?_
                              refine lv_ldc2 (v := 13) hx hb hown (hE.t w911 rfl) d_M_bitsOf_290 ?_
                              refine lv_iload hx hb d_M_bitsOf_293 (lv_at hl 0 rfl) ?_
                              refine lv_i2l (v := lN ((64 - hi) - lo)) hx hb d_M_bitsOf_295 (nI_l (by omega)) ?_
                              refine lv_ladd hx hb d_M_bitsOf_296 (tpl (y := lN (13 + ((64 - hi) - lo))) (lN_add (13) ((64 - hi) - lo)) ?_)
                              refine lv_ladd hx hb d_M_bitsOf_297 (tpl (y := lN (bu + tbN v + (13 + ((64 - hi) - lo)))) (lN_add (bu + tbN v) (13 + ((64 - hi) - lo))) ?_)
                              refine lv_lstore hx hb d_M_bitsOf_298 hl (by decide) rfl (fun ls hl => ?_)
                              have hl : lv_has ls 23 [(4, .long (lN (bu + tbN v + (13 + ((64 - hi) - lo))))), (15, .int (nI ((64 - hi) - lo))), (14, .int (nI hi)), (22, .int (nI lo)), (21, .int (nI hi)), (6, .int (nI w)), (7, .int (nI n)), (8, .long tm), (10, .long sp), (12, .long vl), (16, .int (nI q)), (0, .ref h), (1, .int o1), (2, .int o2), (3, .int (bI sn)), (17, .long (x.pointTimes q - tm)), (19, .long (x.pointValues q ^^^ vl))] := hl
                              exact J300 (nI hi) ((64 - hi) - lo) (bu + tbN v + (13 + ((64 - hi) - lo))) (b3_n g4 g7 hv9 hh9 hl9 (Or.inr (Or.inl g9))) (by omega) H _ ls hP hD hS (lv_sub hl [2, 1, 0, 5, 6, 7, 8, 9, 10, 11, 12, 13, 14, 15, 16] rfl)
                            · have g9 := g9
                              refine lv_iload hx hb d_M_bitsOf_246 (lv_at hl 0 rfl) ?_
                              refine lv_bipush (v := 64) hx hb d_M_bitsOf_248 (by decide) ?_
                              refine lv_iload hx hb d_M_bitsOf_250 (lv_at hl 8 rfl) ?_
                              refine lv_isub hx hb d_M_bitsOf_252 ?_
                              refine lv_iload hx hb d_M_bitsOf_253 (lv_at hl 9 rfl) ?_
                              refine lv_isub hx hb d_M_bitsOf_255 ?_
                              refine lv_icmp_lt hx hb d_M_bitsOf_256 (tgt := 274) rfl (fun g10 => ?_) (fun g10 => ?_)
                              · have g10 := g10
                                refine lv_iload hx hb d_M_bitsOf_274 (lv_at hl 1 rfl) ?_
                                refine lv_istore hx hb d_M_bitsOf_276 hl (by decide) rfl (fun ls hl => ?_)
                                have hl : lv_has ls 23 [(14, .int (nI hi)), (22, .int (nI lo)), (21, .int (nI hi)), (4, .long (lN (bu + tbN v))), (6, .int (nI w)), (7, .int (nI n)), (8, .long tm), (10, .long sp), (12, .long vl), (15, .int (nI fb)), (16, .int (nI q)), (0, .ref h), (1, .int o1), (2, .int o2), (3, .int (bI sn)), (17, .long (x.pointTimes q - tm)), (19, .long (x.pointValues q ^^^ vl))] := hl
                                have hb9 := hilo (v := x.pointValues q ^^^ vl) g7
                                refine lv_bipush (v := 64) hx hb d_M_bitsOf_278 (by decide) ?_
                                refine lv_iload hx hb d_M_bitsOf_280 (lv_at hl 2 rfl) ?_
                                refine lv_isub hx hb d_M_bitsOf_282 (tpi (y := nI (64 - hi)) (pk_sub (a := 64) (b := hi) (by omega)) ?_)
                                refine lv_iload hx hb d_M_bitsOf_283 (lv_at hl 1 rfl) ?_
                                refine lv_isub hx hb d_M_bitsOf_285 (tpi (y := nI ((64 - hi) - lo)) (pk_sub (a := 64 - hi) (b := lo) (by omega)) ?_)
                                refine lv_istore hx hb d_M_bitsOf_286 hl (by decide) rfl (fun ls hl => ?_)
                                have hl : lv_has ls 23 [(15, .int (nI ((64 - hi) - lo))), (14, .int (nI hi)), (22, .int (nI lo)), (21, .int (nI hi)), (4, .long (lN (bu + tbN v))), (6, .int (nI w)), (7, .int (nI n)), (8, .long tm), (10, .long sp), (12, .long vl), (16, .int (nI q)), (0, .ref h), (1, .int o1), (2, .int o2), (3, .int (bI sn)), (17, .long (x.pointTimes q - tm)), (19, .long (x.pointValues q ^^^ vl))] := hl
                                refine lv_lload hx hb d_M_bitsOf_288 (lv_at hl 4 rfl) ?_
                                refine lv_ldc2 (v := 13) hx hb hown (hE.t w911 rfl) d_M_bitsOf_290 ?_
                                refine lv_iload hx hb d_M_bitsOf_293 (lv_at hl 0 rfl) ?_
                                refine lv_i2l (v := lN ((64 - hi) - lo)) hx hb d_M_bitsOf_295 (nI_l (by omega)) ?_
                                refine lv_ladd hx hb d_M_bitsOf_296 (tpl (y := lN (13 + ((64 - hi) - lo))) (lN_add (13) ((64 - hi) - lo)) ?_)
                                refine lv_ladd hx hb d_M_bitsOf_297 (tpl (y := lN (bu + tbN v + (13 + ((64 - hi) - lo)))) (lN_add (bu + tbN v) (13 + ((64 - hi) - lo))) ?_)
                                refine lv_lstore hx hb d_M_bitsOf_298 hl (by decide) rfl (fun ls hl => ?_)
                                have hl : lv_has ls 23 [(4, .long (lN (bu + tbN v + (13 + ((64 - hi) - lo))))), (15, .int (nI ((64 - hi) - lo))), (14, .int (nI hi)), (22, .int (nI lo)), (21, .int (nI hi)), (6, .int (nI w)), (7, .int (nI n)), (8, .long tm), (10, .long sp), (12, .long vl), (16, .int (nI q)), (0, .ref h), (1, .int o1), (2, .int o2), (3, .int (bI sn)), (17, .long (x.pointTimes q - tm)), (19, .long (x.pointValues q ^^^ vl))] := hl
                                exact J300 (nI hi) ((64 - hi) - lo) (bu + tbN v + (13 + ((64 - hi) - lo))) (b3_n g4 g7 hv9 hh9 hl9 (Or.inr (Or.inr g10))) (by omega) H _ ls hP hD hS (lv_sub hl [2, 1, 0, 5, 6, 7, 8, 9, 10, 11, 12, 13, 14, 15, 16] rfl)
                              · have g10 := g10
                                refine lv_lload hx hb d_M_bitsOf_259 (lv_at hl 2 rfl) ?_
                                refine lv_ldc2 (v := 2) hx hb hown (hE.t w912 rfl) d_M_bitsOf_261 ?_
                                refine lv_iload hx hb d_M_bitsOf_264 (lv_at hl 9 rfl) ?_
                                refine lv_i2l (v := lN (fb)) hx hb d_M_bitsOf_266 (nI_l (by omega)) ?_
                                refine lv_ladd hx hb d_M_bitsOf_267 (tpl (y := lN (2 + fb)) (lN_add (2) (fb)) ?_)
                                refine lv_ladd hx hb d_M_bitsOf_268 (tpl (y := lN (bu + tbN v + (2 + fb))) (lN_add (bu + tbN v) (2 + fb)) ?_)
                                refine lv_lstore hx hb d_M_bitsOf_269 hl (by decide) rfl (fun ls hl => ?_)
                                have hl : lv_has ls 23 [(4, .long (lN (bu + tbN v + (2 + fb)))), (22, .int (nI lo)), (21, .int (nI hi)), (6, .int (nI w)), (7, .int (nI n)), (8, .long tm), (10, .long sp), (12, .long vl), (14, .int fz), (15, .int (nI fb)), (16, .int (nI q)), (0, .ref h), (1, .int o1), (2, .int o2), (3, .int (bI sn)), (17, .long (x.pointTimes q - tm)), (19, .long (x.pointValues q ^^^ vl))] := hl
                                refine lv_goto hx hb d_M_bitsOf_271 (tgt := 300) rfl ?_
                                exact J300 fz fb (bu + tbN v + (2 + fb)) (b3_k g4 g7 hv9 hh9 hl9 g8 g9 g10) (by omega) H _ ls hP hD hS (lv_sub hl [8, 9, 0, 3, 4, 5, 6, 7, 10, 11, 12, 13, 14, 15, 16] rfl)
                        · have g7 := (lg_cmp_eq _ _).mp g7
                          refine lv_lload hx hb d_M_bitsOf_225 (lv_at hl 2 rfl) ?_
                          refine lv_lconst (v := 1) hx hb d_M_bitsOf_227 (by decide) ?_
                          refine lv_ladd hx hb d_M_bitsOf_228 (tpl (y := lN (bu + tbN v + 1)) (lN_add (bu + tbN v) (1)) ?_)
                          refine lv_lstore hx hb d_M_bitsOf_229 hl (by decide) rfl (fun ls hl => ?_)
                          have hl : lv_has ls 23 [(4, .long (lN (bu + tbN v + 1))), (22, .int (nI lo)), (21, .int (nI hi)), (6, .int (nI w)), (7, .int (nI n)), (8, .long tm), (10, .long sp), (12, .long vl), (14, .int fz), (15, .int (nI fb)), (16, .int (nI q)), (0, .ref h), (1, .int o1), (2, .int o2), (3, .int (bI sn)), (17, .long (x.pointTimes q - tm)), (19, .long (x.pointValues q ^^^ vl))] := hl
                          refine lv_goto hx hb d_M_bitsOf_231 (tgt := 300) rfl ?_
                          exact J300 fz fb (bu + tbN v + 1) (b3_z g4 g7 hv9) (by omega) H _ ls hP hD hS (lv_sub hl [8, 9, 0, 3, 4, 5, 6, 7, 10, 11, 12, 13, 14, 15, 16] rfl)
                      refine lv_iconst (v := 0) hx hb d_M_bitsOf_189 (by decide) ?_
                      refine lv_istore hx hb d_M_bitsOf_190 hl (by decide) rfl (fun ls hl => ?_)
                      have hl : lv_has ls 23 [(22, .int 0), (21, .int (nI hi)), (4, .long (lN (bu + tbN v))), (6, .int (nI w)), (7, .int (nI n)), (8, .long tm), (10, .long sp), (12, .long vl), (14, .int fz), (15, .int (nI fb)), (16, .int (nI q)), (0, .ref h), (1, .int o1), (2, .int o2), (3, .int (bI sn)), (17, .long (x.pointTimes q - tm)), (19, .long (x.pointValues q ^^^ vl))] := hl
                      have L192 : ∀ (k9 : Nat) (j : Nat) (k3 : j ≤ 64) (k4 : loG (x.pointValues q ^^^ vl) (64 - j) j = loN (x.pointValues q ^^^ vl)) (hk9 : 64 - j = k9), ∀ (H : Heap) (locs : List Loc) (ls : Array Slot) (hP : va_P D vwCl (MW dA h ad x) H) (hD : va_D A (MW dA h ad x)) (hS : va_S A s.heap H locs) (hl : lv_has ls 23 [(22, .int (nI j)), (21, .int (nI hi)), (4, .long (lN (bu + tbN v))), (6, .int (nI w)), (7, .int (nI n)), (8, .long tm), (10, .long sp), (12, .long vl), (14, .int fz), (15, .int (nI fb)), (16, .int (nI q)), (0, .ref h), (1, .int o1), (2, .int o2), (3, .int (bI sn)), (17, .long (x.pointTimes q - tm)), (19, .long (x.pointValues q ^^^ vl))]), W p l e ({ frames := 2, cells := 0, slots := 0, locals := 21 } : Room) s m ([.ref h, .int o1, .int o2, .int (bI sn)] : List Value).toArray below meth c H locs 0 0 (MQ below (va_Ql (fun (r9 : Int64) (u9 : Unit) => r9 = lN (x.bA o1 o2 sn x.seriesCount)) (fun (u9 : Unit) t9 => bW D A (MW dA h ad x) t9) A) ([.ref h, .int o1, .int o2, .int (bI sn)] : List Value).toArray s 0 0 A) (F0 m 192 ls []) := by
                        intro k9
                        induction k9 using Nat.strongRecOn with
                        | ind k9 ih192 =>
                          intro j k3 k4 hk9 H locs ls hP hD hS hl
                          refine lv_iload hx hb d_M_bitsOf_192 (lv_at hl 0 rfl) ?_
                          refine lv_bipush (v := 64) hx hb d_M_bitsOf_194 (by decide) ?_
                          refine lv_icmp_ge hx hb d_M_bitsOf_196 (tgt := 218) rfl (fun g11 => ?_) (fun g11 => ?_)
                          · have g11 := (nI_leI (a := 64) (b := j) (by omega) (by omega)).mp g11
                            exact J218 j (by rw [← k4]; first | exact loG_n (by assumption) | (rw [show j = 64 by omega]; rfl)) (by omega) H _ ls hP hD hS (lv_sub hl [0, 1, 2, 3, 4, 5, 6, 7, 8, 9, 10, 11, 12, 13, 14, 15, 16] rfl)
                          · have g11 := mt (nI_leI (a := 64) (b := j) (by omega) (by omega)).mpr g11
                            refine lv_lload hx hb d_M_bitsOf_199 (lv_at hl 16 rfl) ?_
                            refine lv_bipush (v := 63) hx hb d_M_bitsOf_201 (by decide) ?_
                            refine lv_iload hx hb d_M_bitsOf_203 (lv_at hl 0 rfl) ?_
                            refine lv_isub hx hb d_M_bitsOf_205 (tpi (y := nI (63 - j)) (pk_sub (a := 63) (b := j) (by omega)) ?_)
                            refine lv_lshl hx hb d_M_bitsOf_206 rfl ?_
                            refine lv_lconst (v := 0) hx hb d_M_bitsOf_207 (by decide) ?_
                            refine W.lcmp hx hb d_M_bitsOf_208 ?_
                            refine lv_if_ne hx hb d_M_bitsOf_209 (tgt := 218) rfl (fun g12 => ?_) (fun g12 => ?_)
                            · have g12 := mt (lg_cmp_eq _ _).mpr g12
                              exact J218 j (by rw [← k4]; first | exact loG_n (by assumption) | (rw [show j = 64 by omega]; rfl)) (by omega) H _ ls hP hD hS (lv_sub hl [0, 1, 2, 3, 4, 5, 6, 7, 8, 9, 10, 11, 12, 13, 14, 15, 16] rfl)
                            · have g12 := (lg_cmp_eq _ _).mp g12
                              refine lv_iinc (k := 0) (v := nI (j + 1)) hx hb d_M_bitsOf_212 hl rfl (iincN (j) 1 1 (by decide)) (by decide) rfl (fun ls hl => ?_)
                              have hl : lv_has ls 23 [(22, .int (nI (j + 1))), (21, .int (nI hi)), (4, .long (lN (bu + tbN v))), (6, .int (nI w)), (7, .int (nI n)), (8, .long tm), (10, .long sp), (12, .long vl), (14, .int fz), (15, .int (nI fb)), (16, .int (nI q)), (0, .ref h), (1, .int o1), (2, .int o2), (3, .int (bI sn)), (17, .long (x.pointTimes q - tm)), (19, .long (x.pointValues q ^^^ vl))] := hl
                              refine lv_goto hx hb d_M_bitsOf_215 (tgt := 192) rfl ?_
                              exact ih192 _ (by omega) (j + 1) (by omega) (by rw [← k4, loG_s (w := 64 - j) (by omega) (by assumption), show 64 - j - 1 = 64 - (j + 1) by omega]) rfl H _ ls hP hD hS (lv_sub hl [0, 1, 2, 3, 4, 5, 6, 7, 8, 9, 10, 11, 12, 13, 14, 15, 16] rfl)
                      exact L192 _ 0 (by omega) rfl rfl H _ ls hP hD hS (lv_sub hl [0, 1, 2, 3, 4, 5, 6, 7, 8, 9, 10, 11, 12, 13, 14, 15, 16] rfl)
                    refine lv_iconst (v := 0) hx hb d_M_bitsOf_160 (by decide) ?_
                    refine lv_istore hx hb d_M_bitsOf_161 hl (by decide) rfl (fun ls hl => ?_)
                    have hl : lv_has ls 23 [(21, .int 0), (4, .long (lN (bu + (tbN v)))), (6, .int (nI w)), (7, .int (nI n)), (8, .long tm), (10, .long sp), (12, .long vl), (14, .int fz), (15, .int (nI fb)), (16, .int (nI q)), (0, .ref h), (1, .int o1), (2, .int o2), (3, .int (bI sn)), (17, .long (x.pointTimes q - tm)), (19, .long (x.pointValues q ^^^ vl))] := hl
                    have L163 : ∀ (k9 : Nat) (k : Nat) (k1 : k ≤ 31) (k2 : hiG (x.pointValues q ^^^ vl) (31 - k) k = hiN (x.pointValues q ^^^ vl)) (hk9 : 31 - k = k9), ∀ (H : Heap) (locs : List Loc) (ls : Array Slot) (hP : va_P D vwCl (MW dA h ad x) H) (hD : va_D A (MW dA h ad x)) (hS : va_S A s.heap H locs) (hl : lv_has ls 23 [(21, .int (nI k)), (4, .long (lN (bu + tbN v))), (6, .int (nI w)), (7, .int (nI n)), (8, .long tm), (10, .long sp), (12, .long vl), (14, .int fz), (15, .int (nI fb)), (16, .int (nI q)), (0, .ref h), (1, .int o1), (2, .int o2), (3, .int (bI sn)), (17, .long (x.pointTimes q - tm)), (19, .long (x.pointValues q ^^^ vl))]), W p l e ({ frames := 2, cells := 0, slots := 0, locals := 21 } : Room) s m ([.ref h, .int o1, .int o2, .int (bI sn)] : List Value).toArray below meth c H locs 0 0 (MQ below (va_Ql (fun (r9 : Int64) (u9 : Unit) => r9 = lN (x.bA o1 o2 sn x.seriesCount)) (fun (u9 : Unit) t9 => bW D A (MW dA h ad x) t9) A) ([.ref h, .int o1, .int o2, .int (bI sn)] : List Value).toArray s 0 0 A) (F0 m 163 ls []) := by
                      intro k9
                      induction k9 using Nat.strongRecOn with
                      | ind k9 ih163 =>
                        intro k k1 k2 hk9 H locs ls hP hD hS hl
                        refine lv_iload hx hb d_M_bitsOf_163 (lv_at hl 0 rfl) ?_
                        refine lv_bipush (v := 31) hx hb d_M_bitsOf_165 (by decide) ?_
                        refine lv_icmp_ge hx hb d_M_bitsOf_167 (tgt := 189) rfl (fun g13 => ?_) (fun g13 => ?_)
                        · have g13 := (nI_leI (a := 31) (b := k) (by omega) (by omega)).mp g13
                          exact J189 k (by rw [← k2]; first | exact hiG_n (by assumption) | (rw [show k = 31 by omega]; rfl)) (by omega) H _ ls hP hD hS (lv_sub hl [0, 1, 2, 3, 4, 5, 6, 7, 8, 9, 10, 11, 12, 13, 14, 15] rfl)
                        · have g13 := mt (nI_leI (a := 31) (b := k) (by omega) (by omega)).mpr g13
                          refine lv_lload hx hb d_M_bitsOf_170 (lv_at hl 15 rfl) ?_
                          refine lv_bipush (v := 63) hx hb d_M_bitsOf_172 (by decide) ?_
                          refine lv_iload hx hb d_M_bitsOf_174 (lv_at hl 0 rfl) ?_
                          refine lv_isub hx hb d_M_bitsOf_176 (tpi (y := nI (63 - k)) (pk_sub (a := 63) (b := k) (by omega)) ?_)
                          refine lv_lshr hx hb d_M_bitsOf_177 rfl ?_
                          refine lv_lconst (v := 0) hx hb d_M_bitsOf_178 (by decide) ?_
                          refine W.lcmp hx hb d_M_bitsOf_179 ?_
                          refine lv_if_ne hx hb d_M_bitsOf_180 (tgt := 189) rfl (fun g14 => ?_) (fun g14 => ?_)
                          · have g14 := mt (lg_cmp_eq _ _).mpr g14
                            exact J189 k (by rw [← k2]; first | exact hiG_n (by assumption) | (rw [show k = 31 by omega]; rfl)) (by omega) H _ ls hP hD hS (lv_sub hl [0, 1, 2, 3, 4, 5, 6, 7, 8, 9, 10, 11, 12, 13, 14, 15] rfl)
                          · have g14 := (lg_cmp_eq _ _).mp g14
                            refine lv_iinc (k := 0) (v := nI (k + 1)) hx hb d_M_bitsOf_183 hl rfl (iincN (k) 1 1 (by decide)) (by decide) rfl (fun ls hl => ?_)
                            have hl : lv_has ls 23 [(21, .int (nI (k + 1))), (4, .long (lN (bu + tbN v))), (6, .int (nI w)), (7, .int (nI n)), (8, .long tm), (10, .long sp), (12, .long vl), (14, .int fz), (15, .int (nI fb)), (16, .int (nI q)), (0, .ref h), (1, .int o1), (2, .int o2), (3, .int (bI sn)), (17, .long (x.pointTimes q - tm)), (19, .long (x.pointValues q ^^^ vl))] := hl
                            refine lv_goto hx hb d_M_bitsOf_186 (tgt := 163) rfl ?_
                            exact ih163 _ (by omega) (k + 1) (by omega) (by rw [← k2, hiG_s (w := 31 - k) (by omega) (by assumption), show 31 - k - 1 = 31 - (k + 1) by omega]) rfl H _ ls hP hD hS (lv_sub hl [0, 1, 2, 3, 4, 5, 6, 7, 8, 9, 10, 11, 12, 13, 14, 15] rfl)
                    exact L163 _ 0 (by omega) rfl rfl H _ ls hP hD hS (lv_sub hl [0, 1, 2, 3, 4, 5, 6, 7, 8, 9, 10, 11, 12, 13, 14, 15] rfl)
                  refine lv_lload hx hb d_M_bitsOf_135 (lv_at hl 2 rfl) ?_
                  refine lv_iload hx hb d_M_bitsOf_137 (lv_at hl 4 rfl) ?_
                  refine lv_iconst (v := 1) hx hb d_M_bitsOf_139 (by decide) ?_
                  refine lv_icmp_ne hx hb d_M_bitsOf_140 (tgt := 148) rfl (fun g15 => ?_) (fun g15 => ?_)
                  · have g15 := mt (nI_eq (a := n) (b := 1) (by omega) (by omega)).mpr g15
                    refine lv_lload hx hb d_M_bitsOf_148 (lv_at hl 1 rfl) ?_
                    refine lv_lload hx hb d_M_bitsOf_150 (lv_at hl 6 rfl) ?_
                    refine lv_lsub hx hb d_M_bitsOf_152 ?_
                    exact J153 (((x.pointTimes q) - tm) - sp) (by simp [*]) H _ ls hP hD hS (lv_sub hl [2, 3, 4, 5, 6, 7, 8, 9, 10, 11, 12, 13, 14, 1, 0] rfl)
                  · have g15 := (nI_eq (a := n) (b := 1) (by omega) (by omega)).mp g15
                    refine lv_lload hx hb d_M_bitsOf_143 (lv_at hl 1 rfl) ?_
                    refine lv_goto hx hb d_M_bitsOf_145 (tgt := 153) rfl ?_
                    exact J153 ((x.pointTimes q) - tm) (by simp [*]) H _ ls hP hD hS (lv_sub hl [2, 3, 4, 5, 6, 7, 8, 9, 10, 11, 12, 13, 14, 1, 0] rfl)
                · have g4 := (nI_eq (a := n) (b := 0) (by omega) (by decide)).mp g4
                  refine lv_lload hx hb d_M_bitsOf_124 (lv_at hl 2 rfl) ?_
                  refine lv_ldc2 (v := 168) hx hb hown (hE.t w913 rfl) d_M_bitsOf_126 ?_
                  refine lv_ladd hx hb d_M_bitsOf_129 (tpl (y := lN (bu + 168)) (lN_add (bu) (168)) ?_)
                  refine lv_lstore hx hb d_M_bitsOf_130 hl (by decide) rfl (fun ls hl => ?_)
                  have hl : lv_has ls 23 [(4, .long (lN (bu + 168))), (19, .long ((x.pointValues q) ^^^ vl)), (17, .long ((x.pointTimes q) - tm)), (6, .int (nI w)), (7, .int (nI n)), (8, .long tm), (10, .long sp), (12, .long vl), (14, .int fz), (15, .int (nI fb)), (16, .int (nI q)), (0, .ref h), (1, .int o1), (2, .int o2), (3, .int (bI sn))] := hl
                  refine lv_goto hx hb d_M_bitsOf_132 (tgt := 300) rfl ?_
                  exact J300 fz fb (bu + 168) (b3_0 g4) (by omega) H _ ls hP hD hS (lv_sub hl [8, 9, 0, 3, 4, 5, 6, 7, 10, 11, 12, 13, 14, 2, 1] rfl)
              refine lv_aload_n hx hb d_M_bitsOf_45 rfl (lv_at hl 9 rfl) ?_
              refine gF (v := .ref (ad 17)) hx hb hown hE hK hP 0 rfl rfl layM 17 (by decide) w503 rfl d_M_bitsOf_46 ?_
              refine lv_iload hx hb d_M_bitsOf_49 (lv_at hl 8 rfl) ?_
              refine nild (f := (fun z9 => nI (x.pointSeries z9))) hx hb hK hP 6 1 rfl rfl (q) (by omega) (by decide) d_M_bitsOf_51 ?_
              refine lv_iload hx hb d_M_bitsOf_52 (lv_at hl 1 rfl) ?_
              have b1 := hs q (by omega)
              refine lv_icmp_ne hx hb d_M_bitsOf_54 (tgt := 334) rfl (fun g16 => ?_) (fun g16 => ?_)
              · have g16 := mt (nI_eq (a := x.pointSeries q) (b := w) (by omega) (by omega)).mpr g16
                refine lv_iinc (k := 8) (v := nI (q + 1)) hx hb d_M_bitsOf_334 hl rfl (iincN (q) 1 1 (by decide)) (by decide) rfl (fun ls hl => ?_)
                have hl : lv_has ls 23 [(16, .int (nI (q + 1))), (4, .long (lN bu)), (6, .int (nI w)), (7, .int (nI n)), (8, .long tm), (10, .long sp), (12, .long vl), (14, .int fz), (15, .int (nI fb)), (0, .ref h), (1, .int o1), (2, .int o2), (3, .int (bI sn))] := hl
                refine lv_goto hx hb d_M_bitsOf_337 (tgt := 36) rfl ?_
                exact ih36 _ (by omega) (q + 1) n tm sp vl fz fb bu (by omega) (bP_f m2 (by simp [MS.sel, *])) (by omega) (by omega) rfl H _ ls hP hD hS (lv_sub hl [1, 2, 3, 4, 5, 6, 7, 8, 0, 9, 10, 11, 12] rfl)
              · have g16 := (nI_eq (a := x.pointSeries q) (b := w) (by omega) (by omega)).mp g16
                refine lv_aload_n hx hb d_M_bitsOf_57 rfl (lv_at hl 9 rfl) ?_
                refine gF (v := .ref (ad 20)) hx hb hown hE hK hP 0 rfl rfl layM 20 (by decide) w506 rfl d_M_bitsOf_58 ?_
                refine lv_iload hx hb d_M_bitsOf_61 (lv_at hl 8 rfl) ?_
                refine nild (f := x.places) hx hb hK hP 9 1 rfl rfl (q) (by omega) (by decide) d_M_bitsOf_63 ?_
                refine lv_iload_n hx hb d_M_bitsOf_64 rfl (lv_at hl 10 rfl) ?_
                refine lv_icmp_eq hx hb d_M_bitsOf_65 (tgt := 79) rfl (fun g17 => ?_) (fun g17 => ?_)
                · have g17 := g17
                  refine lv_iload_n hx hb d_M_bitsOf_79 rfl (lv_at hl 12 rfl) ?_
                  refine lv_if_eq hx hb d_M_bitsOf_80 (tgt := 95) rfl (fun g18 => ?_) (fun g18 => ?_)
                  · have g18 := bI_0 g18
                    exact J95 (by simp [MS.sel, *]) H _ ls hP hD hS (lv_sub hl [0, 1, 2, 3, 4, 5, 6, 7, 8, 9, 10, 11, 12] rfl)
                  · have g18 := bI_n0 g18
                    refine lv_aload_n hx hb d_M_bitsOf_83 rfl (lv_at hl 9 rfl) ?_
                    refine lv_iload hx hb d_M_bitsOf_84 (lv_at hl 8 rfl) ?_
                    refine jfI (rnV (As := [.int (nI q)]) (rest := []) hx hb hml hown hE hK (hN _ _ hS) hP hD (k_isSeen l D dA H.size h ad x q (show q < 12000 from by omega)) (q0 := 0) rfl rfl w861 w860 w862 w863 w328 rfl rfl ⟨⟨by decide, by decide⟩, rfl⟩ ⟨(Nat.le_of_ble_eq_true rfl), (Nat.le_of_ble_eq_true rfl)⟩ rfl hl.1 rfl (Nat.le_of_ble_eq_true rfl) d_M_bitsOf_86 ⟨(Nat.le_of_ble_eq_true rfl), (Nat.le_of_ble_eq_true rfl)⟩) hP hD hS hA (fun r19 u20 H locs hp9 hP hD hS => ?_)
                    have hP : va_P D vwCl (MW dA h ad x) H := hP
                    have hD : va_D A (MW dA h ad x) := hD
                    replace hp9 : bI (x.seen q) = r19 := Eq.symm hp9
                    subst hp9
                    refine lv_if_ne hx hb d_M_bitsOf_89 (tgt := 95) rfl (fun g21 => ?_) (fun g21 => ?_)
                    · have g21 := bI_n0 g21
                      exact J95 (by simp [MS.sel, *]) H _ ls hP hD hS (lv_sub hl [0, 1, 2, 3, 4, 5, 6, 7, 8, 9, 10, 11, 12] rfl)
                    · have g21 := bI_0 g21
                      refine lv_goto hx hb d_M_bitsOf_92 (tgt := 334) rfl ?_
                      refine lv_iinc (k := 8) (v := nI (q + 1)) hx hb d_M_bitsOf_334 hl rfl (iincN (q) 1 1 (by decide)) (by decide) rfl (fun ls hl => ?_)
                      have hl : lv_has ls 23 [(16, .int (nI (q + 1))), (4, .long (lN bu)), (6, .int (nI w)), (7, .int (nI n)), (8, .long tm), (10, .long sp), (12, .long vl), (14, .int fz), (15, .int (nI fb)), (0, .ref h), (1, .int o1), (2, .int o2), (3, .int (bI sn))] := hl
                      refine lv_goto hx hb d_M_bitsOf_337 (tgt := 36) rfl ?_
                      exact ih36 _ (by omega) (q + 1) n tm sp vl fz fb bu (by omega) (bP_f m2 (by simp [MS.sel, *])) (by omega) (by omega) rfl H _ ls hP hD hS (lv_sub hl [1, 2, 3, 4, 5, 6, 7, 8, 0, 9, 10, 11, 12] rfl)
                · have g17 := g17
                  refine lv_aload_n hx hb d_M_bitsOf_68 rfl (lv_at hl 9 rfl) ?_
                  refine gF (v := .ref (ad 20)) hx hb hown hE hK hP 0 rfl rfl layM 20 (by decide) w506 rfl d_M_bitsOf_69 ?_
                  refine lv_iload hx hb d_M_bitsOf_72 (lv_at hl 8 rfl) ?_
                  refine nild (f := x.places) hx hb hK hP 9 1 rfl rfl (q) (by omega) (by decide) d_M_bitsOf_74 ?_
                  refine lv_iload_n hx hb d_M_bitsOf_75 rfl (lv_at hl 11 rfl) ?_
                  refine lv_icmp_ne hx hb d_M_bitsOf_76 (tgt := 334) rfl (fun g22 => ?_) (fun g22 => ?_)
                  · have g22 := g22
                    refine lv_iinc (k := 8) (v := nI (q + 1)) hx hb d_M_bitsOf_334 hl rfl (iincN (q) 1 1 (by decide)) (by decide) rfl (fun ls hl => ?_)
                    have hl : lv_has ls 23 [(16, .int (nI (q + 1))), (4, .long (lN bu)), (6, .int (nI w)), (7, .int (nI n)), (8, .long tm), (10, .long sp), (12, .long vl), (14, .int fz), (15, .int (nI fb)), (0, .ref h), (1, .int o1), (2, .int o2), (3, .int (bI sn))] := hl
                    refine lv_goto hx hb d_M_bitsOf_337 (tgt := 36) rfl ?_
                    exact ih36 _ (by omega) (q + 1) n tm sp vl fz fb bu (by omega) (bP_f m2 (by simp [MS.sel, *])) (by omega) (by omega) rfl H _ ls hP hD hS (lv_sub hl [1, 2, 3, 4, 5, 6, 7, 8, 0, 9, 10, 11, 12] rfl)
                  · have g22 := g22
                    refine lv_iload_n hx hb d_M_bitsOf_79 rfl (lv_at hl 12 rfl) ?_
                    refine lv_if_eq hx hb d_M_bitsOf_80 (tgt := 95) rfl (fun g23 => ?_) (fun g23 => ?_)
                    · have g23 := bI_0 g23
                      exact J95 (by simp [MS.sel, *]) H _ ls hP hD hS (lv_sub hl [0, 1, 2, 3, 4, 5, 6, 7, 8, 9, 10, 11, 12] rfl)
                    · have g23 := bI_n0 g23
                      refine lv_aload_n hx hb d_M_bitsOf_83 rfl (lv_at hl 9 rfl) ?_
                      refine lv_iload hx hb d_M_bitsOf_84 (lv_at hl 8 rfl) ?_
                      refine jfI (rnV (As := [.int (nI q)]) (rest := []) hx hb hml hown hE hK (hN _ _ hS) hP hD (k_isSeen l D dA H.size h ad x q (show q < 12000 from by omega)) (q0 := 0) rfl rfl w861 w860 w862 w863 w328 rfl rfl ⟨⟨by decide, by decide⟩, rfl⟩ ⟨(Nat.le_of_ble_eq_true rfl), (Nat.le_of_ble_eq_true rfl)⟩ rfl hl.1 rfl (Nat.le_of_ble_eq_true rfl) d_M_bitsOf_86 ⟨(Nat.le_of_ble_eq_true rfl), (Nat.le_of_ble_eq_true rfl)⟩) hP hD hS hA (fun r24 u25 H locs hp9 hP hD hS => ?_)
                      have hP : va_P D vwCl (MW dA h ad x) H := hP
                      have hD : va_D A (MW dA h ad x) := hD
                      replace hp9 : bI (x.seen q) = r24 := Eq.symm hp9
                      subst hp9
                      refine lv_if_ne hx hb d_M_bitsOf_89 (tgt := 95) rfl (fun g26 => ?_) (fun g26 => ?_)
                      · have g26 := bI_n0 g26
                        exact J95 (by simp [MS.sel, *]) H _ ls hP hD hS (lv_sub hl [0, 1, 2, 3, 4, 5, 6, 7, 8, 9, 10, 11, 12] rfl)
                      · have g26 := bI_0 g26
                        refine lv_goto hx hb d_M_bitsOf_92 (tgt := 334) rfl ?_
                        refine lv_iinc (k := 8) (v := nI (q + 1)) hx hb d_M_bitsOf_334 hl rfl (iincN (q) 1 1 (by decide)) (by decide) rfl (fun ls hl => ?_)
                        have hl : lv_has ls 23 [(16, .int (nI (q + 1))), (4, .long (lN bu)), (6, .int (nI w)), (7, .int (nI n)), (8, .long tm), (10, .long sp), (12, .long vl), (14, .int fz), (15, .int (nI fb)), (0, .ref h), (1, .int o1), (2, .int o2), (3, .int (bI sn))] := hl
                        refine lv_goto hx hb d_M_bitsOf_337 (tgt := 36) rfl ?_
                        exact ih36 _ (by omega) (q + 1) n tm sp vl fz fb bu (by omega) (bP_f m2 (by simp [MS.sel, *])) (by omega) (by omega) rfl H _ ls hP hD hS (lv_sub hl [1, 2, 3, 4, 5, 6, 7, 8, 0, 9, 10, 11, 12] rfl)
        exact L36 _ 0 0 0 0 0 (-1) 0 bt (Nat.zero_le _) rfl (Nat.le_refl _) (by decide) rfl H _ ls hP hD hS (lv_sub hl [8, 7, 6, 5, 4, 3, 2, 1, 0, 9, 10, 11, 12] rfl)
  exact L6 _ 0 0 (Nat.zero_le _) rfl rfl H _ ls hP hD hS (lv_sub hl [0, 1, 2, 3, 4, 5] rfl)
end
section
def MS.inP (x : MS) (pn w q : Nat) : Bool := decide (x.pointSeries q = w) && decide (x.places q = nI pn)
theorem chk {F : Nat → Nat} {w n a a2 : Nat} (h : n = cnt w (fun z => decide (0 < F z))) (ha : a2 = a + F w) (hl : ¬ a2 ≤ a) : n + 1 = cnt (w + 1) (fun z => decide (0 < F z)) := by
  rw [cnt_t (decide_eq_true (show 0 < F w by omega)), h]
theorem chk0 {F : Nat → Nat} {w n a a2 : Nat} (h : n = cnt w (fun z => decide (0 < F z))) (ha : a2 = a + F w) (hl : a2 ≤ a) : n = cnt (w + 1) (fun z => decide (0 < F z)) := by
  rw [cnt_f (decide_eq_false (show ¬ 0 < F w by omega)), h]
theorem b3_le (n : Nat) (sp : Int64) (fz : Int32) (fb bt : Nat) (nx xx : Int64) (h : fb ≤ 64) : (b3 n sp fz fb bt nx xx).2.2 ≤ bt + 168 ∧ (b3 n sp fz fb bt nx xx).2.1 ≤ 64 := by
  unfold b3
  have h9 := tbN_le (if n = 1 then nx else nx - sp)
  split
  · exact ⟨Nat.le_refl _, h⟩
  · split
    · exact ⟨by show bt + _ + 1 ≤ _; omega, h⟩
    · split
      · exact ⟨by show bt + _ + (13 + (64 - hiN xx - loN xx)) ≤ _; omega, by show 64 - hiN xx - loN xx ≤ 64; omega⟩
      · exact ⟨by show bt + _ + (2 + fb) ≤ _; omega, h⟩
theorem bP_le (x : MS) (o1 o2 : Int32) (sn : Bool) (w b q : Nat) : (x.bP o1 o2 sn w b q).2.2.2.2.2.2 ≤ b + 168 * q ∧ (x.bP o1 o2 sn w b q).2.2.2.2.2.1 ≤ 64 := by
  induction q with
  | zero => exact ⟨Nat.le_refl _, Nat.zero_le _⟩
  | succ q ih =>
    show (if x.sel o1 o2 sn w q then bS1 (x.bP o1 o2 sn w b q) (x.pointTimes q) (x.pointValues q) else x.bP o1 o2 sn w b q).2.2.2.2.2.2 ≤ _ ∧ (if x.sel o1 o2 sn w q then bS1 (x.bP o1 o2 sn w b q) (x.pointTimes q) (x.pointValues q) else x.bP o1 o2 sn w b q).2.2.2.2.2.1 ≤ 64
    split
    · have h := b3_le (x.bP o1 o2 sn w b q).1 (x.bP o1 o2 sn w b q).2.2.1 (x.bP o1 o2 sn w b q).2.2.2.2.1 (x.bP o1 o2 sn w b q).2.2.2.2.2.1 (x.bP o1 o2 sn w b q).2.2.2.2.2.2 (x.pointTimes q - (x.bP o1 o2 sn w b q).2.1) (x.pointValues q ^^^ (x.bP o1 o2 sn w b q).2.2.2.1) ih.2
      exact ⟨Nat.le_trans h.1 (by have := ih.1; omega), h.2⟩
    · exact ⟨by have := ih.1; omega, ih.2⟩
theorem bA_le (x : MS) (o1 o2 : Int32) (sn : Bool) (h : x.points ≤ 12000) (w : Nat) : x.bA o1 o2 sn w ≤ 2016000 * w := by
  induction w with
  | zero => exact Nat.le_refl _
  | succ w ih =>
    have h1 := (bP_le x o1 o2 sn w (x.bA o1 o2 sn w) x.points).1
    show (x.bP o1 o2 sn w (x.bA o1 o2 sn w) x.points).2.2.2.2.2.2 ≤ _
    omega
theorem blkI {n : Nat} (h : n ≤ 516096000) : ((lN n + 32255) / 32256).toInt32 = nI ((n + 32255) / 32256) := by
  have e1 : lN n + 32255 = lN (n + 32255) := lN_add n 32255
  have e2 : lN (n + 32255) / 32256 = lN ((n + 32255) / 32256) := pk_lDiv (a := n + 32255) (b := 32256) (by omega) (by decide) (by decide)
  rw [e1, e2, lN_i]
theorem seen_mapP {x : MS} {k : Nat} {c : Nat → Bool} {g2 : Nat → Int32} : (MS.s_places x (mapT k c g2 x.places)).seen k = x.seen k := by
  unfold MS.seen
  show (!decide (mapT k c g2 x.places k ≤ -2) && _) = _
  rw [mapT_at _ _ _ (Nat.le_refl k)]
def MS.manyN (x : MS) : Nat := if 0 < x.heads then (x.bA (-1) (-1) true x.seriesCount + 32255) / 32256 else 0
theorem manyN_le {x : MS} (h1 : x.points ≤ 12000) (h2 : x.seriesCount ≤ 256) : x.manyN ≤ 16001 := by
  unfold MS.manyN
  split
  · have := bA_le x (-1) (-1) true h1 x.seriesCount
    omega
  · omega
theorem catS_le (tl : Nat → Nat) (n0 k : Nat) : (catS tl n0 k).1 ≤ n0 + k := by
  induction k with
  | zero => exact Nat.le_refl _
  | succ k ih =>
    show (if (catS tl n0 k).2 < uniN (tl k) then ((catS tl n0 k).1 + 1, 126 - uniN (tl k)) else ((catS tl n0 k).1, (catS tl n0 k).2 - uniN (tl k))).1 ≤ _
    split
    · show (catS tl n0 k).1 + 1 ≤ _; omega
    · show (catS tl n0 k).1 ≤ _; omega
theorem catN_le {x : MS} (h : x.seriesCount ≤ 256) : x.catN ≤ 257 := by
  unfold MS.catN
  have := catS_le x.textLengths (if 0 < x.seriesCount then 1 else 0) x.seriesCount
  have h2 : (if 0 < x.seriesCount then 1 else 0) ≤ 1 := by split <;> decide
  omega
theorem d_M_parcel_8 : decode prog_14_method_49_code 8 = .ok (.iconst 1, 1) := by decide +kernel
theorem d_M_parcel_9 : decode prog_14_method_49_code 9 = .ok (.goto 33, 3) := by decide +kernel
set_option maxHeartbeats 4000000 in
set_option maxRecDepth 100000 in
theorem k_parcel_1 (l : Launch) (D : va_G) (dA : Nat → ClassId) (sz : Nat) (h : Nat) (ad : Nat → Nat) (x : MS) (z : Int32) (k : Int32) (ho : x.on = false) : Met l ⟨"SeriesVaultModel", "parcel", "(II)I"⟩ [Cond.code ⟨"SeriesVaultModel", "parcel", "(II)I"⟩ prog_14_method_49_code 10 (some FieldType.int)] { frames := 1, cells := 0, slots := 0, locals := 0 } (pC D dA [.ref h, .int z, .int k] (MW dA h ad x) sz) (va_Qi (fun (r9 : Int32) (u9 : Unit) => r9 = 0) (fun (u9 : Unit) t9 => bW D (va_A (MW dA h ad x) sz) (MW dA h ad (MS.s_cod x 1)) t9) (va_A (MW dA h ad x) sz)) 0 0 (va_A (MW dA h ad x) sz) := by
  refine mkC (y := ⟨"SeriesVaultModel", "parcel", "(II)I"⟩) (cc := prog_14_method_49_code) (maxL := 10) (av := [.ref h, .int z, .int k]) (ws := MW dA h ad x) (sz := sz) (Qc := fun A => va_Qi (fun (r9 : Int32) (u9 : Unit) => r9 = 0) (fun (u9 : Unit) t9 => bW D A (MW dA h ad (MS.s_cod x 1)) t9) A) (by decide) (Nat.le_of_ble_eq_true rfl) ?_
  intro A p e s m below meth c ls hsz hB
  obtain ⟨hx, hb, hr, hml, hown, hin, hlk, hE, hK, hP, hD, hS, hA, hN, hl⟩ := hB
  have hown : s.vm.findClass "SeriesVaultModel" = some m.cls := hown
  have hl : lv_has ls 10 [(0, .ref h), (1, .int z), (2, .int k)] := hl
  obtain ⟨H, hH⟩ : ∃ z, z = s.heap := ⟨_, rfl⟩
  have hP : va_P D vwCl (MW dA h ad x) H := by rw [hH]; exact hP
  have hS : va_S A s.heap H [] := by rw [hH]; exact hS
  rw [← hH]
  refine lv_aload_n hx hb d_M_parcel_0 rfl (lv_at hl 0 rfl) ?_
  refine lv_aload_n hx hb d_M_parcel_1 rfl (lv_at hl 0 rfl) ?_
  refine gF (v := .int (bI x.on)) hx hb hown hE hK hP 0 rfl rfl layM 7 (by decide) w324 rfl d_M_parcel_2 ?_
  refine lv_if_ne hx hb d_M_parcel_5 (tgt := 12) rfl (fun h9 => absurd (by rw [ho]; decide) h9) (fun _ => ?_)
  refine lv_iconst (v := 1) hx hb d_M_parcel_8 (by decide) ?_
  refine lv_goto hx hb d_M_parcel_9 (tgt := 42) rfl ?_
  refine pF (v := .int 1) hx hb hown hE hK hP hD hS 0 rfl rfl layM tyM tokM nmM 0 (by decide) w319 rfl rfl rfl (Nat.le_of_ble_eq_true rfl) d_M_parcel_42 (fun H locs hP hD hS => ?_)
  have hP : va_P D vwCl (MW dA h ad (MS.s_cod x 1)) H := hP
  have hD : va_D A (MW dA h ad (MS.s_cod x 1)) := hD
  refine lv_aload_n hx hb d_M_parcel_45 rfl (lv_at hl 0 rfl) ?_
  refine gF (v := .int 1) hx hb hown hE hK hP 0 rfl rfl layM 0 (by decide) w319 rfl d_M_parcel_46 ?_
  refine lv_if_le hx hb d_M_parcel_49 (tgt := 54) rfl (fun h9 => absurd h9 (by decide)) (fun _ => ?_)
  refine lv_iconst (v := 0) hx hb d_M_parcel_52 (by decide) ?_
  exact rfI hx hb hr hlk hS () rfl hP hD (Nat.le_of_ble_eq_true rfl) (Nat.le_of_ble_eq_true rfl) d_M_parcel_53
set_option maxHeartbeats 4000000 in
set_option maxRecDepth 100000 in
theorem k_parcel_2 (l : Launch) (D : va_G) (dA : Nat → ClassId) (sz : Nat) (h : Nat) (ad : Nat → Nat) (x : MS) (z : Int32) (k : Int32) (ho : x.on = true) (h0 : z < 0 ∨ nI x.parcelCount ≤ z) : Met l ⟨"SeriesVaultModel", "parcel", "(II)I"⟩ [Cond.code ⟨"SeriesVaultModel", "parcel", "(II)I"⟩ prog_14_method_49_code 10 (some FieldType.int)] { frames := 1, cells := 0, slots := 0, locals := 0 } (pC D dA [.ref h, .int z, .int k] (MW dA h ad x) sz) (va_Qi (fun (r9 : Int32) (u9 : Unit) => r9 = 0) (fun (u9 : Unit) t9 => bW D (va_A (MW dA h ad x) sz) (MW dA h ad (MS.s_cod x 2)) t9) (va_A (MW dA h ad x) sz)) 0 0 (va_A (MW dA h ad x) sz) := by
  refine mkC (y := ⟨"SeriesVaultModel", "parcel", "(II)I"⟩) (cc := prog_14_method_49_code) (maxL := 10) (av := [.ref h, .int z, .int k]) (ws := MW dA h ad x) (sz := sz) (Qc := fun A => va_Qi (fun (r9 : Int32) (u9 : Unit) => r9 = 0) (fun (u9 : Unit) t9 => bW D A (MW dA h ad (MS.s_cod x 2)) t9) A) (by decide) (Nat.le_of_ble_eq_true rfl) ?_
  intro A p e s m below meth c ls hsz hB
  obtain ⟨hx, hb, hr, hml, hown, hin, hlk, hE, hK, hP, hD, hS, hA, hN, hl⟩ := hB
  have hown : s.vm.findClass "SeriesVaultModel" = some m.cls := hown
  have hl : lv_has ls 10 [(0, .ref h), (1, .int z), (2, .int k)] := hl
  obtain ⟨H, hH⟩ : ∃ z, z = s.heap := ⟨_, rfl⟩
  have hP : va_P D vwCl (MW dA h ad x) H := by rw [hH]; exact hP
  have hS : va_S A s.heap H [] := by rw [hH]; exact hS
  rw [← hH]
  refine lv_aload_n hx hb d_M_parcel_0 rfl (lv_at hl 0 rfl) ?_
  refine lv_aload_n hx hb d_M_parcel_1 rfl (lv_at hl 0 rfl) ?_
  refine gF (v := .int (bI x.on)) hx hb hown hE hK hP 0 rfl rfl layM 7 (by decide) w324 rfl d_M_parcel_2 ?_
  refine lv_if_ne hx hb d_M_parcel_5 (tgt := 12) rfl (fun _ => ?_) (fun h9 => absurd h9 (by rw [ho]; decide))
  refine lv_iload_n hx hb d_M_parcel_12 rfl (lv_at hl 1 rfl) ?_
  refine lv_if_lt hx hb d_M_parcel_13 (tgt := 24) rfl (fun g1 => ?_) (fun g1 => ?_)
  · have g1 := g1
    refine lv_iconst (v := 2) hx hb d_M_parcel_24 (by decide) ?_
    refine lv_goto hx hb d_M_parcel_25 (tgt := 42) rfl ?_
    refine pF (v := .int 2) hx hb hown hE hK hP hD hS 0 rfl rfl layM tyM tokM nmM 0 (by decide) w319 rfl rfl rfl (Nat.le_of_ble_eq_true rfl) d_M_parcel_42 (fun H locs hP hD hS => ?_)
    have hP : va_P D vwCl (MW dA h ad (MS.s_cod x 2)) H := hP
    have hD : va_D A (MW dA h ad (MS.s_cod x 2)) := hD
    refine lv_aload_n hx hb d_M_parcel_45 rfl (lv_at hl 0 rfl) ?_
    refine gF (v := .int 2) hx hb hown hE hK hP 0 rfl rfl layM 0 (by decide) w319 rfl d_M_parcel_46 ?_
    refine lv_if_le hx hb d_M_parcel_49 (tgt := 54) rfl (fun h9 => absurd h9 (by decide)) (fun _ => ?_)
    refine lv_iconst (v := 0) hx hb d_M_parcel_52 (by decide) ?_
    exact rfI hx hb hr hlk hS () rfl hP hD (Nat.le_of_ble_eq_true rfl) (Nat.le_of_ble_eq_true rfl) d_M_parcel_53
  · have g1 := g1
    refine lv_iload_n hx hb d_M_parcel_16 rfl (lv_at hl 1 rfl) ?_
    refine lv_aload_n hx hb d_M_parcel_17 rfl (lv_at hl 0 rfl) ?_
    refine gF (v := .int (nI x.parcelCount)) hx hb hown hE hK hP 0 rfl rfl layM 28 (by decide) w344 rfl d_M_parcel_18 ?_
    refine lv_icmp_lt hx hb d_M_parcel_21 (tgt := 28) rfl (fun h9 => absurd h9 (Int32.not_lt.mpr (h0.resolve_left (by assumption)))) (fun _ => ?_)
    refine lv_iconst (v := 2) hx hb d_M_parcel_24 (by decide) ?_
    refine lv_goto hx hb d_M_parcel_25 (tgt := 42) rfl ?_
    refine pF (v := .int 2) hx hb hown hE hK hP hD hS 0 rfl rfl layM tyM tokM nmM 0 (by decide) w319 rfl rfl rfl (Nat.le_of_ble_eq_true rfl) d_M_parcel_42 (fun H locs hP hD hS => ?_)
    have hP : va_P D vwCl (MW dA h ad (MS.s_cod x 2)) H := hP
    have hD : va_D A (MW dA h ad (MS.s_cod x 2)) := hD
    refine lv_aload_n hx hb d_M_parcel_45 rfl (lv_at hl 0 rfl) ?_
    refine gF (v := .int 2) hx hb hown hE hK hP 0 rfl rfl layM 0 (by decide) w319 rfl d_M_parcel_46 ?_
    refine lv_if_le hx hb d_M_parcel_49 (tgt := 54) rfl (fun h9 => absurd h9 (by decide)) (fun _ => ?_)
    refine lv_iconst (v := 0) hx hb d_M_parcel_52 (by decide) ?_
    exact rfI hx hb hr hlk hS () rfl hP hD (Nat.le_of_ble_eq_true rfl) (Nat.le_of_ble_eq_true rfl) d_M_parcel_53
theorem d_M_parcel_28 : decode prog_14_method_49_code 28 = .ok (.iload_n 2, 1) := by decide +kernel
theorem d_M_parcel_29 : decode prog_14_method_49_code 29 = .ok (.ifCond .lt 8, 3) := by decide +kernel
theorem d_M_parcel_37 : decode prog_14_method_49_code 37 = .ok (.iconst 3, 1) := by decide +kernel
theorem d_M_parcel_38 : decode prog_14_method_49_code 38 = .ok (.goto 4, 3) := by decide +kernel
theorem d_M_parcel_32 : decode prog_14_method_49_code 32 = .ok (.iload_n 2, 1) := by decide +kernel
theorem d_M_parcel_33 : decode prog_14_method_49_code 33 = .ok (.iconst 4, 1) := by decide +kernel
theorem d_M_parcel_34 : decode prog_14_method_49_code 34 = .ok (.if_icmp .le 7, 3) := by decide +kernel
set_option maxHeartbeats 4000000 in
set_option maxRecDepth 100000 in
theorem k_parcel_3 (l : Launch) (D : va_G) (dA : Nat → ClassId) (sz : Nat) (h : Nat) (ad : Nat → Nat) (x : MS) (d : Nat) (k : Int32) (ho : x.on = true) (hk : d < x.parcelCount) (f1 : x.parcelCount ≤ 40) (h0 : k < 0 ∨ 4 < k) : Met l ⟨"SeriesVaultModel", "parcel", "(II)I"⟩ [Cond.code ⟨"SeriesVaultModel", "parcel", "(II)I"⟩ prog_14_method_49_code 10 (some FieldType.int)] { frames := 1, cells := 0, slots := 0, locals := 0 } (pC D dA [.ref h, .int (nI d), .int k] (MW dA h ad x) sz) (va_Qi (fun (r9 : Int32) (u9 : Unit) => r9 = 0) (fun (u9 : Unit) t9 => bW D (va_A (MW dA h ad x) sz) (MW dA h ad (MS.s_cod x 3)) t9) (va_A (MW dA h ad x) sz)) 0 0 (va_A (MW dA h ad x) sz) := by
  refine mkC (y := ⟨"SeriesVaultModel", "parcel", "(II)I"⟩) (cc := prog_14_method_49_code) (maxL := 10) (av := [.ref h, .int (nI d), .int k]) (ws := MW dA h ad x) (sz := sz) (Qc := fun A => va_Qi (fun (r9 : Int32) (u9 : Unit) => r9 = 0) (fun (u9 : Unit) t9 => bW D A (MW dA h ad (MS.s_cod x 3)) t9) A) (by decide) (Nat.le_of_ble_eq_true rfl) ?_
  intro A p e s m below meth c ls hsz hB
  obtain ⟨hx, hb, hr, hml, hown, hin, hlk, hE, hK, hP, hD, hS, hA, hN, hl⟩ := hB
  have hown : s.vm.findClass "SeriesVaultModel" = some m.cls := hown
  have hl : lv_has ls 10 [(0, .ref h), (1, .int (nI d)), (2, .int k)] := hl
  obtain ⟨H, hH⟩ : ∃ z, z = s.heap := ⟨_, rfl⟩
  have hP : va_P D vwCl (MW dA h ad x) H := by rw [hH]; exact hP
  have hS : va_S A s.heap H [] := by rw [hH]; exact hS
  rw [← hH]
  refine lv_aload_n hx hb d_M_parcel_0 rfl (lv_at hl 0 rfl) ?_
  refine lv_aload_n hx hb d_M_parcel_1 rfl (lv_at hl 0 rfl) ?_
  refine gF (v := .int (bI x.on)) hx hb hown hE hK hP 0 rfl rfl layM 7 (by decide) w324 rfl d_M_parcel_2 ?_
  refine lv_if_ne hx hb d_M_parcel_5 (tgt := 12) rfl (fun _ => ?_) (fun h9 => absurd h9 (by rw [ho]; decide))
  refine lv_iload_n hx hb d_M_parcel_12 rfl (lv_at hl 1 rfl) ?_
  refine lv_if_lt hx hb d_M_parcel_13 (tgt := 24) rfl (fun h9 => absurd h9 (nI_pos (n := d) (by omega))) (fun _ => ?_)
  refine lv_iload_n hx hb d_M_parcel_16 rfl (lv_at hl 1 rfl) ?_
  refine lv_aload_n hx hb d_M_parcel_17 rfl (lv_at hl 0 rfl) ?_
  refine gF (v := .int (nI x.parcelCount)) hx hb hown hE hK hP 0 rfl rfl layM 28 (by decide) w344 rfl d_M_parcel_18 ?_
  refine lv_icmp_lt hx hb d_M_parcel_21 (tgt := 28) rfl (fun _ => ?_) (fun h9 => absurd ((nI_ltI (a := d) (b := x.parcelCount) (by omega) (by omega)).mpr hk) h9)
  refine lv_iload_n hx hb d_M_parcel_28 rfl (lv_at hl 2 rfl) ?_
  refine lv_if_lt hx hb d_M_parcel_29 (tgt := 37) rfl (fun g1 => ?_) (fun g1 => ?_)
  · have g1 := g1
    refine lv_iconst (v := 3) hx hb d_M_parcel_37 (by decide) ?_
    refine lv_goto hx hb d_M_parcel_38 (tgt := 42) rfl ?_
    refine pF (v := .int 3) hx hb hown hE hK hP hD hS 0 rfl rfl layM tyM tokM nmM 0 (by decide) w319 rfl rfl rfl (Nat.le_of_ble_eq_true rfl) d_M_parcel_42 (fun H locs hP hD hS => ?_)
    have hP : va_P D vwCl (MW dA h ad (MS.s_cod x 3)) H := hP
    have hD : va_D A (MW dA h ad (MS.s_cod x 3)) := hD
    refine lv_aload_n hx hb d_M_parcel_45 rfl (lv_at hl 0 rfl) ?_
    refine gF (v := .int 3) hx hb hown hE hK hP 0 rfl rfl layM 0 (by decide) w319 rfl d_M_parcel_46 ?_
    refine lv_if_le hx hb d_M_parcel_49 (tgt := 54) rfl (fun h9 => absurd h9 (by decide)) (fun _ => ?_)
    refine lv_iconst (v := 0) hx hb d_M_parcel_52 (by decide) ?_
    exact rfI hx hb hr hlk hS () rfl hP hD (Nat.le_of_ble_eq_true rfl) (Nat.le_of_ble_eq_true rfl) d_M_parcel_53
  · have g1 := g1
    refine lv_iload_n hx hb d_M_parcel_32 rfl (lv_at hl 2 rfl) ?_
    refine lv_iconst (v := 4) hx hb d_M_parcel_33 (by decide) ?_
    refine lv_icmp_le hx hb d_M_parcel_34 (tgt := 41) rfl (fun h9 => absurd h9 (Int32.not_le.mpr (h0.resolve_left (by assumption)))) (fun _ => ?_)
    refine lv_iconst (v := 3) hx hb d_M_parcel_37 (by decide) ?_
    refine lv_goto hx hb d_M_parcel_38 (tgt := 42) rfl ?_
    refine pF (v := .int 3) hx hb hown hE hK hP hD hS 0 rfl rfl layM tyM tokM nmM 0 (by decide) w319 rfl rfl rfl (Nat.le_of_ble_eq_true rfl) d_M_parcel_42 (fun H locs hP hD hS => ?_)
    have hP : va_P D vwCl (MW dA h ad (MS.s_cod x 3)) H := hP
    have hD : va_D A (MW dA h ad (MS.s_cod x 3)) := hD
    refine lv_aload_n hx hb d_M_parcel_45 rfl (lv_at hl 0 rfl) ?_
    refine gF (v := .int 3) hx hb hown hE hK hP 0 rfl rfl layM 0 (by decide) w319 rfl d_M_parcel_46 ?_
    refine lv_if_le hx hb d_M_parcel_49 (tgt := 54) rfl (fun h9 => absurd h9 (by decide)) (fun _ => ?_)
    refine lv_iconst (v := 0) hx hb d_M_parcel_52 (by decide) ?_
    exact rfI hx hb hr hlk hS () rfl hP hD (Nat.le_of_ble_eq_true rfl) (Nat.le_of_ble_eq_true rfl) d_M_parcel_53
theorem d_M_parcel_41 : decode prog_14_method_49_code 41 = .ok (.iconst 0, 1) := by decide +kernel
theorem d_M_parcel_54 : decode prog_14_method_49_code 54 = .ok (.iconst 0, 1) := by decide +kernel
theorem d_M_parcel_55 : decode prog_14_method_49_code 55 = .ok (.istore_n 3, 1) := by decide +kernel
theorem d_M_parcel_56 : decode prog_14_method_49_code 56 = .ok (.iconst 0, 1) := by decide +kernel
theorem d_M_parcel_57 : decode prog_14_method_49_code 57 = .ok (.istore 4, 2) := by decide +kernel
theorem d_M_parcel_59 : decode prog_14_method_49_code 59 = .ok (.iconst 0, 1) := by decide +kernel
theorem d_M_parcel_60 : decode prog_14_method_49_code 60 = .ok (.istore 5, 2) := by decide +kernel
theorem d_M_parcel_62 : decode prog_14_method_49_code 62 = .ok (.iconst 0, 1) := by decide +kernel
theorem d_M_parcel_63 : decode prog_14_method_49_code 63 = .ok (.istore 6, 2) := by decide +kernel
theorem d_M_parcel_65 : decode prog_14_method_49_code 65 = .ok (.iload 6, 2) := by decide +kernel
theorem d_M_parcel_67 : decode prog_14_method_49_code 67 = .ok (.aload_n 0, 1) := by decide +kernel
theorem d_M_parcel_68 : decode prog_14_method_49_code 68 = .ok (.getfield 160, 3) := by decide +kernel
theorem d_M_parcel_71 : decode prog_14_method_49_code 71 = .ok (.if_icmp .ge 118, 3) := by decide +kernel
theorem d_M_parcel_189 : decode prog_14_method_49_code 189 = .ok (.iload_n 2, 1) := by decide +kernel
theorem d_M_parcel_190 : decode prog_14_method_49_code 190 = .ok (.ifCond .ne 7, 3) := by decide +kernel
theorem d_M_parcel_193 : decode prog_14_method_49_code 193 = .ok (.iload_n 3, 1) := by decide +kernel
theorem d_M_parcel_194 : decode prog_14_method_49_code 194 = .ok (.goto 55, 3) := by decide +kernel
theorem d_M_parcel_249 : decode prog_14_method_49_code 249 = .ok (.ireturn, 1) := by decide +kernel
theorem d_M_parcel_74 : decode prog_14_method_49_code 74 = .ok (.iload_n 3, 1) := by decide +kernel
theorem d_M_parcel_75 : decode prog_14_method_49_code 75 = .ok (.istore 7, 2) := by decide +kernel
theorem d_M_parcel_77 : decode prog_14_method_49_code 77 = .ok (.iconst 0, 1) := by decide +kernel
theorem d_M_parcel_78 : decode prog_14_method_49_code 78 = .ok (.istore 8, 2) := by decide +kernel
theorem d_M_parcel_80 : decode prog_14_method_49_code 80 = .ok (.iload 8, 2) := by decide +kernel
theorem d_M_parcel_82 : decode prog_14_method_49_code 82 = .ok (.aload_n 0, 1) := by decide +kernel
theorem d_M_parcel_83 : decode prog_14_method_49_code 83 = .ok (.getfield 169, 3) := by decide +kernel
theorem d_M_parcel_86 : decode prog_14_method_49_code 86 = .ok (.if_icmp .ge 81, 3) := by decide +kernel
theorem d_M_parcel_167 : decode prog_14_method_49_code 167 = .ok (.iload 5, 2) := by decide +kernel
theorem d_M_parcel_169 : decode prog_14_method_49_code 169 = .ok (.iload_n 3, 1) := by decide +kernel
theorem d_M_parcel_170 : decode prog_14_method_49_code 170 = .ok (.iload 7, 2) := by decide +kernel
theorem d_M_parcel_172 : decode prog_14_method_49_code 172 = .ok (.if_icmp .le 7, 3) := by decide +kernel
theorem d_M_parcel_179 : decode prog_14_method_49_code 179 = .ok (.iconst 0, 1) := by decide +kernel
theorem d_M_parcel_180 : decode prog_14_method_49_code 180 = .ok (.iadd, 1) := by decide +kernel
theorem d_M_parcel_181 : decode prog_14_method_49_code 181 = .ok (.istore 5, 2) := by decide +kernel
theorem d_M_parcel_183 : decode prog_14_method_49_code 183 = .ok (.iinc 6 1, 3) := by decide +kernel
theorem d_M_parcel_186 : decode prog_14_method_49_code 186 = .ok (.goto (-121), 3) := by decide +kernel
theorem d_M_parcel_175 : decode prog_14_method_49_code 175 = .ok (.iconst 1, 1) := by decide +kernel
theorem d_M_parcel_176 : decode prog_14_method_49_code 176 = .ok (.goto 4, 3) := by decide +kernel
theorem d_M_parcel_122 : decode prog_14_method_49_code 122 = .ok (.istore 9, 2) := by decide +kernel
theorem d_M_parcel_124 : decode prog_14_method_49_code 124 = .ok (.iload_n 3, 1) := by decide +kernel
theorem d_M_parcel_125 : decode prog_14_method_49_code 125 = .ok (.iload 9, 2) := by decide +kernel
theorem d_M_parcel_127 : decode prog_14_method_49_code 127 = .ok (.ifCond .eq 7, 3) := by decide +kernel
theorem d_M_parcel_134 : decode prog_14_method_49_code 134 = .ok (.iconst 0, 1) := by decide +kernel
theorem d_M_parcel_135 : decode prog_14_method_49_code 135 = .ok (.iadd, 1) := by decide +kernel
theorem d_M_parcel_136 : decode prog_14_method_49_code 136 = .ok (.istore_n 3, 1) := by decide +kernel
theorem d_M_parcel_137 : decode prog_14_method_49_code 137 = .ok (.iload 4, 2) := by decide +kernel
theorem d_M_parcel_139 : decode prog_14_method_49_code 139 = .ok (.iload 9, 2) := by decide +kernel
theorem d_M_parcel_141 : decode prog_14_method_49_code 141 = .ok (.ifCond .eq 16, 3) := by decide +kernel
theorem d_M_parcel_157 : decode prog_14_method_49_code 157 = .ok (.iconst 0, 1) := by decide +kernel
theorem d_M_parcel_158 : decode prog_14_method_49_code 158 = .ok (.iadd, 1) := by decide +kernel
theorem d_M_parcel_159 : decode prog_14_method_49_code 159 = .ok (.istore 4, 2) := by decide +kernel
theorem d_M_parcel_161 : decode prog_14_method_49_code 161 = .ok (.iinc 8 1, 3) := by decide +kernel
theorem d_M_parcel_164 : decode prog_14_method_49_code 164 = .ok (.goto (-84), 3) := by decide +kernel
theorem d_M_parcel_130 : decode prog_14_method_49_code 130 = .ok (.iconst 1, 1) := by decide +kernel
theorem d_M_parcel_131 : decode prog_14_method_49_code 131 = .ok (.goto 4, 3) := by decide +kernel
theorem d_M_parcel_144 : decode prog_14_method_49_code 144 = .ok (.aload_n 0, 1) := by decide +kernel
theorem d_M_parcel_145 : decode prog_14_method_49_code 145 = .ok (.iload 8, 2) := by decide +kernel
theorem d_M_parcel_147 : decode prog_14_method_49_code 147 = .ok (.invokevirtual 207, 3) := by decide +kernel
theorem d_M_parcel_150 : decode prog_14_method_49_code 150 = .ok (.ifCond .eq 7, 3) := by decide +kernel
theorem d_M_parcel_153 : decode prog_14_method_49_code 153 = .ok (.iconst 1, 1) := by decide +kernel
theorem d_M_parcel_154 : decode prog_14_method_49_code 154 = .ok (.goto 4, 3) := by decide +kernel
theorem d_M_parcel_89 : decode prog_14_method_49_code 89 = .ok (.aload_n 0, 1) := by decide +kernel
theorem d_M_parcel_90 : decode prog_14_method_49_code 90 = .ok (.getfield 43, 3) := by decide +kernel
theorem d_M_parcel_93 : decode prog_14_method_49_code 93 = .ok (.iload 8, 2) := by decide +kernel
theorem d_M_parcel_95 : decode prog_14_method_49_code 95 = .ok (.iaload, 1) := by decide +kernel
theorem d_M_parcel_96 : decode prog_14_method_49_code 96 = .ok (.iload 6, 2) := by decide +kernel
theorem d_M_parcel_98 : decode prog_14_method_49_code 98 = .ok (.if_icmp .ne 23, 3) := by decide +kernel
theorem d_M_parcel_121 : decode prog_14_method_49_code 121 = .ok (.iconst 0, 1) := by decide +kernel
theorem d_M_parcel_101 : decode prog_14_method_49_code 101 = .ok (.aload_n 0, 1) := by decide +kernel
theorem d_M_parcel_102 : decode prog_14_method_49_code 102 = .ok (.getfield 52, 3) := by decide +kernel
theorem d_M_parcel_105 : decode prog_14_method_49_code 105 = .ok (.iload 8, 2) := by decide +kernel
theorem d_M_parcel_107 : decode prog_14_method_49_code 107 = .ok (.iaload, 1) := by decide +kernel
theorem d_M_parcel_108 : decode prog_14_method_49_code 108 = .ok (.aload_n 0, 1) := by decide +kernel
theorem d_M_parcel_109 : decode prog_14_method_49_code 109 = .ok (.getfield 61, 3) := by decide +kernel
theorem d_M_parcel_112 : decode prog_14_method_49_code 112 = .ok (.iload_n 1, 1) := by decide +kernel
theorem d_M_parcel_113 : decode prog_14_method_49_code 113 = .ok (.iaload, 1) := by decide +kernel
theorem d_M_parcel_114 : decode prog_14_method_49_code 114 = .ok (.if_icmp .ne 7, 3) := by decide +kernel
theorem d_M_parcel_117 : decode prog_14_method_49_code 117 = .ok (.iconst 1, 1) := by decide +kernel
theorem d_M_parcel_118 : decode prog_14_method_49_code 118 = .ok (.goto 4, 3) := by decide +kernel
set_option maxHeartbeats 4000000 in
set_option maxRecDepth 100000 in
theorem k_parcel0_0 (l : Launch) (D : va_G) (dA : Nat → ClassId) (sz : Nat) (h : Nat) (ad : Nat → Nat) (x : MS) (d : Nat) (ho : x.on = true) (hk : d < x.parcelCount) (f1 : x.parcelCount ≤ 40) (h1 : x.points ≤ 12000) (h2 : x.seriesCount ≤ 256) (hs : ∀ q : Nat, q < x.points → x.pointSeries q < 256) : Met l ⟨"SeriesVaultModel", "parcel", "(II)I"⟩ [Cond.code ⟨"SeriesVaultModel", "parcel", "(II)I"⟩ prog_14_method_49_code 10 (some FieldType.int)] { frames := 2, cells := 0, slots := 0, locals := 21 } (pC D dA [.ref h, .int (nI d), .int 0] (MW dA h ad x) sz) (va_Qi (fun (r9 : Int32) (u9 : Unit) => r9 = nI (sumN x.seriesCount (fun z => cnt x.points (x.inP (x.parcels d) z)))) (fun (u9 : Unit) t9 => bW D (va_A (MW dA h ad x) sz) (MW dA h ad (MS.s_cod x 0)) t9) (va_A (MW dA h ad x) sz)) 0 0 (va_A (MW dA h ad x) sz) := by
  refine mkC (y := ⟨"SeriesVaultModel", "parcel", "(II)I"⟩) (cc := prog_14_method_49_code) (maxL := 10) (av := [.ref h, .int (nI d), .int 0]) (ws := MW dA h ad x) (sz := sz) (Qc := fun A => va_Qi (fun (r9 : Int32) (u9 : Unit) => r9 = nI (sumN x.seriesCount (fun z => cnt x.points (x.inP (x.parcels d) z)))) (fun (u9 : Unit) t9 => bW D A (MW dA h ad (MS.s_cod x 0)) t9) A) (by decide) (Nat.le_of_ble_eq_true rfl) ?_
  intro A p e s m below meth c ls hsz hB
  obtain ⟨hx, hb, hr, hml, hown, hin, hlk, hE, hK, hP, hD, hS, hA, hN, hl⟩ := hB
  have hown : s.vm.findClass "SeriesVaultModel" = some m.cls := hown
  have hl : lv_has ls 10 [(0, .ref h), (1, .int (nI d)), (2, .int 0)] := hl
  obtain ⟨H, hH⟩ : ∃ z, z = s.heap := ⟨_, rfl⟩
  have hP : va_P D vwCl (MW dA h ad x) H := by rw [hH]; exact hP
  have hS : va_S A s.heap H [] := by rw [hH]; exact hS
  rw [← hH]
  refine lv_aload_n hx hb d_M_parcel_0 rfl (lv_at hl 0 rfl) ?_
  refine lv_aload_n hx hb d_M_parcel_1 rfl (lv_at hl 0 rfl) ?_
  refine gF (v := .int (bI x.on)) hx hb hown hE hK hP 0 rfl rfl layM 7 (by decide) w324 rfl d_M_parcel_2 ?_
  refine lv_if_ne hx hb d_M_parcel_5 (tgt := 12) rfl (fun _ => ?_) (fun h9 => absurd h9 (by rw [ho]; decide))
  refine lv_iload_n hx hb d_M_parcel_12 rfl (lv_at hl 1 rfl) ?_
  refine lv_if_lt hx hb d_M_parcel_13 (tgt := 24) rfl (fun h9 => absurd h9 (nI_pos (n := d) (by omega))) (fun _ => ?_)
  refine lv_iload_n hx hb d_M_parcel_16 rfl (lv_at hl 1 rfl) ?_
  refine lv_aload_n hx hb d_M_parcel_17 rfl (lv_at hl 0 rfl) ?_
  refine gF (v := .int (nI x.parcelCount)) hx hb hown hE hK hP 0 rfl rfl layM 28 (by decide) w344 rfl d_M_parcel_18 ?_
  refine lv_icmp_lt hx hb d_M_parcel_21 (tgt := 28) rfl (fun _ => ?_) (fun h9 => absurd ((nI_ltI (a := d) (b := x.parcelCount) (by omega) (by omega)).mpr hk) h9)
  refine lv_iload_n hx hb d_M_parcel_28 rfl (lv_at hl 2 rfl) ?_
  refine lv_if_lt hx hb d_M_parcel_29 (tgt := 37) rfl (fun h9 => absurd h9 (by decide)) (fun _ => ?_)
  refine lv_iload_n hx hb d_M_parcel_32 rfl (lv_at hl 2 rfl) ?_
  refine lv_iconst (v := 4) hx hb d_M_parcel_33 (by decide) ?_
  refine lv_icmp_le hx hb d_M_parcel_34 (tgt := 41) rfl (fun _ => ?_) (fun h9 => absurd (by decide) h9)
  refine lv_iconst (v := 0) hx hb d_M_parcel_41 (by decide) ?_
  refine pF (v := .int 0) hx hb hown hE hK hP hD hS 0 rfl rfl layM tyM tokM nmM 0 (by decide) w319 rfl rfl rfl (Nat.le_of_ble_eq_true rfl) d_M_parcel_42 (fun H locs hP hD hS => ?_)
  have hP : va_P D vwCl (MW dA h ad (MS.s_cod x 0)) H := hP
  have hD : va_D A (MW dA h ad (MS.s_cod x 0)) := hD
  refine lv_aload_n hx hb d_M_parcel_45 rfl (lv_at hl 0 rfl) ?_
  refine gF (v := .int 0) hx hb hown hE hK hP 0 rfl rfl layM 0 (by decide) w319 rfl d_M_parcel_46 ?_
  refine lv_if_le hx hb d_M_parcel_49 (tgt := 54) rfl (fun _ => ?_) (fun h9 => absurd (by decide) h9)
  refine lv_iconst (v := 0) hx hb d_M_parcel_54 (by decide) ?_
  refine lv_istore_n hx hb d_M_parcel_55 rfl hl (by decide) rfl (fun ls hl => ?_)
  have hl : lv_has ls 10 [(3, .int 0), (0, .ref h), (1, .int (nI d)), (2, .int 0)] := hl
  refine lv_iconst (v := 0) hx hb d_M_parcel_56 (by decide) ?_
  refine lv_istore hx hb d_M_parcel_57 hl (by decide) rfl (fun ls hl => ?_)
  have hl : lv_has ls 10 [(4, .int 0), (3, .int 0), (0, .ref h), (1, .int (nI d)), (2, .int 0)] := hl
  refine lv_iconst (v := 0) hx hb d_M_parcel_59 (by decide) ?_
  refine lv_istore hx hb d_M_parcel_60 hl (by decide) rfl (fun ls hl => ?_)
  have hl : lv_has ls 10 [(5, .int 0), (4, .int 0), (3, .int 0), (0, .ref h), (1, .int (nI d)), (2, .int 0)] := hl
  refine lv_iconst (v := 0) hx hb d_M_parcel_62 (by decide) ?_
  refine lv_istore hx hb d_M_parcel_63 hl (by decide) rfl (fun ls hl => ?_)
  have hl : lv_has ls 10 [(6, .int 0), (5, .int 0), (4, .int 0), (3, .int 0), (0, .ref h), (1, .int (nI d)), (2, .int 0)] := hl
  have L65 : ∀ (k9 : Nat) (w : Nat) (a : Nat) (b : Nat) (n : Nat) (i1 : w ≤ x.seriesCount) (i2 : a = sumN w (fun z => cnt x.points (x.inP (x.parcels d) z))) (i3 : b = sumN w (fun z => cnt x.points (fun y => x.inP (x.parcels d) z y && x.seen y))) (i4 : n = cnt w (fun z => decide (0 < cnt x.points (x.inP (x.parcels d) z)))) (i5 : a ≤ 12000 * w) (hk9 : x.seriesCount - w = k9), ∀ (H : Heap) (locs : List Loc) (ls : Array Slot) (hP : va_P D vwCl (MW dA h ad (MS.s_cod x 0)) H) (hD : va_D A (MW dA h ad (MS.s_cod x 0))) (hS : va_S A s.heap H locs) (hl : lv_has ls 10 [(6, .int (nI w)), (3, .int (nI a)), (4, .int (nI b)), (5, .int (nI n)), (1, .int (nI d)), (2, .int 0), (0, .ref h)]), W p l e ({ frames := 2, cells := 0, slots := 0, locals := 21 } : Room) s m ([.ref h, .int (nI d), .int 0] : List Value).toArray below meth c H locs 0 0 (MQ below (va_Qi (fun (r9 : Int32) (u9 : Unit) => r9 = nI (sumN x.seriesCount (fun z => cnt x.points (x.inP (x.parcels d) z)))) (fun (u9 : Unit) t9 => bW D A (MW dA h ad (MS.s_cod x 0)) t9) A) ([.ref h, .int (nI d), .int 0] : List Value).toArray s 0 0 A) (F0 m 65 ls []) := by
    intro k9
    induction k9 using Nat.strongRecOn with
    | ind k9 ih65 =>
      intro w a b n i1 i2 i3 i4 i5 hk9 H locs ls hP hD hS hl
      refine lv_iload hx hb d_M_parcel_65 (lv_at hl 0 rfl) ?_
      refine lv_aload_n hx hb d_M_parcel_67 rfl (lv_at hl 6 rfl) ?_
      refine gF (v := .int (nI x.seriesCount)) hx hb hown hE hK hP 0 rfl rfl layM 12 (by decide) w332 rfl d_M_parcel_68 ?_
      refine lv_icmp_ge hx hb d_M_parcel_71 (tgt := 189) rfl (fun g1 => ?_) (fun g1 => ?_)
      · have g1 := (nI_leI (a := x.seriesCount) (b := w) (by omega) (by omega)).mp g1
        refine lv_iload_n hx hb d_M_parcel_189 rfl (lv_at hl 5 rfl) ?_
        refine lv_if_ne hx hb d_M_parcel_190 (tgt := 197) rfl (fun h9 => absurd (by decide) h9) (fun _ => ?_)
        refine lv_iload_n hx hb d_M_parcel_193 rfl (lv_at hl 1 rfl) ?_
        refine lv_goto hx hb d_M_parcel_194 (tgt := 249) rfl ?_
        exact rfI hx hb hr hlk hS () (by first | rfl | rw [i2, show w = x.seriesCount by omega] | rw [i3, show w = x.seriesCount by omega] | rw [i4, show w = x.seriesCount by omega]) hP hD (Nat.le_of_ble_eq_true rfl) (Nat.le_of_ble_eq_true rfl) d_M_parcel_249
      · have g1 := mt (nI_leI (a := x.seriesCount) (b := w) (by omega) (by omega)).mpr g1
        refine lv_iload_n hx hb d_M_parcel_74 rfl (lv_at hl 1 rfl) ?_
        refine lv_istore hx hb d_M_parcel_75 hl (by decide) rfl (fun ls hl => ?_)
        have hl : lv_has ls 10 [(7, .int (nI a)), (6, .int (nI w)), (3, .int (nI a)), (4, .int (nI b)), (5, .int (nI n)), (1, .int (nI d)), (2, .int 0), (0, .ref h)] := hl
        refine lv_iconst (v := 0) hx hb d_M_parcel_77 (by decide) ?_
        refine lv_istore hx hb d_M_parcel_78 hl (by decide) rfl (fun ls hl => ?_)
        have hl : lv_has ls 10 [(8, .int 0), (7, .int (nI a)), (6, .int (nI w)), (3, .int (nI a)), (4, .int (nI b)), (5, .int (nI n)), (1, .int (nI d)), (2, .int 0), (0, .ref h)] := hl
        have L80 : ∀ (k9 : Nat) (q : Nat) (a2 : Nat) (b2 : Nat) (j1 : q ≤ x.points) (j2 : a2 = a + cnt q (x.inP (x.parcels d) w)) (j3 : b2 = b + cnt q (fun y => x.inP (x.parcels d) w y && x.seen y)) (hk9 : x.points - q = k9), ∀ (H : Heap) (locs : List Loc) (ls : Array Slot) (hP : va_P D vwCl (MW dA h ad (MS.s_cod x 0)) H) (hD : va_D A (MW dA h ad (MS.s_cod x 0))) (hS : va_S A s.heap H locs) (hl : lv_has ls 10 [(8, .int (nI q)), (3, .int (nI a2)), (4, .int (nI b2)), (6, .int (nI w)), (5, .int (nI n)), (7, .int (nI a)), (1, .int (nI d)), (2, .int 0), (0, .ref h)]), W p l e ({ frames := 2, cells := 0, slots := 0, locals := 21 } : Room) s m ([.ref h, .int (nI d), .int 0] : List Value).toArray below meth c H locs 0 0 (MQ below (va_Qi (fun (r9 : Int32) (u9 : Unit) => r9 = nI (sumN x.seriesCount (fun z => cnt x.points (x.inP (x.parcels d) z)))) (fun (u9 : Unit) t9 => bW D A (MW dA h ad (MS.s_cod x 0)) t9) A) ([.ref h, .int (nI d), .int 0] : List Value).toArray s 0 0 A) (F0 m 80 ls []) := by
          intro k9
          induction k9 using Nat.strongRecOn with
          | ind k9 ih80 =>
            intro q a2 b2 j1 j2 j3 hk9 H locs ls hP hD hS hl
            have hz := cnt_le q (x.inP (x.parcels d) w)
            refine lv_iload hx hb d_M_parcel_80 (lv_at hl 0 rfl) ?_
            refine lv_aload_n hx hb d_M_parcel_82 rfl (lv_at hl 8 rfl) ?_
            refine gF (v := .int (nI x.points)) hx hb hown hE hK hP 0 rfl rfl layM 23 (by decide) w420 rfl d_M_parcel_83 ?_
            refine lv_icmp_ge hx hb d_M_parcel_86 (tgt := 167) rfl (fun g2 => ?_) (fun g2 => ?_)
            · have g2 := (nI_leI (a := x.points) (b := q) (by omega) (by omega)).mp g2
              refine lv_iload hx hb d_M_parcel_167 (lv_at hl 4 rfl) ?_
              refine lv_iload_n hx hb d_M_parcel_169 rfl (lv_at hl 1 rfl) ?_
              refine lv_iload hx hb d_M_parcel_170 (lv_at hl 5 rfl) ?_
              refine lv_icmp_le hx hb d_M_parcel_172 (tgt := 179) rfl (fun g3 => ?_) (fun g3 => ?_)
              · have g3 := (nI_leI (a := a2) (b := a) (by omega) (by omega)).mp g3
                refine lv_iconst (v := 0) hx hb d_M_parcel_179 (by decide) ?_
                refine lv_iadd hx hb d_M_parcel_180 (tpi (y := nI (n)) (nI_add (n) (0)) ?_)
                refine lv_istore hx hb d_M_parcel_181 hl (by decide) rfl (fun ls hl => ?_)
                have hl : lv_has ls 10 [(5, .int (nI (n))), (8, .int (nI q)), (3, .int (nI a2)), (4, .int (nI b2)), (6, .int (nI w)), (7, .int (nI a)), (1, .int (nI d)), (2, .int 0), (0, .ref h)] := hl
                refine lv_iinc (k := 4) (v := nI (w + 1)) hx hb d_M_parcel_183 hl rfl (iincN (w) 1 1 (by decide)) (by decide) rfl (fun ls hl => ?_)
                have hl : lv_has ls 10 [(6, .int (nI (w + 1))), (5, .int (nI (n))), (8, .int (nI q)), (3, .int (nI a2)), (4, .int (nI b2)), (7, .int (nI a)), (1, .int (nI d)), (2, .int 0), (0, .ref h)] := hl
                refine lv_goto hx hb d_M_parcel_186 (tgt := 65) rfl ?_
                exact ih65 _ (by omega) (w + 1) a2 b2 n (by omega) (by show _ = sumN w _ + cnt x.points (x.inP (x.parcels d) w); rw [← i2, ← show q = x.points by omega, j2]) (by show _ = sumN w _ + cnt x.points (fun y => x.inP (x.parcels d) w y && x.seen y); rw [← i3, ← show q = x.points by omega, j3]) (chk0 (F := (fun z => cnt x.points (x.inP (x.parcels d) z))) i4 (show a2 = a + cnt x.points (x.inP (x.parcels d) w) from by rw [← show q = x.points by omega]; exact j2) g3) (by have hz := cnt_le q (x.inP (x.parcels d) w); omega) rfl H _ ls hP hD hS (lv_sub hl [0, 3, 4, 1, 6, 7, 8] rfl)
              · have g3 := mt (nI_leI (a := a2) (b := a) (by omega) (by omega)).mpr g3
                refine lv_iconst (v := 1) hx hb d_M_parcel_175 (by decide) ?_
                refine lv_goto hx hb d_M_parcel_176 (tgt := 180) rfl ?_
                refine lv_iadd hx hb d_M_parcel_180 (tpi (y := nI (n + 1)) (nI_add (n) (1)) ?_)
                refine lv_istore hx hb d_M_parcel_181 hl (by decide) rfl (fun ls hl => ?_)
                have hl : lv_has ls 10 [(5, .int (nI (n + 1))), (8, .int (nI q)), (3, .int (nI a2)), (4, .int (nI b2)), (6, .int (nI w)), (7, .int (nI a)), (1, .int (nI d)), (2, .int 0), (0, .ref h)] := hl
                refine lv_iinc (k := 4) (v := nI (w + 1)) hx hb d_M_parcel_183 hl rfl (iincN (w) 1 1 (by decide)) (by decide) rfl (fun ls hl => ?_)
                have hl : lv_has ls 10 [(6, .int (nI (w + 1))), (5, .int (nI (n + 1))), (8, .int (nI q)), (3, .int (nI a2)), (4, .int (nI b2)), (7, .int (nI a)), (1, .int (nI d)), (2, .int 0), (0, .ref h)] := hl
                refine lv_goto hx hb d_M_parcel_186 (tgt := 65) rfl ?_
                exact ih65 _ (by omega) (w + 1) a2 b2 (n + 1) (by omega) (by show _ = sumN w _ + cnt x.points (x.inP (x.parcels d) w); rw [← i2, ← show q = x.points by omega, j2]) (by show _ = sumN w _ + cnt x.points (fun y => x.inP (x.parcels d) w y && x.seen y); rw [← i3, ← show q = x.points by omega, j3]) (chk (F := (fun z => cnt x.points (x.inP (x.parcels d) z))) i4 (show a2 = a + cnt x.points (x.inP (x.parcels d) w) from by rw [← show q = x.points by omega]; exact j2) g3) (by have hz := cnt_le q (x.inP (x.parcels d) w); omega) rfl H _ ls hP hD hS (lv_sub hl [0, 3, 4, 1, 6, 7, 8] rfl)
            · have g2 := mt (nI_leI (a := x.points) (b := q) (by omega) (by omega)).mpr g2
              have J122 : ∀ (v : Bool) (j9 : x.inP (x.parcels d) w q = v), ∀ (H : Heap) (locs : List Loc) (ls : Array Slot) (hP : va_P D vwCl (MW dA h ad (MS.s_cod x 0)) H) (hD : va_D A (MW dA h ad (MS.s_cod x 0))) (hS : va_S A s.heap H locs) (hl : lv_has ls 10 [(8, .int (nI q)), (3, .int (nI a2)), (4, .int (nI b2)), (6, .int (nI w)), (5, .int (nI n)), (7, .int (nI a)), (1, .int (nI d)), (2, .int 0), (0, .ref h)]), W p l e ({ frames := 2, cells := 0, slots := 0, locals := 21 } : Room) s m ([.ref h, .int (nI d), .int 0] : List Value).toArray below meth c H locs 0 0 (MQ below (va_Qi (fun (r9 : Int32) (u9 : Unit) => r9 = nI (sumN x.seriesCount (fun z => cnt x.points (x.inP (x.parcels d) z)))) (fun (u9 : Unit) t9 => bW D A (MW dA h ad (MS.s_cod x 0)) t9) A) ([.ref h, .int (nI d), .int 0] : List Value).toArray s 0 0 A) (F0 m 122 ls [.int (bI v)]) := by
                intro v j9 H locs ls hP hD hS hl
                refine lv_istore hx hb d_M_parcel_122 hl (by decide) rfl (fun ls hl => ?_)
                have hl : lv_has ls 10 [(9, .int (bI v)), (8, .int (nI q)), (3, .int (nI a2)), (4, .int (nI b2)), (6, .int (nI w)), (5, .int (nI n)), (7, .int (nI a)), (1, .int (nI d)), (2, .int 0), (0, .ref h)] := hl
                refine lv_iload_n hx hb d_M_parcel_124 rfl (lv_at hl 2 rfl) ?_
                refine lv_iload hx hb d_M_parcel_125 (lv_at hl 0 rfl) ?_
                refine lv_if_eq hx hb d_M_parcel_127 (tgt := 134) rfl (fun g4 => ?_) (fun g4 => ?_)
                · have g4 := bI_0 g4
                  refine lv_iconst (v := 0) hx hb d_M_parcel_134 (by decide) ?_
                  refine lv_iadd hx hb d_M_parcel_135 (tpi (y := nI (a2)) (nI_add (a2) (0)) ?_)
                  refine lv_istore_n hx hb d_M_parcel_136 rfl hl (by decide) rfl (fun ls hl => ?_)
                  have hl : lv_has ls 10 [(3, .int (nI (a2))), (9, .int (bI v)), (8, .int (nI q)), (4, .int (nI b2)), (6, .int (nI w)), (5, .int (nI n)), (7, .int (nI a)), (1, .int (nI d)), (2, .int 0), (0, .ref h)] := hl
                  refine lv_iload hx hb d_M_parcel_137 (lv_at hl 3 rfl) ?_
                  refine lv_iload hx hb d_M_parcel_139 (lv_at hl 1 rfl) ?_
                  refine lv_if_eq hx hb d_M_parcel_141 (tgt := 157) rfl (fun _ => ?_) (fun h9 => absurd (by rw [g4]; decide) h9)
                  refine lv_iconst (v := 0) hx hb d_M_parcel_157 (by decide) ?_
                  refine lv_iadd hx hb d_M_parcel_158 (tpi (y := nI (b2)) (nI_add (b2) (0)) ?_)
                  refine lv_istore hx hb d_M_parcel_159 hl (by decide) rfl (fun ls hl => ?_)
                  have hl : lv_has ls 10 [(4, .int (nI (b2))), (3, .int (nI (a2))), (9, .int (bI v)), (8, .int (nI q)), (6, .int (nI w)), (5, .int (nI n)), (7, .int (nI a)), (1, .int (nI d)), (2, .int 0), (0, .ref h)] := hl
                  refine lv_iinc (k := 3) (v := nI (q + 1)) hx hb d_M_parcel_161 hl rfl (iincN (q) 1 1 (by decide)) (by decide) rfl (fun ls hl => ?_)
                  have hl : lv_has ls 10 [(8, .int (nI (q + 1))), (4, .int (nI (b2))), (3, .int (nI (a2))), (9, .int (bI v)), (6, .int (nI w)), (5, .int (nI n)), (7, .int (nI a)), (1, .int (nI d)), (2, .int 0), (0, .ref h)] := hl
                  refine lv_goto hx hb d_M_parcel_164 (tgt := 80) rfl ?_
                  exact ih80 _ (by omega) (q + 1) a2 b2 (by omega) (by simp [cnt, *, Nat.add_assoc]) (by simp [cnt, *, Nat.add_assoc]) rfl H _ ls hP hD hS (lv_sub hl [0, 2, 1, 4, 5, 6, 7, 8, 9] rfl)
                · have g4 := bI_n0 g4
                  refine lv_iconst (v := 1) hx hb d_M_parcel_130 (by decide) ?_
                  refine lv_goto hx hb d_M_parcel_131 (tgt := 135) rfl ?_
                  refine lv_iadd hx hb d_M_parcel_135 (tpi (y := nI (a2 + 1)) (nI_add (a2) (1)) ?_)
                  refine lv_istore_n hx hb d_M_parcel_136 rfl hl (by decide) rfl (fun ls hl => ?_)
                  have hl : lv_has ls 10 [(3, .int (nI (a2 + 1))), (9, .int (bI v)), (8, .int (nI q)), (4, .int (nI b2)), (6, .int (nI w)), (5, .int (nI n)), (7, .int (nI a)), (1, .int (nI d)), (2, .int 0), (0, .ref h)] := hl
                  refine lv_iload hx hb d_M_parcel_137 (lv_at hl 3 rfl) ?_
                  refine lv_iload hx hb d_M_parcel_139 (lv_at hl 1 rfl) ?_
                  refine lv_if_eq hx hb d_M_parcel_141 (tgt := 157) rfl (fun h9 => absurd h9 (by rw [g4]; decide)) (fun _ => ?_)
                  refine lv_aload_n hx hb d_M_parcel_144 rfl (lv_at hl 9 rfl) ?_
                  refine lv_iload hx hb d_M_parcel_145 (lv_at hl 2 rfl) ?_
                  refine jfI (rnV (As := [.int (nI q)]) (rest := [.int (nI b2)]) hx hb hml hown hE hK (hN _ _ hS) hP hD (k_isSeen l D dA H.size h ad (MS.s_cod x 0) q (show q < 12000 from by omega)) (q0 := 0) rfl rfl w861 w860 w862 w863 w328 rfl rfl ⟨⟨by decide, by decide⟩, rfl⟩ ⟨(Nat.le_of_ble_eq_true rfl), (Nat.le_of_ble_eq_true rfl)⟩ rfl hl.1 rfl (Nat.le_of_ble_eq_true rfl) d_M_parcel_147 ⟨(Nat.le_of_ble_eq_true rfl), (Nat.le_of_ble_eq_true rfl)⟩) hP hD hS hA (fun r5 u6 H locs hp9 hP hD hS => ?_)
                  have hP : va_P D vwCl (MW dA h ad (MS.s_cod x 0)) H := hP
                  have hD : va_D A (MW dA h ad (MS.s_cod x 0)) := hD
                  replace hp9 : bI (x.seen q) = r5 := Eq.symm hp9
                  subst hp9
                  refine lv_if_eq hx hb d_M_parcel_150 (tgt := 157) rfl (fun g7 => ?_) (fun g7 => ?_)
                  · have g7 := bI_0 g7
                    refine lv_iconst (v := 0) hx hb d_M_parcel_157 (by decide) ?_
                    refine lv_iadd hx hb d_M_parcel_158 (tpi (y := nI (b2)) (nI_add (b2) (0)) ?_)
                    refine lv_istore hx hb d_M_parcel_159 hl (by decide) rfl (fun ls hl => ?_)
                    have hl : lv_has ls 10 [(4, .int (nI (b2))), (3, .int (nI (a2 + 1))), (9, .int (bI v)), (8, .int (nI q)), (6, .int (nI w)), (5, .int (nI n)), (7, .int (nI a)), (1, .int (nI d)), (2, .int 0), (0, .ref h)] := hl
                    refine lv_iinc (k := 3) (v := nI (q + 1)) hx hb d_M_parcel_161 hl rfl (iincN (q) 1 1 (by decide)) (by decide) rfl (fun ls hl => ?_)
                    have hl : lv_has ls 10 [(8, .int (nI (q + 1))), (4, .int (nI (b2))), (3, .int (nI (a2 + 1))), (9, .int (bI v)), (6, .int (nI w)), (5, .int (nI n)), (7, .int (nI a)), (1, .int (nI d)), (2, .int 0), (0, .ref h)] := hl
                    refine lv_goto hx hb d_M_parcel_164 (tgt := 80) rfl ?_
                    exact ih80 _ (by omega) (q + 1) (a2 + 1) b2 (by omega) (by simp [cnt, *, Nat.add_assoc]) (by simp [cnt, *, Nat.add_assoc]) rfl H _ ls hP hD hS (lv_sub hl [0, 2, 1, 4, 5, 6, 7, 8, 9] rfl)
                  · have g7 := bI_n0 g7
                    refine lv_iconst (v := 1) hx hb d_M_parcel_153 (by decide) ?_
                    refine lv_goto hx hb d_M_parcel_154 (tgt := 158) rfl ?_
                    refine lv_iadd hx hb d_M_parcel_158 (tpi (y := nI (b2 + 1)) (nI_add (b2) (1)) ?_)
                    refine lv_istore hx hb d_M_parcel_159 hl (by decide) rfl (fun ls hl => ?_)
                    have hl : lv_has ls 10 [(4, .int (nI (b2 + 1))), (3, .int (nI (a2 + 1))), (9, .int (bI v)), (8, .int (nI q)), (6, .int (nI w)), (5, .int (nI n)), (7, .int (nI a)), (1, .int (nI d)), (2, .int 0), (0, .ref h)] := hl
                    refine lv_iinc (k := 3) (v := nI (q + 1)) hx hb d_M_parcel_161 hl rfl (iincN (q) 1 1 (by decide)) (by decide) rfl (fun ls hl => ?_)
                    have hl : lv_has ls 10 [(8, .int (nI (q + 1))), (4, .int (nI (b2 + 1))), (3, .int (nI (a2 + 1))), (9, .int (bI v)), (6, .int (nI w)), (5, .int (nI n)), (7, .int (nI a)), (1, .int (nI d)), (2, .int 0), (0, .ref h)] := hl
                    refine lv_goto hx hb d_M_parcel_164 (tgt := 80) rfl ?_
                    exact ih80 _ (by omega) (q + 1) (a2 + 1) (b2 + 1) (by omega) (by simp [cnt, *, Nat.add_assoc]) (by simp [cnt, *, Nat.add_assoc]) rfl H _ ls hP hD hS (lv_sub hl [0, 2, 1, 4, 5, 6, 7, 8, 9] rfl)
              refine lv_aload_n hx hb d_M_parcel_89 rfl (lv_at hl 8 rfl) ?_
              refine gF (v := .ref (ad 17)) hx hb hown hE hK hP 0 rfl rfl layM 17 (by decide) w503 rfl d_M_parcel_90 ?_
              refine lv_iload hx hb d_M_parcel_93 (lv_at hl 0 rfl) ?_
              refine nild (f := (fun z9 => nI (x.pointSeries z9))) hx hb hK hP 6 1 rfl rfl (q) (by omega) (by decide) d_M_parcel_95 ?_
              refine lv_iload hx hb d_M_parcel_96 (lv_at hl 3 rfl) ?_
              have b1 := hs q (by omega)
              refine lv_icmp_ne hx hb d_M_parcel_98 (tgt := 121) rfl (fun g8 => ?_) (fun g8 => ?_)
              · have g8 := mt (nI_eq (a := x.pointSeries q) (b := w) (by omega) (by omega)).mpr g8
                refine lv_iconst (v := 0) hx hb d_M_parcel_121 (by decide) ?_
                exact J122 false (by simp [MS.inP, *]) H _ ls hP hD hS (lv_sub hl [0, 1, 2, 3, 4, 5, 6, 7, 8] rfl)
              · have g8 := (nI_eq (a := x.pointSeries q) (b := w) (by omega) (by omega)).mp g8
                refine lv_aload_n hx hb d_M_parcel_101 rfl (lv_at hl 8 rfl) ?_
                refine gF (v := .ref (ad 20)) hx hb hown hE hK hP 0 rfl rfl layM 20 (by decide) w506 rfl d_M_parcel_102 ?_
                refine lv_iload hx hb d_M_parcel_105 (lv_at hl 0 rfl) ?_
                refine nild (f := x.places) hx hb hK hP 9 1 rfl rfl (q) (by omega) (by decide) d_M_parcel_107 ?_
                refine lv_aload_n hx hb d_M_parcel_108 rfl (lv_at hl 8 rfl) ?_
                refine gF (v := .ref (ad 26)) hx hb hown hE hK hP 0 rfl rfl layM 26 (by decide) w509 rfl d_M_parcel_109 ?_
                refine lv_iload_n hx hb d_M_parcel_112 rfl (lv_at hl 6 rfl) ?_
                refine nild (f := (fun z9 => nI (x.parcels z9))) hx hb hK hP 12 1 rfl rfl (d) (by omega) (by decide) d_M_parcel_113 ?_
                refine lv_icmp_ne hx hb d_M_parcel_114 (tgt := 121) rfl (fun g9 => ?_) (fun g9 => ?_)
                · have g9 := g9
                  refine lv_iconst (v := 0) hx hb d_M_parcel_121 (by decide) ?_
                  exact J122 false (by simp [MS.inP, *]) H _ ls hP hD hS (lv_sub hl [0, 1, 2, 3, 4, 5, 6, 7, 8] rfl)
                · have g9 := g9
                  refine lv_iconst (v := 1) hx hb d_M_parcel_117 (by decide) ?_
                  refine lv_goto hx hb d_M_parcel_118 (tgt := 122) rfl ?_
                  exact J122 true (by simp [MS.inP, *]) H _ ls hP hD hS (lv_sub hl [0, 1, 2, 3, 4, 5, 6, 7, 8] rfl)
        exact L80 _ 0 a b (by omega) rfl rfl rfl H _ ls hP hD hS (lv_sub hl [0, 3, 4, 2, 5, 1, 6, 7, 8] rfl)
  exact L65 _ 0 0 0 0 (by omega) rfl rfl rfl (by omega) rfl H _ ls hP hD hS (lv_sub hl [0, 3, 2, 1, 5, 6, 4] rfl)
theorem d_M_parcel_197 : decode prog_14_method_49_code 197 = .ok (.iload_n 2, 1) := by decide +kernel
theorem d_M_parcel_198 : decode prog_14_method_49_code 198 = .ok (.iconst 1, 1) := by decide +kernel
theorem d_M_parcel_199 : decode prog_14_method_49_code 199 = .ok (.if_icmp .ne 8, 3) := by decide +kernel
theorem d_M_parcel_202 : decode prog_14_method_49_code 202 = .ok (.iload 4, 2) := by decide +kernel
theorem d_M_parcel_204 : decode prog_14_method_49_code 204 = .ok (.goto 45, 3) := by decide +kernel
set_option maxHeartbeats 4000000 in
set_option maxRecDepth 100000 in
theorem k_parcel0_1 (l : Launch) (D : va_G) (dA : Nat → ClassId) (sz : Nat) (h : Nat) (ad : Nat → Nat) (x : MS) (d : Nat) (ho : x.on = true) (hk : d < x.parcelCount) (f1 : x.parcelCount ≤ 40) (h1 : x.points ≤ 12000) (h2 : x.seriesCount ≤ 256) (hs : ∀ q : Nat, q < x.points → x.pointSeries q < 256) : Met l ⟨"SeriesVaultModel", "parcel", "(II)I"⟩ [Cond.code ⟨"SeriesVaultModel", "parcel", "(II)I"⟩ prog_14_method_49_code 10 (some FieldType.int)] { frames := 2, cells := 0, slots := 0, locals := 21 } (pC D dA [.ref h, .int (nI d), .int 1] (MW dA h ad x) sz) (va_Qi (fun (r9 : Int32) (u9 : Unit) => r9 = nI (sumN x.seriesCount (fun z => cnt x.points (fun y => x.inP (x.parcels d) z y && x.seen y)))) (fun (u9 : Unit) t9 => bW D (va_A (MW dA h ad x) sz) (MW dA h ad (MS.s_cod x 0)) t9) (va_A (MW dA h ad x) sz)) 0 0 (va_A (MW dA h ad x) sz) := by
  refine mkC (y := ⟨"SeriesVaultModel", "parcel", "(II)I"⟩) (cc := prog_14_method_49_code) (maxL := 10) (av := [.ref h, .int (nI d), .int 1]) (ws := MW dA h ad x) (sz := sz) (Qc := fun A => va_Qi (fun (r9 : Int32) (u9 : Unit) => r9 = nI (sumN x.seriesCount (fun z => cnt x.points (fun y => x.inP (x.parcels d) z y && x.seen y)))) (fun (u9 : Unit) t9 => bW D A (MW dA h ad (MS.s_cod x 0)) t9) A) (by decide) (Nat.le_of_ble_eq_true rfl) ?_
  intro A p e s m below meth c ls hsz hB
  obtain ⟨hx, hb, hr, hml, hown, hin, hlk, hE, hK, hP, hD, hS, hA, hN, hl⟩ := hB
  have hown : s.vm.findClass "SeriesVaultModel" = some m.cls := hown
  have hl : lv_has ls 10 [(0, .ref h), (1, .int (nI d)), (2, .int 1)] := hl
  obtain ⟨H, hH⟩ : ∃ z, z = s.heap := ⟨_, rfl⟩
  have hP : va_P D vwCl (MW dA h ad x) H := by rw [hH]; exact hP
  have hS : va_S A s.heap H [] := by rw [hH]; exact hS
  rw [← hH]
  refine lv_aload_n hx hb d_M_parcel_0 rfl (lv_at hl 0 rfl) ?_
  refine lv_aload_n hx hb d_M_parcel_1 rfl (lv_at hl 0 rfl) ?_
  refine gF (v := .int (bI x.on)) hx hb hown hE hK hP 0 rfl rfl layM 7 (by decide) w324 rfl d_M_parcel_2 ?_
  refine lv_if_ne hx hb d_M_parcel_5 (tgt := 12) rfl (fun _ => ?_) (fun h9 => absurd h9 (by rw [ho]; decide))
  refine lv_iload_n hx hb d_M_parcel_12 rfl (lv_at hl 1 rfl) ?_
  refine lv_if_lt hx hb d_M_parcel_13 (tgt := 24) rfl (fun h9 => absurd h9 (nI_pos (n := d) (by omega))) (fun _ => ?_)
  refine lv_iload_n hx hb d_M_parcel_16 rfl (lv_at hl 1 rfl) ?_
  refine lv_aload_n hx hb d_M_parcel_17 rfl (lv_at hl 0 rfl) ?_
  refine gF (v := .int (nI x.parcelCount)) hx hb hown hE hK hP 0 rfl rfl layM 28 (by decide) w344 rfl d_M_parcel_18 ?_
  refine lv_icmp_lt hx hb d_M_parcel_21 (tgt := 28) rfl (fun _ => ?_) (fun h9 => absurd ((nI_ltI (a := d) (b := x.parcelCount) (by omega) (by omega)).mpr hk) h9)
  refine lv_iload_n hx hb d_M_parcel_28 rfl (lv_at hl 2 rfl) ?_
  refine lv_if_lt hx hb d_M_parcel_29 (tgt := 37) rfl (fun h9 => absurd h9 (by decide)) (fun _ => ?_)
  refine lv_iload_n hx hb d_M_parcel_32 rfl (lv_at hl 2 rfl) ?_
  refine lv_iconst (v := 4) hx hb d_M_parcel_33 (by decide) ?_
  refine lv_icmp_le hx hb d_M_parcel_34 (tgt := 41) rfl (fun _ => ?_) (fun h9 => absurd (by decide) h9)
  refine lv_iconst (v := 0) hx hb d_M_parcel_41 (by decide) ?_
  refine pF (v := .int 0) hx hb hown hE hK hP hD hS 0 rfl rfl layM tyM tokM nmM 0 (by decide) w319 rfl rfl rfl (Nat.le_of_ble_eq_true rfl) d_M_parcel_42 (fun H locs hP hD hS => ?_)
  have hP : va_P D vwCl (MW dA h ad (MS.s_cod x 0)) H := hP
  have hD : va_D A (MW dA h ad (MS.s_cod x 0)) := hD
  refine lv_aload_n hx hb d_M_parcel_45 rfl (lv_at hl 0 rfl) ?_
  refine gF (v := .int 0) hx hb hown hE hK hP 0 rfl rfl layM 0 (by decide) w319 rfl d_M_parcel_46 ?_
  refine lv_if_le hx hb d_M_parcel_49 (tgt := 54) rfl (fun _ => ?_) (fun h9 => absurd (by decide) h9)
  refine lv_iconst (v := 0) hx hb d_M_parcel_54 (by decide) ?_
  refine lv_istore_n hx hb d_M_parcel_55 rfl hl (by decide) rfl (fun ls hl => ?_)
  have hl : lv_has ls 10 [(3, .int 0), (0, .ref h), (1, .int (nI d)), (2, .int 1)] := hl
  refine lv_iconst (v := 0) hx hb d_M_parcel_56 (by decide) ?_
  refine lv_istore hx hb d_M_parcel_57 hl (by decide) rfl (fun ls hl => ?_)
  have hl : lv_has ls 10 [(4, .int 0), (3, .int 0), (0, .ref h), (1, .int (nI d)), (2, .int 1)] := hl
  refine lv_iconst (v := 0) hx hb d_M_parcel_59 (by decide) ?_
  refine lv_istore hx hb d_M_parcel_60 hl (by decide) rfl (fun ls hl => ?_)
  have hl : lv_has ls 10 [(5, .int 0), (4, .int 0), (3, .int 0), (0, .ref h), (1, .int (nI d)), (2, .int 1)] := hl
  refine lv_iconst (v := 0) hx hb d_M_parcel_62 (by decide) ?_
  refine lv_istore hx hb d_M_parcel_63 hl (by decide) rfl (fun ls hl => ?_)
  have hl : lv_has ls 10 [(6, .int 0), (5, .int 0), (4, .int 0), (3, .int 0), (0, .ref h), (1, .int (nI d)), (2, .int 1)] := hl
  have L65 : ∀ (k9 : Nat) (w : Nat) (a : Nat) (b : Nat) (n : Nat) (i1 : w ≤ x.seriesCount) (i2 : a = sumN w (fun z => cnt x.points (x.inP (x.parcels d) z))) (i3 : b = sumN w (fun z => cnt x.points (fun y => x.inP (x.parcels d) z y && x.seen y))) (i4 : n = cnt w (fun z => decide (0 < cnt x.points (x.inP (x.parcels d) z)))) (i5 : a ≤ 12000 * w) (hk9 : x.seriesCount - w = k9), ∀ (H : Heap) (locs : List Loc) (ls : Array Slot) (hP : va_P D vwCl (MW dA h ad (MS.s_cod x 0)) H) (hD : va_D A (MW dA h ad (MS.s_cod x 0))) (hS : va_S A s.heap H locs) (hl : lv_has ls 10 [(6, .int (nI w)), (3, .int (nI a)), (4, .int (nI b)), (5, .int (nI n)), (1, .int (nI d)), (2, .int 1), (0, .ref h)]), W p l e ({ frames := 2, cells := 0, slots := 0, locals := 21 } : Room) s m ([.ref h, .int (nI d), .int 1] : List Value).toArray below meth c H locs 0 0 (MQ below (va_Qi (fun (r9 : Int32) (u9 : Unit) => r9 = nI (sumN x.seriesCount (fun z => cnt x.points (fun y => x.inP (x.parcels d) z y && x.seen y)))) (fun (u9 : Unit) t9 => bW D A (MW dA h ad (MS.s_cod x 0)) t9) A) ([.ref h, .int (nI d), .int 1] : List Value).toArray s 0 0 A) (F0 m 65 ls []) := by
    intro k9
    induction k9 using Nat.strongRecOn with
    | ind k9 ih65 =>
      intro w a b n i1 i2 i3 i4 i5 hk9 H locs ls hP hD hS hl
      refine lv_iload hx hb d_M_parcel_65 (lv_at hl 0 rfl) ?_
      refine lv_aload_n hx hb d_M_parcel_67 rfl (lv_at hl 6 rfl) ?_
      refine gF (v := .int (nI x.seriesCount)) hx hb hown hE hK hP 0 rfl rfl layM 12 (by decide) w332 rfl d_M_parcel_68 ?_
      refine lv_icmp_ge hx hb d_M_parcel_71 (tgt := 189) rfl (fun g1 => ?_) (fun g1 => ?_)
      · have g1 := (nI_leI (a := x.seriesCount) (b := w) (by omega) (by omega)).mp g1
        refine lv_iload_n hx hb d_M_parcel_189 rfl (lv_at hl 5 rfl) ?_
        refine lv_if_ne hx hb d_M_parcel_190 (tgt := 197) rfl (fun _ => ?_) (fun h9 => absurd h9 (by decide))
        refine lv_iload_n hx hb d_M_parcel_197 rfl (lv_at hl 5 rfl) ?_
        refine lv_iconst (v := 1) hx hb d_M_parcel_198 (by decide) ?_
        refine lv_icmp_ne hx hb d_M_parcel_199 (tgt := 207) rfl (fun h9 => absurd (by decide) h9) (fun _ => ?_)
        refine lv_iload hx hb d_M_parcel_202 (lv_at hl 2 rfl) ?_
        refine lv_goto hx hb d_M_parcel_204 (tgt := 249) rfl ?_
        exact rfI hx hb hr hlk hS () (by first | rfl | rw [i2, show w = x.seriesCount by omega] | rw [i3, show w = x.seriesCount by omega] | rw [i4, show w = x.seriesCount by omega]) hP hD (Nat.le_of_ble_eq_true rfl) (Nat.le_of_ble_eq_true rfl) d_M_parcel_249
      · have g1 := mt (nI_leI (a := x.seriesCount) (b := w) (by omega) (by omega)).mpr g1
        refine lv_iload_n hx hb d_M_parcel_74 rfl (lv_at hl 1 rfl) ?_
        refine lv_istore hx hb d_M_parcel_75 hl (by decide) rfl (fun ls hl => ?_)
        have hl : lv_has ls 10 [(7, .int (nI a)), (6, .int (nI w)), (3, .int (nI a)), (4, .int (nI b)), (5, .int (nI n)), (1, .int (nI d)), (2, .int 1), (0, .ref h)] := hl
        refine lv_iconst (v := 0) hx hb d_M_parcel_77 (by decide) ?_
        refine lv_istore hx hb d_M_parcel_78 hl (by decide) rfl (fun ls hl => ?_)
        have hl : lv_has ls 10 [(8, .int 0), (7, .int (nI a)), (6, .int (nI w)), (3, .int (nI a)), (4, .int (nI b)), (5, .int (nI n)), (1, .int (nI d)), (2, .int 1), (0, .ref h)] := hl
        have L80 : ∀ (k9 : Nat) (q : Nat) (a2 : Nat) (b2 : Nat) (j1 : q ≤ x.points) (j2 : a2 = a + cnt q (x.inP (x.parcels d) w)) (j3 : b2 = b + cnt q (fun y => x.inP (x.parcels d) w y && x.seen y)) (hk9 : x.points - q = k9), ∀ (H : Heap) (locs : List Loc) (ls : Array Slot) (hP : va_P D vwCl (MW dA h ad (MS.s_cod x 0)) H) (hD : va_D A (MW dA h ad (MS.s_cod x 0))) (hS : va_S A s.heap H locs) (hl : lv_has ls 10 [(8, .int (nI q)), (3, .int (nI a2)), (4, .int (nI b2)), (6, .int (nI w)), (5, .int (nI n)), (7, .int (nI a)), (1, .int (nI d)), (2, .int 1), (0, .ref h)]), W p l e ({ frames := 2, cells := 0, slots := 0, locals := 21 } : Room) s m ([.ref h, .int (nI d), .int 1] : List Value).toArray below meth c H locs 0 0 (MQ below (va_Qi (fun (r9 : Int32) (u9 : Unit) => r9 = nI (sumN x.seriesCount (fun z => cnt x.points (fun y => x.inP (x.parcels d) z y && x.seen y)))) (fun (u9 : Unit) t9 => bW D A (MW dA h ad (MS.s_cod x 0)) t9) A) ([.ref h, .int (nI d), .int 1] : List Value).toArray s 0 0 A) (F0 m 80 ls []) := by
          intro k9
          induction k9 using Nat.strongRecOn with
          | ind k9 ih80 =>
            intro q a2 b2 j1 j2 j3 hk9 H locs ls hP hD hS hl
            have hz := cnt_le q (x.inP (x.parcels d) w)
            refine lv_iload hx hb d_M_parcel_80 (lv_at hl 0 rfl) ?_
            refine lv_aload_n hx hb d_M_parcel_82 rfl (lv_at hl 8 rfl) ?_
            refine gF (v := .int (nI x.points)) hx hb hown hE hK hP 0 rfl rfl layM 23 (by decide) w420 rfl d_M_parcel_83 ?_
            refine lv_icmp_ge hx hb d_M_parcel_86 (tgt := 167) rfl (fun g2 => ?_) (fun g2 => ?_)
            · have g2 := (nI_leI (a := x.points) (b := q) (by omega) (by omega)).mp g2
              refine lv_iload hx hb d_M_parcel_167 (lv_at hl 4 rfl) ?_
              refine lv_iload_n hx hb d_M_parcel_169 rfl (lv_at hl 1 rfl) ?_
              refine lv_iload hx hb d_M_parcel_170 (lv_at hl 5 rfl) ?_
              refine lv_icmp_le hx hb d_M_parcel_172 (tgt := 179) rfl (fun g3 => ?_) (fun g3 => ?_)
              · have g3 := (nI_leI (a := a2) (b := a) (by omega) (by omega)).mp g3
                refine lv_iconst (v := 0) hx hb d_M_parcel_179 (by decide) ?_
                refine lv_iadd hx hb d_M_parcel_180 (tpi (y := nI (n)) (nI_add (n) (0)) ?_)
                refine lv_istore hx hb d_M_parcel_181 hl (by decide) rfl (fun ls hl => ?_)
                have hl : lv_has ls 10 [(5, .int (nI (n))), (8, .int (nI q)), (3, .int (nI a2)), (4, .int (nI b2)), (6, .int (nI w)), (7, .int (nI a)), (1, .int (nI d)), (2, .int 1), (0, .ref h)] := hl
                refine lv_iinc (k := 4) (v := nI (w + 1)) hx hb d_M_parcel_183 hl rfl (iincN (w) 1 1 (by decide)) (by decide) rfl (fun ls hl => ?_)
                have hl : lv_has ls 10 [(6, .int (nI (w + 1))), (5, .int (nI (n))), (8, .int (nI q)), (3, .int (nI a2)), (4, .int (nI b2)), (7, .int (nI a)), (1, .int (nI d)), (2, .int 1), (0, .ref h)] := hl
                refine lv_goto hx hb d_M_parcel_186 (tgt := 65) rfl ?_
                exact ih65 _ (by omega) (w + 1) a2 b2 n (by omega) (by show _ = sumN w _ + cnt x.points (x.inP (x.parcels d) w); rw [← i2, ← show q = x.points by omega, j2]) (by show _ = sumN w _ + cnt x.points (fun y => x.inP (x.parcels d) w y && x.seen y); rw [← i3, ← show q = x.points by omega, j3]) (chk0 (F := (fun z => cnt x.points (x.inP (x.parcels d) z))) i4 (show a2 = a + cnt x.points (x.inP (x.parcels d) w) from by rw [← show q = x.points by omega]; exact j2) g3) (by have hz := cnt_le q (x.inP (x.parcels d) w); omega) rfl H _ ls hP hD hS (lv_sub hl [0, 3, 4, 1, 6, 7, 8] rfl)
              · have g3 := mt (nI_leI (a := a2) (b := a) (by omega) (by omega)).mpr g3
                refine lv_iconst (v := 1) hx hb d_M_parcel_175 (by decide) ?_
                refine lv_goto hx hb d_M_parcel_176 (tgt := 180) rfl ?_
                refine lv_iadd hx hb d_M_parcel_180 (tpi (y := nI (n + 1)) (nI_add (n) (1)) ?_)
                refine lv_istore hx hb d_M_parcel_181 hl (by decide) rfl (fun ls hl => ?_)
                have hl : lv_has ls 10 [(5, .int (nI (n + 1))), (8, .int (nI q)), (3, .int (nI a2)), (4, .int (nI b2)), (6, .int (nI w)), (7, .int (nI a)), (1, .int (nI d)), (2, .int 1), (0, .ref h)] := hl
                refine lv_iinc (k := 4) (v := nI (w + 1)) hx hb d_M_parcel_183 hl rfl (iincN (w) 1 1 (by decide)) (by decide) rfl (fun ls hl => ?_)
                have hl : lv_has ls 10 [(6, .int (nI (w + 1))), (5, .int (nI (n + 1))), (8, .int (nI q)), (3, .int (nI a2)), (4, .int (nI b2)), (7, .int (nI a)), (1, .int (nI d)), (2, .int 1), (0, .ref h)] := hl
                refine lv_goto hx hb d_M_parcel_186 (tgt := 65) rfl ?_
                exact ih65 _ (by omega) (w + 1) a2 b2 (n + 1) (by omega) (by show _ = sumN w _ + cnt x.points (x.inP (x.parcels d) w); rw [← i2, ← show q = x.points by omega, j2]) (by show _ = sumN w _ + cnt x.points (fun y => x.inP (x.parcels d) w y && x.seen y); rw [← i3, ← show q = x.points by omega, j3]) (chk (F := (fun z => cnt x.points (x.inP (x.parcels d) z))) i4 (show a2 = a + cnt x.points (x.inP (x.parcels d) w) from by rw [← show q = x.points by omega]; exact j2) g3) (by have hz := cnt_le q (x.inP (x.parcels d) w); omega) rfl H _ ls hP hD hS (lv_sub hl [0, 3, 4, 1, 6, 7, 8] rfl)
            · have g2 := mt (nI_leI (a := x.points) (b := q) (by omega) (by omega)).mpr g2
              have J122 : ∀ (v : Bool) (j9 : x.inP (x.parcels d) w q = v), ∀ (H : Heap) (locs : List Loc) (ls : Array Slot) (hP : va_P D vwCl (MW dA h ad (MS.s_cod x 0)) H) (hD : va_D A (MW dA h ad (MS.s_cod x 0))) (hS : va_S A s.heap H locs) (hl : lv_has ls 10 [(8, .int (nI q)), (3, .int (nI a2)), (4, .int (nI b2)), (6, .int (nI w)), (5, .int (nI n)), (7, .int (nI a)), (1, .int (nI d)), (2, .int 1), (0, .ref h)]), W p l e ({ frames := 2, cells := 0, slots := 0, locals := 21 } : Room) s m ([.ref h, .int (nI d), .int 1] : List Value).toArray below meth c H locs 0 0 (MQ below (va_Qi (fun (r9 : Int32) (u9 : Unit) => r9 = nI (sumN x.seriesCount (fun z => cnt x.points (fun y => x.inP (x.parcels d) z y && x.seen y)))) (fun (u9 : Unit) t9 => bW D A (MW dA h ad (MS.s_cod x 0)) t9) A) ([.ref h, .int (nI d), .int 1] : List Value).toArray s 0 0 A) (F0 m 122 ls [.int (bI v)]) := by
                intro v j9 H locs ls hP hD hS hl
                refine lv_istore hx hb d_M_parcel_122 hl (by decide) rfl (fun ls hl => ?_)
                have hl : lv_has ls 10 [(9, .int (bI v)), (8, .int (nI q)), (3, .int (nI a2)), (4, .int (nI b2)), (6, .int (nI w)), (5, .int (nI n)), (7, .int (nI a)), (1, .int (nI d)), (2, .int 1), (0, .ref h)] := hl
                refine lv_iload_n hx hb d_M_parcel_124 rfl (lv_at hl 2 rfl) ?_
                refine lv_iload hx hb d_M_parcel_125 (lv_at hl 0 rfl) ?_
                refine lv_if_eq hx hb d_M_parcel_127 (tgt := 134) rfl (fun g4 => ?_) (fun g4 => ?_)
                · have g4 := bI_0 g4
                  refine lv_iconst (v := 0) hx hb d_M_parcel_134 (by decide) ?_
                  refine lv_iadd hx hb d_M_parcel_135 (tpi (y := nI (a2)) (nI_add (a2) (0)) ?_)
                  refine lv_istore_n hx hb d_M_parcel_136 rfl hl (by decide) rfl (fun ls hl => ?_)
                  have hl : lv_has ls 10 [(3, .int (nI (a2))), (9, .int (bI v)), (8, .int (nI q)), (4, .int (nI b2)), (6, .int (nI w)), (5, .int (nI n)), (7, .int (nI a)), (1, .int (nI d)), (2, .int 1), (0, .ref h)] := hl
                  refine lv_iload hx hb d_M_parcel_137 (lv_at hl 3 rfl) ?_
                  refine lv_iload hx hb d_M_parcel_139 (lv_at hl 1 rfl) ?_
                  refine lv_if_eq hx hb d_M_parcel_141 (tgt := 157) rfl (fun _ => ?_) (fun h9 => absurd (by rw [g4]; decide) h9)
                  refine lv_iconst (v := 0) hx hb d_M_parcel_157 (by decide) ?_
                  refine lv_iadd hx hb d_M_parcel_158 (tpi (y := nI (b2)) (nI_add (b2) (0)) ?_)
                  refine lv_istore hx hb d_M_parcel_159 hl (by decide) rfl (fun ls hl => ?_)
                  have hl : lv_has ls 10 [(4, .int (nI (b2))), (3, .int (nI (a2))), (9, .int (bI v)), (8, .int (nI q)), (6, .int (nI w)), (5, .int (nI n)), (7, .int (nI a)), (1, .int (nI d)), (2, .int 1), (0, .ref h)] := hl
                  refine lv_iinc (k := 3) (v := nI (q + 1)) hx hb d_M_parcel_161 hl rfl (iincN (q) 1 1 (by decide)) (by decide) rfl (fun ls hl => ?_)
                  have hl : lv_has ls 10 [(8, .int (nI (q + 1))), (4, .int (nI (b2))), (3, .int (nI (a2))), (9, .int (bI v)), (6, .int (nI w)), (5, .int (nI n)), (7, .int (nI a)), (1, .int (nI d)), (2, .int 1), (0, .ref h)] := hl
                  refine lv_goto hx hb d_M_parcel_164 (tgt := 80) rfl ?_
                  exact ih80 _ (by omega) (q + 1) a2 b2 (by omega) (by simp [cnt, *, Nat.add_assoc]) (by simp [cnt, *, Nat.add_assoc]) rfl H _ ls hP hD hS (lv_sub hl [0, 2, 1, 4, 5, 6, 7, 8, 9] rfl)
                · have g4 := bI_n0 g4
                  refine lv_iconst (v := 1) hx hb d_M_parcel_130 (by decide) ?_
                  refine lv_goto hx hb d_M_parcel_131 (tgt := 135) rfl ?_
                  refine lv_iadd hx hb d_M_parcel_135 (tpi (y := nI (a2 + 1)) (nI_add (a2) (1)) ?_)
                  refine lv_istore_n hx hb d_M_parcel_136 rfl hl (by decide) rfl (fun ls hl => ?_)
                  have hl : lv_has ls 10 [(3, .int (nI (a2 + 1))), (9, .int (bI v)), (8, .int (nI q)), (4, .int (nI b2)), (6, .int (nI w)), (5, .int (nI n)), (7, .int (nI a)), (1, .int (nI d)), (2, .int 1), (0, .ref h)] := hl
                  refine lv_iload hx hb d_M_parcel_137 (lv_at hl 3 rfl) ?_
                  refine lv_iload hx hb d_M_parcel_139 (lv_at hl 1 rfl) ?_
                  refine lv_if_eq hx hb d_M_parcel_141 (tgt := 157) rfl (fun h9 => absurd h9 (by rw [g4]; decide)) (fun _ => ?_)
                  refine lv_aload_n hx hb d_M_parcel_144 rfl (lv_at hl 9 rfl) ?_
                  refine lv_iload hx hb d_M_parcel_145 (lv_at hl 2 rfl) ?_
                  refine jfI (rnV (As := [.int (nI q)]) (rest := [.int (nI b2)]) hx hb hml hown hE hK (hN _ _ hS) hP hD (k_isSeen l D dA H.size h ad (MS.s_cod x 0) q (show q < 12000 from by omega)) (q0 := 0) rfl rfl w861 w860 w862 w863 w328 rfl rfl ⟨⟨by decide, by decide⟩, rfl⟩ ⟨(Nat.le_of_ble_eq_true rfl), (Nat.le_of_ble_eq_true rfl)⟩ rfl hl.1 rfl (Nat.le_of_ble_eq_true rfl) d_M_parcel_147 ⟨(Nat.le_of_ble_eq_true rfl), (Nat.le_of_ble_eq_true rfl)⟩) hP hD hS hA (fun r5 u6 H locs hp9 hP hD hS => ?_)
                  have hP : va_P D vwCl (MW dA h ad (MS.s_cod x 0)) H := hP
                  have hD : va_D A (MW dA h ad (MS.s_cod x 0)) := hD
                  replace hp9 : bI (x.seen q) = r5 := Eq.symm hp9
                  subst hp9
                  refine lv_if_eq hx hb d_M_parcel_150 (tgt := 157) rfl (fun g7 => ?_) (fun g7 => ?_)
                  · have g7 := bI_0 g7
                    refine lv_iconst (v := 0) hx hb d_M_parcel_157 (by decide) ?_
                    refine lv_iadd hx hb d_M_parcel_158 (tpi (y := nI (b2)) (nI_add (b2) (0)) ?_)
                    refine lv_istore hx hb d_M_parcel_159 hl (by decide) rfl (fun ls hl => ?_)
                    have hl : lv_has ls 10 [(4, .int (nI (b2))), (3, .int (nI (a2 + 1))), (9, .int (bI v)), (8, .int (nI q)), (6, .int (nI w)), (5, .int (nI n)), (7, .int (nI a)), (1, .int (nI d)), (2, .int 1), (0, .ref h)] := hl
                    refine lv_iinc (k := 3) (v := nI (q + 1)) hx hb d_M_parcel_161 hl rfl (iincN (q) 1 1 (by decide)) (by decide) rfl (fun ls hl => ?_)
                    have hl : lv_has ls 10 [(8, .int (nI (q + 1))), (4, .int (nI (b2))), (3, .int (nI (a2 + 1))), (9, .int (bI v)), (6, .int (nI w)), (5, .int (nI n)), (7, .int (nI a)), (1, .int (nI d)), (2, .int 1), (0, .ref h)] := hl
                    refine lv_goto hx hb d_M_parcel_164 (tgt := 80) rfl ?_
                    exact ih80 _ (by omega) (q + 1) (a2 + 1) b2 (by omega) (by simp [cnt, *, Nat.add_assoc]) (by simp [cnt, *, Nat.add_assoc]) rfl H _ ls hP hD hS (lv_sub hl [0, 2, 1, 4, 5, 6, 7, 8, 9] rfl)
                  · have g7 := bI_n0 g7
                    refine lv_iconst (v := 1) hx hb d_M_parcel_153 (by decide) ?_
                    refine lv_goto hx hb d_M_parcel_154 (tgt := 158) rfl ?_
                    refine lv_iadd hx hb d_M_parcel_158 (tpi (y := nI (b2 + 1)) (nI_add (b2) (1)) ?_)
                    refine lv_istore hx hb d_M_parcel_159 hl (by decide) rfl (fun ls hl => ?_)
                    have hl : lv_has ls 10 [(4, .int (nI (b2 + 1))), (3, .int (nI (a2 + 1))), (9, .int (bI v)), (8, .int (nI q)), (6, .int (nI w)), (5, .int (nI n)), (7, .int (nI a)), (1, .int (nI d)), (2, .int 1), (0, .ref h)] := hl
                    refine lv_iinc (k := 3) (v := nI (q + 1)) hx hb d_M_parcel_161 hl rfl (iincN (q) 1 1 (by decide)) (by decide) rfl (fun ls hl => ?_)
                    have hl : lv_has ls 10 [(8, .int (nI (q + 1))), (4, .int (nI (b2 + 1))), (3, .int (nI (a2 + 1))), (9, .int (bI v)), (6, .int (nI w)), (5, .int (nI n)), (7, .int (nI a)), (1, .int (nI d)), (2, .int 1), (0, .ref h)] := hl
                    refine lv_goto hx hb d_M_parcel_164 (tgt := 80) rfl ?_
                    exact ih80 _ (by omega) (q + 1) (a2 + 1) (b2 + 1) (by omega) (by simp [cnt, *, Nat.add_assoc]) (by simp [cnt, *, Nat.add_assoc]) rfl H _ ls hP hD hS (lv_sub hl [0, 2, 1, 4, 5, 6, 7, 8, 9] rfl)
              refine lv_aload_n hx hb d_M_parcel_89 rfl (lv_at hl 8 rfl) ?_
              refine gF (v := .ref (ad 17)) hx hb hown hE hK hP 0 rfl rfl layM 17 (by decide) w503 rfl d_M_parcel_90 ?_
              refine lv_iload hx hb d_M_parcel_93 (lv_at hl 0 rfl) ?_
              refine nild (f := (fun z9 => nI (x.pointSeries z9))) hx hb hK hP 6 1 rfl rfl (q) (by omega) (by decide) d_M_parcel_95 ?_
              refine lv_iload hx hb d_M_parcel_96 (lv_at hl 3 rfl) ?_
              have b1 := hs q (by omega)
              refine lv_icmp_ne hx hb d_M_parcel_98 (tgt := 121) rfl (fun g8 => ?_) (fun g8 => ?_)
              · have g8 := mt (nI_eq (a := x.pointSeries q) (b := w) (by omega) (by omega)).mpr g8
                refine lv_iconst (v := 0) hx hb d_M_parcel_121 (by decide) ?_
                exact J122 false (by simp [MS.inP, *]) H _ ls hP hD hS (lv_sub hl [0, 1, 2, 3, 4, 5, 6, 7, 8] rfl)
              · have g8 := (nI_eq (a := x.pointSeries q) (b := w) (by omega) (by omega)).mp g8
                refine lv_aload_n hx hb d_M_parcel_101 rfl (lv_at hl 8 rfl) ?_
                refine gF (v := .ref (ad 20)) hx hb hown hE hK hP 0 rfl rfl layM 20 (by decide) w506 rfl d_M_parcel_102 ?_
                refine lv_iload hx hb d_M_parcel_105 (lv_at hl 0 rfl) ?_
                refine nild (f := x.places) hx hb hK hP 9 1 rfl rfl (q) (by omega) (by decide) d_M_parcel_107 ?_
                refine lv_aload_n hx hb d_M_parcel_108 rfl (lv_at hl 8 rfl) ?_
                refine gF (v := .ref (ad 26)) hx hb hown hE hK hP 0 rfl rfl layM 26 (by decide) w509 rfl d_M_parcel_109 ?_
                refine lv_iload_n hx hb d_M_parcel_112 rfl (lv_at hl 6 rfl) ?_
                refine nild (f := (fun z9 => nI (x.parcels z9))) hx hb hK hP 12 1 rfl rfl (d) (by omega) (by decide) d_M_parcel_113 ?_
                refine lv_icmp_ne hx hb d_M_parcel_114 (tgt := 121) rfl (fun g9 => ?_) (fun g9 => ?_)
                · have g9 := g9
                  refine lv_iconst (v := 0) hx hb d_M_parcel_121 (by decide) ?_
                  exact J122 false (by simp [MS.inP, *]) H _ ls hP hD hS (lv_sub hl [0, 1, 2, 3, 4, 5, 6, 7, 8] rfl)
                · have g9 := g9
                  refine lv_iconst (v := 1) hx hb d_M_parcel_117 (by decide) ?_
                  refine lv_goto hx hb d_M_parcel_118 (tgt := 122) rfl ?_
                  exact J122 true (by simp [MS.inP, *]) H _ ls hP hD hS (lv_sub hl [0, 1, 2, 3, 4, 5, 6, 7, 8] rfl)
        exact L80 _ 0 a b (by omega) rfl rfl rfl H _ ls hP hD hS (lv_sub hl [0, 3, 4, 2, 5, 1, 6, 7, 8] rfl)
  exact L65 _ 0 0 0 0 (by omega) rfl rfl rfl (by omega) rfl H _ ls hP hD hS (lv_sub hl [0, 3, 2, 1, 5, 6, 4] rfl)
theorem d_M_parcel_207 : decode prog_14_method_49_code 207 = .ok (.iload_n 2, 1) := by decide +kernel
theorem d_M_parcel_208 : decode prog_14_method_49_code 208 = .ok (.iconst 2, 1) := by decide +kernel
theorem d_M_parcel_209 : decode prog_14_method_49_code 209 = .ok (.if_icmp .ne 8, 3) := by decide +kernel
theorem d_M_parcel_212 : decode prog_14_method_49_code 212 = .ok (.iload 5, 2) := by decide +kernel
theorem d_M_parcel_214 : decode prog_14_method_49_code 214 = .ok (.goto 35, 3) := by decide +kernel
set_option maxHeartbeats 4000000 in
set_option maxRecDepth 100000 in
theorem k_parcel0_2 (l : Launch) (D : va_G) (dA : Nat → ClassId) (sz : Nat) (h : Nat) (ad : Nat → Nat) (x : MS) (d : Nat) (ho : x.on = true) (hk : d < x.parcelCount) (f1 : x.parcelCount ≤ 40) (h1 : x.points ≤ 12000) (h2 : x.seriesCount ≤ 256) (hs : ∀ q : Nat, q < x.points → x.pointSeries q < 256) : Met l ⟨"SeriesVaultModel", "parcel", "(II)I"⟩ [Cond.code ⟨"SeriesVaultModel", "parcel", "(II)I"⟩ prog_14_method_49_code 10 (some FieldType.int)] { frames := 2, cells := 0, slots := 0, locals := 21 } (pC D dA [.ref h, .int (nI d), .int 2] (MW dA h ad x) sz) (va_Qi (fun (r9 : Int32) (u9 : Unit) => r9 = nI (cnt x.seriesCount (fun z => decide (0 < cnt x.points (x.inP (x.parcels d) z))))) (fun (u9 : Unit) t9 => bW D (va_A (MW dA h ad x) sz) (MW dA h ad (MS.s_cod x 0)) t9) (va_A (MW dA h ad x) sz)) 0 0 (va_A (MW dA h ad x) sz) := by
  refine mkC (y := ⟨"SeriesVaultModel", "parcel", "(II)I"⟩) (cc := prog_14_method_49_code) (maxL := 10) (av := [.ref h, .int (nI d), .int 2]) (ws := MW dA h ad x) (sz := sz) (Qc := fun A => va_Qi (fun (r9 : Int32) (u9 : Unit) => r9 = nI (cnt x.seriesCount (fun z => decide (0 < cnt x.points (x.inP (x.parcels d) z))))) (fun (u9 : Unit) t9 => bW D A (MW dA h ad (MS.s_cod x 0)) t9) A) (by decide) (Nat.le_of_ble_eq_true rfl) ?_
  intro A p e s m below meth c ls hsz hB
  obtain ⟨hx, hb, hr, hml, hown, hin, hlk, hE, hK, hP, hD, hS, hA, hN, hl⟩ := hB
  have hown : s.vm.findClass "SeriesVaultModel" = some m.cls := hown
  have hl : lv_has ls 10 [(0, .ref h), (1, .int (nI d)), (2, .int 2)] := hl
  obtain ⟨H, hH⟩ : ∃ z, z = s.heap := ⟨_, rfl⟩
  have hP : va_P D vwCl (MW dA h ad x) H := by rw [hH]; exact hP
  have hS : va_S A s.heap H [] := by rw [hH]; exact hS
  rw [← hH]
  refine lv_aload_n hx hb d_M_parcel_0 rfl (lv_at hl 0 rfl) ?_
  refine lv_aload_n hx hb d_M_parcel_1 rfl (lv_at hl 0 rfl) ?_
  refine gF (v := .int (bI x.on)) hx hb hown hE hK hP 0 rfl rfl layM 7 (by decide) w324 rfl d_M_parcel_2 ?_
  refine lv_if_ne hx hb d_M_parcel_5 (tgt := 12) rfl (fun _ => ?_) (fun h9 => absurd h9 (by rw [ho]; decide))
  refine lv_iload_n hx hb d_M_parcel_12 rfl (lv_at hl 1 rfl) ?_
  refine lv_if_lt hx hb d_M_parcel_13 (tgt := 24) rfl (fun h9 => absurd h9 (nI_pos (n := d) (by omega))) (fun _ => ?_)
  refine lv_iload_n hx hb d_M_parcel_16 rfl (lv_at hl 1 rfl) ?_
  refine lv_aload_n hx hb d_M_parcel_17 rfl (lv_at hl 0 rfl) ?_
  refine gF (v := .int (nI x.parcelCount)) hx hb hown hE hK hP 0 rfl rfl layM 28 (by decide) w344 rfl d_M_parcel_18 ?_
  refine lv_icmp_lt hx hb d_M_parcel_21 (tgt := 28) rfl (fun _ => ?_) (fun h9 => absurd ((nI_ltI (a := d) (b := x.parcelCount) (by omega) (by omega)).mpr hk) h9)
  refine lv_iload_n hx hb d_M_parcel_28 rfl (lv_at hl 2 rfl) ?_
  refine lv_if_lt hx hb d_M_parcel_29 (tgt := 37) rfl (fun h9 => absurd h9 (by decide)) (fun _ => ?_)
  refine lv_iload_n hx hb d_M_parcel_32 rfl (lv_at hl 2 rfl) ?_
  refine lv_iconst (v := 4) hx hb d_M_parcel_33 (by decide) ?_
  refine lv_icmp_le hx hb d_M_parcel_34 (tgt := 41) rfl (fun _ => ?_) (fun h9 => absurd (by decide) h9)
  refine lv_iconst (v := 0) hx hb d_M_parcel_41 (by decide) ?_
  refine pF (v := .int 0) hx hb hown hE hK hP hD hS 0 rfl rfl layM tyM tokM nmM 0 (by decide) w319 rfl rfl rfl (Nat.le_of_ble_eq_true rfl) d_M_parcel_42 (fun H locs hP hD hS => ?_)
  have hP : va_P D vwCl (MW dA h ad (MS.s_cod x 0)) H := hP
  have hD : va_D A (MW dA h ad (MS.s_cod x 0)) := hD
  refine lv_aload_n hx hb d_M_parcel_45 rfl (lv_at hl 0 rfl) ?_
  refine gF (v := .int 0) hx hb hown hE hK hP 0 rfl rfl layM 0 (by decide) w319 rfl d_M_parcel_46 ?_
  refine lv_if_le hx hb d_M_parcel_49 (tgt := 54) rfl (fun _ => ?_) (fun h9 => absurd (by decide) h9)
  refine lv_iconst (v := 0) hx hb d_M_parcel_54 (by decide) ?_
  refine lv_istore_n hx hb d_M_parcel_55 rfl hl (by decide) rfl (fun ls hl => ?_)
  have hl : lv_has ls 10 [(3, .int 0), (0, .ref h), (1, .int (nI d)), (2, .int 2)] := hl
  refine lv_iconst (v := 0) hx hb d_M_parcel_56 (by decide) ?_
  refine lv_istore hx hb d_M_parcel_57 hl (by decide) rfl (fun ls hl => ?_)
  have hl : lv_has ls 10 [(4, .int 0), (3, .int 0), (0, .ref h), (1, .int (nI d)), (2, .int 2)] := hl
  refine lv_iconst (v := 0) hx hb d_M_parcel_59 (by decide) ?_
  refine lv_istore hx hb d_M_parcel_60 hl (by decide) rfl (fun ls hl => ?_)
  have hl : lv_has ls 10 [(5, .int 0), (4, .int 0), (3, .int 0), (0, .ref h), (1, .int (nI d)), (2, .int 2)] := hl
  refine lv_iconst (v := 0) hx hb d_M_parcel_62 (by decide) ?_
  refine lv_istore hx hb d_M_parcel_63 hl (by decide) rfl (fun ls hl => ?_)
  have hl : lv_has ls 10 [(6, .int 0), (5, .int 0), (4, .int 0), (3, .int 0), (0, .ref h), (1, .int (nI d)), (2, .int 2)] := hl
  have L65 : ∀ (k9 : Nat) (w : Nat) (a : Nat) (b : Nat) (n : Nat) (i1 : w ≤ x.seriesCount) (i2 : a = sumN w (fun z => cnt x.points (x.inP (x.parcels d) z))) (i3 : b = sumN w (fun z => cnt x.points (fun y => x.inP (x.parcels d) z y && x.seen y))) (i4 : n = cnt w (fun z => decide (0 < cnt x.points (x.inP (x.parcels d) z)))) (i5 : a ≤ 12000 * w) (hk9 : x.seriesCount - w = k9), ∀ (H : Heap) (locs : List Loc) (ls : Array Slot) (hP : va_P D vwCl (MW dA h ad (MS.s_cod x 0)) H) (hD : va_D A (MW dA h ad (MS.s_cod x 0))) (hS : va_S A s.heap H locs) (hl : lv_has ls 10 [(6, .int (nI w)), (3, .int (nI a)), (4, .int (nI b)), (5, .int (nI n)), (1, .int (nI d)), (2, .int 2), (0, .ref h)]), W p l e ({ frames := 2, cells := 0, slots := 0, locals := 21 } : Room) s m ([.ref h, .int (nI d), .int 2] : List Value).toArray below meth c H locs 0 0 (MQ below (va_Qi (fun (r9 : Int32) (u9 : Unit) => r9 = nI (cnt x.seriesCount (fun z => decide (0 < cnt x.points (x.inP (x.parcels d) z))))) (fun (u9 : Unit) t9 => bW D A (MW dA h ad (MS.s_cod x 0)) t9) A) ([.ref h, .int (nI d), .int 2] : List Value).toArray s 0 0 A) (F0 m 65 ls []) := by
    intro k9
    induction k9 using Nat.strongRecOn with
    | ind k9 ih65 =>
      intro w a b n i1 i2 i3 i4 i5 hk9 H locs ls hP hD hS hl
      refine lv_iload hx hb d_M_parcel_65 (lv_at hl 0 rfl) ?_
      refine lv_aload_n hx hb d_M_parcel_67 rfl (lv_at hl 6 rfl) ?_
      refine gF (v := .int (nI x.seriesCount)) hx hb hown hE hK hP 0 rfl rfl layM 12 (by decide) w332 rfl d_M_parcel_68 ?_
      refine lv_icmp_ge hx hb d_M_parcel_71 (tgt := 189) rfl (fun g1 => ?_) (fun g1 => ?_)
      · have g1 := (nI_leI (a := x.seriesCount) (b := w) (by omega) (by omega)).mp g1
        refine lv_iload_n hx hb d_M_parcel_189 rfl (lv_at hl 5 rfl) ?_
        refine lv_if_ne hx hb d_M_parcel_190 (tgt := 197) rfl (fun _ => ?_) (fun h9 => absurd h9 (by decide))
        refine lv_iload_n hx hb d_M_parcel_197 rfl (lv_at hl 5 rfl) ?_
        refine lv_iconst (v := 1) hx hb d_M_parcel_198 (by decide) ?_
        refine lv_icmp_ne hx hb d_M_parcel_199 (tgt := 207) rfl (fun _ => ?_) (fun h9 => absurd h9 (by decide))
        refine lv_iload_n hx hb d_M_parcel_207 rfl (lv_at hl 5 rfl) ?_
        refine lv_iconst (v := 2) hx hb d_M_parcel_208 (by decide) ?_
        refine lv_icmp_ne hx hb d_M_parcel_209 (tgt := 217) rfl (fun h9 => absurd (by decide) h9) (fun _ => ?_)
        refine lv_iload hx hb d_M_parcel_212 (lv_at hl 3 rfl) ?_
        refine lv_goto hx hb d_M_parcel_214 (tgt := 249) rfl ?_
        exact rfI hx hb hr hlk hS () (by first | rfl | rw [i2, show w = x.seriesCount by omega] | rw [i3, show w = x.seriesCount by omega] | rw [i4, show w = x.seriesCount by omega]) hP hD (Nat.le_of_ble_eq_true rfl) (Nat.le_of_ble_eq_true rfl) d_M_parcel_249
      · have g1 := mt (nI_leI (a := x.seriesCount) (b := w) (by omega) (by omega)).mpr g1
        refine lv_iload_n hx hb d_M_parcel_74 rfl (lv_at hl 1 rfl) ?_
        refine lv_istore hx hb d_M_parcel_75 hl (by decide) rfl (fun ls hl => ?_)
        have hl : lv_has ls 10 [(7, .int (nI a)), (6, .int (nI w)), (3, .int (nI a)), (4, .int (nI b)), (5, .int (nI n)), (1, .int (nI d)), (2, .int 2), (0, .ref h)] := hl
        refine lv_iconst (v := 0) hx hb d_M_parcel_77 (by decide) ?_
        refine lv_istore hx hb d_M_parcel_78 hl (by decide) rfl (fun ls hl => ?_)
        have hl : lv_has ls 10 [(8, .int 0), (7, .int (nI a)), (6, .int (nI w)), (3, .int (nI a)), (4, .int (nI b)), (5, .int (nI n)), (1, .int (nI d)), (2, .int 2), (0, .ref h)] := hl
        have L80 : ∀ (k9 : Nat) (q : Nat) (a2 : Nat) (b2 : Nat) (j1 : q ≤ x.points) (j2 : a2 = a + cnt q (x.inP (x.parcels d) w)) (j3 : b2 = b + cnt q (fun y => x.inP (x.parcels d) w y && x.seen y)) (hk9 : x.points - q = k9), ∀ (H : Heap) (locs : List Loc) (ls : Array Slot) (hP : va_P D vwCl (MW dA h ad (MS.s_cod x 0)) H) (hD : va_D A (MW dA h ad (MS.s_cod x 0))) (hS : va_S A s.heap H locs) (hl : lv_has ls 10 [(8, .int (nI q)), (3, .int (nI a2)), (4, .int (nI b2)), (6, .int (nI w)), (5, .int (nI n)), (7, .int (nI a)), (1, .int (nI d)), (2, .int 2), (0, .ref h)]), W p l e ({ frames := 2, cells := 0, slots := 0, locals := 21 } : Room) s m ([.ref h, .int (nI d), .int 2] : List Value).toArray below meth c H locs 0 0 (MQ below (va_Qi (fun (r9 : Int32) (u9 : Unit) => r9 = nI (cnt x.seriesCount (fun z => decide (0 < cnt x.points (x.inP (x.parcels d) z))))) (fun (u9 : Unit) t9 => bW D A (MW dA h ad (MS.s_cod x 0)) t9) A) ([.ref h, .int (nI d), .int 2] : List Value).toArray s 0 0 A) (F0 m 80 ls []) := by
          intro k9
          induction k9 using Nat.strongRecOn with
          | ind k9 ih80 =>
            intro q a2 b2 j1 j2 j3 hk9 H locs ls hP hD hS hl
            have hz := cnt_le q (x.inP (x.parcels d) w)
            refine lv_iload hx hb d_M_parcel_80 (lv_at hl 0 rfl) ?_
            refine lv_aload_n hx hb d_M_parcel_82 rfl (lv_at hl 8 rfl) ?_
            refine gF (v := .int (nI x.points)) hx hb hown hE hK hP 0 rfl rfl layM 23 (by decide) w420 rfl d_M_parcel_83 ?_
            refine lv_icmp_ge hx hb d_M_parcel_86 (tgt := 167) rfl (fun g2 => ?_) (fun g2 => ?_)
            · have g2 := (nI_leI (a := x.points) (b := q) (by omega) (by omega)).mp g2
              refine lv_iload hx hb d_M_parcel_167 (lv_at hl 4 rfl) ?_
              refine lv_iload_n hx hb d_M_parcel_169 rfl (lv_at hl 1 rfl) ?_
              refine lv_iload hx hb d_M_parcel_170 (lv_at hl 5 rfl) ?_
              refine lv_icmp_le hx hb d_M_parcel_172 (tgt := 179) rfl (fun g3 => ?_) (fun g3 => ?_)
              · have g3 := (nI_leI (a := a2) (b := a) (by omega) (by omega)).mp g3
                refine lv_iconst (v := 0) hx hb d_M_parcel_179 (by decide) ?_
                refine lv_iadd hx hb d_M_parcel_180 (tpi (y := nI (n)) (nI_add (n) (0)) ?_)
                refine lv_istore hx hb d_M_parcel_181 hl (by decide) rfl (fun ls hl => ?_)
                have hl : lv_has ls 10 [(5, .int (nI (n))), (8, .int (nI q)), (3, .int (nI a2)), (4, .int (nI b2)), (6, .int (nI w)), (7, .int (nI a)), (1, .int (nI d)), (2, .int 2), (0, .ref h)] := hl
                refine lv_iinc (k := 4) (v := nI (w + 1)) hx hb d_M_parcel_183 hl rfl (iincN (w) 1 1 (by decide)) (by decide) rfl (fun ls hl => ?_)
                have hl : lv_has ls 10 [(6, .int (nI (w + 1))), (5, .int (nI (n))), (8, .int (nI q)), (3, .int (nI a2)), (4, .int (nI b2)), (7, .int (nI a)), (1, .int (nI d)), (2, .int 2), (0, .ref h)] := hl
                refine lv_goto hx hb d_M_parcel_186 (tgt := 65) rfl ?_
                exact ih65 _ (by omega) (w + 1) a2 b2 n (by omega) (by show _ = sumN w _ + cnt x.points (x.inP (x.parcels d) w); rw [← i2, ← show q = x.points by omega, j2]) (by show _ = sumN w _ + cnt x.points (fun y => x.inP (x.parcels d) w y && x.seen y); rw [← i3, ← show q = x.points by omega, j3]) (chk0 (F := (fun z => cnt x.points (x.inP (x.parcels d) z))) i4 (show a2 = a + cnt x.points (x.inP (x.parcels d) w) from by rw [← show q = x.points by omega]; exact j2) g3) (by have hz := cnt_le q (x.inP (x.parcels d) w); omega) rfl H _ ls hP hD hS (lv_sub hl [0, 3, 4, 1, 6, 7, 8] rfl)
              · have g3 := mt (nI_leI (a := a2) (b := a) (by omega) (by omega)).mpr g3
                refine lv_iconst (v := 1) hx hb d_M_parcel_175 (by decide) ?_
                refine lv_goto hx hb d_M_parcel_176 (tgt := 180) rfl ?_
                refine lv_iadd hx hb d_M_parcel_180 (tpi (y := nI (n + 1)) (nI_add (n) (1)) ?_)
                refine lv_istore hx hb d_M_parcel_181 hl (by decide) rfl (fun ls hl => ?_)
                have hl : lv_has ls 10 [(5, .int (nI (n + 1))), (8, .int (nI q)), (3, .int (nI a2)), (4, .int (nI b2)), (6, .int (nI w)), (7, .int (nI a)), (1, .int (nI d)), (2, .int 2), (0, .ref h)] := hl
                refine lv_iinc (k := 4) (v := nI (w + 1)) hx hb d_M_parcel_183 hl rfl (iincN (w) 1 1 (by decide)) (by decide) rfl (fun ls hl => ?_)
                have hl : lv_has ls 10 [(6, .int (nI (w + 1))), (5, .int (nI (n + 1))), (8, .int (nI q)), (3, .int (nI a2)), (4, .int (nI b2)), (7, .int (nI a)), (1, .int (nI d)), (2, .int 2), (0, .ref h)] := hl
                refine lv_goto hx hb d_M_parcel_186 (tgt := 65) rfl ?_
                exact ih65 _ (by omega) (w + 1) a2 b2 (n + 1) (by omega) (by show _ = sumN w _ + cnt x.points (x.inP (x.parcels d) w); rw [← i2, ← show q = x.points by omega, j2]) (by show _ = sumN w _ + cnt x.points (fun y => x.inP (x.parcels d) w y && x.seen y); rw [← i3, ← show q = x.points by omega, j3]) (chk (F := (fun z => cnt x.points (x.inP (x.parcels d) z))) i4 (show a2 = a + cnt x.points (x.inP (x.parcels d) w) from by rw [← show q = x.points by omega]; exact j2) g3) (by have hz := cnt_le q (x.inP (x.parcels d) w); omega) rfl H _ ls hP hD hS (lv_sub hl [0, 3, 4, 1, 6, 7, 8] rfl)
            · have g2 := mt (nI_leI (a := x.points) (b := q) (by omega) (by omega)).mpr g2
              have J122 : ∀ (v : Bool) (j9 : x.inP (x.parcels d) w q = v), ∀ (H : Heap) (locs : List Loc) (ls : Array Slot) (hP : va_P D vwCl (MW dA h ad (MS.s_cod x 0)) H) (hD : va_D A (MW dA h ad (MS.s_cod x 0))) (hS : va_S A s.heap H locs) (hl : lv_has ls 10 [(8, .int (nI q)), (3, .int (nI a2)), (4, .int (nI b2)), (6, .int (nI w)), (5, .int (nI n)), (7, .int (nI a)), (1, .int (nI d)), (2, .int 2), (0, .ref h)]), W p l e ({ frames := 2, cells := 0, slots := 0, locals := 21 } : Room) s m ([.ref h, .int (nI d), .int 2] : List Value).toArray below meth c H locs 0 0 (MQ below (va_Qi (fun (r9 : Int32) (u9 : Unit) => r9 = nI (cnt x.seriesCount (fun z => decide (0 < cnt x.points (x.inP (x.parcels d) z))))) (fun (u9 : Unit) t9 => bW D A (MW dA h ad (MS.s_cod x 0)) t9) A) ([.ref h, .int (nI d), .int 2] : List Value).toArray s 0 0 A) (F0 m 122 ls [.int (bI v)]) := by
                intro v j9 H locs ls hP hD hS hl
                refine lv_istore hx hb d_M_parcel_122 hl (by decide) rfl (fun ls hl => ?_)
                have hl : lv_has ls 10 [(9, .int (bI v)), (8, .int (nI q)), (3, .int (nI a2)), (4, .int (nI b2)), (6, .int (nI w)), (5, .int (nI n)), (7, .int (nI a)), (1, .int (nI d)), (2, .int 2), (0, .ref h)] := hl
                refine lv_iload_n hx hb d_M_parcel_124 rfl (lv_at hl 2 rfl) ?_
                refine lv_iload hx hb d_M_parcel_125 (lv_at hl 0 rfl) ?_
                refine lv_if_eq hx hb d_M_parcel_127 (tgt := 134) rfl (fun g4 => ?_) (fun g4 => ?_)
                · have g4 := bI_0 g4
                  refine lv_iconst (v := 0) hx hb d_M_parcel_134 (by decide) ?_
                  refine lv_iadd hx hb d_M_parcel_135 (tpi (y := nI (a2)) (nI_add (a2) (0)) ?_)
                  refine lv_istore_n hx hb d_M_parcel_136 rfl hl (by decide) rfl (fun ls hl => ?_)
                  have hl : lv_has ls 10 [(3, .int (nI (a2))), (9, .int (bI v)), (8, .int (nI q)), (4, .int (nI b2)), (6, .int (nI w)), (5, .int (nI n)), (7, .int (nI a)), (1, .int (nI d)), (2, .int 2), (0, .ref h)] := hl
                  refine lv_iload hx hb d_M_parcel_137 (lv_at hl 3 rfl) ?_
                  refine lv_iload hx hb d_M_parcel_139 (lv_at hl 1 rfl) ?_
                  refine lv_if_eq hx hb d_M_parcel_141 (tgt := 157) rfl (fun _ => ?_) (fun h9 => absurd (by rw [g4]; decide) h9)
                  refine lv_iconst (v := 0) hx hb d_M_parcel_157 (by decide) ?_
                  refine lv_iadd hx hb d_M_parcel_158 (tpi (y := nI (b2)) (nI_add (b2) (0)) ?_)
                  refine lv_istore hx hb d_M_parcel_159 hl (by decide) rfl (fun ls hl => ?_)
                  have hl : lv_has ls 10 [(4, .int (nI (b2))), (3, .int (nI (a2))), (9, .int (bI v)), (8, .int (nI q)), (6, .int (nI w)), (5, .int (nI n)), (7, .int (nI a)), (1, .int (nI d)), (2, .int 2), (0, .ref h)] := hl
                  refine lv_iinc (k := 3) (v := nI (q + 1)) hx hb d_M_parcel_161 hl rfl (iincN (q) 1 1 (by decide)) (by decide) rfl (fun ls hl => ?_)
                  have hl : lv_has ls 10 [(8, .int (nI (q + 1))), (4, .int (nI (b2))), (3, .int (nI (a2))), (9, .int (bI v)), (6, .int (nI w)), (5, .int (nI n)), (7, .int (nI a)), (1, .int (nI d)), (2, .int 2), (0, .ref h)] := hl
                  refine lv_goto hx hb d_M_parcel_164 (tgt := 80) rfl ?_
                  exact ih80 _ (by omega) (q + 1) a2 b2 (by omega) (by simp [cnt, *, Nat.add_assoc]) (by simp [cnt, *, Nat.add_assoc]) rfl H _ ls hP hD hS (lv_sub hl [0, 2, 1, 4, 5, 6, 7, 8, 9] rfl)
                · have g4 := bI_n0 g4
                  refine lv_iconst (v := 1) hx hb d_M_parcel_130 (by decide) ?_
                  refine lv_goto hx hb d_M_parcel_131 (tgt := 135) rfl ?_
                  refine lv_iadd hx hb d_M_parcel_135 (tpi (y := nI (a2 + 1)) (nI_add (a2) (1)) ?_)
                  refine lv_istore_n hx hb d_M_parcel_136 rfl hl (by decide) rfl (fun ls hl => ?_)
                  have hl : lv_has ls 10 [(3, .int (nI (a2 + 1))), (9, .int (bI v)), (8, .int (nI q)), (4, .int (nI b2)), (6, .int (nI w)), (5, .int (nI n)), (7, .int (nI a)), (1, .int (nI d)), (2, .int 2), (0, .ref h)] := hl
                  refine lv_iload hx hb d_M_parcel_137 (lv_at hl 3 rfl) ?_
                  refine lv_iload hx hb d_M_parcel_139 (lv_at hl 1 rfl) ?_
                  refine lv_if_eq hx hb d_M_parcel_141 (tgt := 157) rfl (fun h9 => absurd h9 (by rw [g4]; decide)) (fun _ => ?_)
                  refine lv_aload_n hx hb d_M_parcel_144 rfl (lv_at hl 9 rfl) ?_
                  refine lv_iload hx hb d_M_parcel_145 (lv_at hl 2 rfl) ?_
                  refine jfI (rnV (As := [.int (nI q)]) (rest := [.int (nI b2)]) hx hb hml hown hE hK (hN _ _ hS) hP hD (k_isSeen l D dA H.size h ad (MS.s_cod x 0) q (show q < 12000 from by omega)) (q0 := 0) rfl rfl w861 w860 w862 w863 w328 rfl rfl ⟨⟨by decide, by decide⟩, rfl⟩ ⟨(Nat.le_of_ble_eq_true rfl), (Nat.le_of_ble_eq_true rfl)⟩ rfl hl.1 rfl (Nat.le_of_ble_eq_true rfl) d_M_parcel_147 ⟨(Nat.le_of_ble_eq_true rfl), (Nat.le_of_ble_eq_true rfl)⟩) hP hD hS hA (fun r5 u6 H locs hp9 hP hD hS => ?_)
                  have hP : va_P D vwCl (MW dA h ad (MS.s_cod x 0)) H := hP
                  have hD : va_D A (MW dA h ad (MS.s_cod x 0)) := hD
                  replace hp9 : bI (x.seen q) = r5 := Eq.symm hp9
                  subst hp9
                  refine lv_if_eq hx hb d_M_parcel_150 (tgt := 157) rfl (fun g7 => ?_) (fun g7 => ?_)
                  · have g7 := bI_0 g7
                    refine lv_iconst (v := 0) hx hb d_M_parcel_157 (by decide) ?_
                    refine lv_iadd hx hb d_M_parcel_158 (tpi (y := nI (b2)) (nI_add (b2) (0)) ?_)
                    refine lv_istore hx hb d_M_parcel_159 hl (by decide) rfl (fun ls hl => ?_)
                    have hl : lv_has ls 10 [(4, .int (nI (b2))), (3, .int (nI (a2 + 1))), (9, .int (bI v)), (8, .int (nI q)), (6, .int (nI w)), (5, .int (nI n)), (7, .int (nI a)), (1, .int (nI d)), (2, .int 2), (0, .ref h)] := hl
                    refine lv_iinc (k := 3) (v := nI (q + 1)) hx hb d_M_parcel_161 hl rfl (iincN (q) 1 1 (by decide)) (by decide) rfl (fun ls hl => ?_)
                    have hl : lv_has ls 10 [(8, .int (nI (q + 1))), (4, .int (nI (b2))), (3, .int (nI (a2 + 1))), (9, .int (bI v)), (6, .int (nI w)), (5, .int (nI n)), (7, .int (nI a)), (1, .int (nI d)), (2, .int 2), (0, .ref h)] := hl
                    refine lv_goto hx hb d_M_parcel_164 (tgt := 80) rfl ?_
                    exact ih80 _ (by omega) (q + 1) (a2 + 1) b2 (by omega) (by simp [cnt, *, Nat.add_assoc]) (by simp [cnt, *, Nat.add_assoc]) rfl H _ ls hP hD hS (lv_sub hl [0, 2, 1, 4, 5, 6, 7, 8, 9] rfl)
                  · have g7 := bI_n0 g7
                    refine lv_iconst (v := 1) hx hb d_M_parcel_153 (by decide) ?_
                    refine lv_goto hx hb d_M_parcel_154 (tgt := 158) rfl ?_
                    refine lv_iadd hx hb d_M_parcel_158 (tpi (y := nI (b2 + 1)) (nI_add (b2) (1)) ?_)
                    refine lv_istore hx hb d_M_parcel_159 hl (by decide) rfl (fun ls hl => ?_)
                    have hl : lv_has ls 10 [(4, .int (nI (b2 + 1))), (3, .int (nI (a2 + 1))), (9, .int (bI v)), (8, .int (nI q)), (6, .int (nI w)), (5, .int (nI n)), (7, .int (nI a)), (1, .int (nI d)), (2, .int 2), (0, .ref h)] := hl
                    refine lv_iinc (k := 3) (v := nI (q + 1)) hx hb d_M_parcel_161 hl rfl (iincN (q) 1 1 (by decide)) (by decide) rfl (fun ls hl => ?_)
                    have hl : lv_has ls 10 [(8, .int (nI (q + 1))), (4, .int (nI (b2 + 1))), (3, .int (nI (a2 + 1))), (9, .int (bI v)), (6, .int (nI w)), (5, .int (nI n)), (7, .int (nI a)), (1, .int (nI d)), (2, .int 2), (0, .ref h)] := hl
                    refine lv_goto hx hb d_M_parcel_164 (tgt := 80) rfl ?_
                    exact ih80 _ (by omega) (q + 1) (a2 + 1) (b2 + 1) (by omega) (by simp [cnt, *, Nat.add_assoc]) (by simp [cnt, *, Nat.add_assoc]) rfl H _ ls hP hD hS (lv_sub hl [0, 2, 1, 4, 5, 6, 7, 8, 9] rfl)
              refine lv_aload_n hx hb d_M_parcel_89 rfl (lv_at hl 8 rfl) ?_
              refine gF (v := .ref (ad 17)) hx hb hown hE hK hP 0 rfl rfl layM 17 (by decide) w503 rfl d_M_parcel_90 ?_
              refine lv_iload hx hb d_M_parcel_93 (lv_at hl 0 rfl) ?_
              refine nild (f := (fun z9 => nI (x.pointSeries z9))) hx hb hK hP 6 1 rfl rfl (q) (by omega) (by decide) d_M_parcel_95 ?_
              refine lv_iload hx hb d_M_parcel_96 (lv_at hl 3 rfl) ?_
              have b1 := hs q (by omega)
              refine lv_icmp_ne hx hb d_M_parcel_98 (tgt := 121) rfl (fun g8 => ?_) (fun g8 => ?_)
              · have g8 := mt (nI_eq (a := x.pointSeries q) (b := w) (by omega) (by omega)).mpr g8
                refine lv_iconst (v := 0) hx hb d_M_parcel_121 (by decide) ?_
                exact J122 false (by simp [MS.inP, *]) H _ ls hP hD hS (lv_sub hl [0, 1, 2, 3, 4, 5, 6, 7, 8] rfl)
              · have g8 := (nI_eq (a := x.pointSeries q) (b := w) (by omega) (by omega)).mp g8
                refine lv_aload_n hx hb d_M_parcel_101 rfl (lv_at hl 8 rfl) ?_
                refine gF (v := .ref (ad 20)) hx hb hown hE hK hP 0 rfl rfl layM 20 (by decide) w506 rfl d_M_parcel_102 ?_
                refine lv_iload hx hb d_M_parcel_105 (lv_at hl 0 rfl) ?_
                refine nild (f := x.places) hx hb hK hP 9 1 rfl rfl (q) (by omega) (by decide) d_M_parcel_107 ?_
                refine lv_aload_n hx hb d_M_parcel_108 rfl (lv_at hl 8 rfl) ?_
                refine gF (v := .ref (ad 26)) hx hb hown hE hK hP 0 rfl rfl layM 26 (by decide) w509 rfl d_M_parcel_109 ?_
                refine lv_iload_n hx hb d_M_parcel_112 rfl (lv_at hl 6 rfl) ?_
                refine nild (f := (fun z9 => nI (x.parcels z9))) hx hb hK hP 12 1 rfl rfl (d) (by omega) (by decide) d_M_parcel_113 ?_
                refine lv_icmp_ne hx hb d_M_parcel_114 (tgt := 121) rfl (fun g9 => ?_) (fun g9 => ?_)
                · have g9 := g9
                  refine lv_iconst (v := 0) hx hb d_M_parcel_121 (by decide) ?_
                  exact J122 false (by simp [MS.inP, *]) H _ ls hP hD hS (lv_sub hl [0, 1, 2, 3, 4, 5, 6, 7, 8] rfl)
                · have g9 := g9
                  refine lv_iconst (v := 1) hx hb d_M_parcel_117 (by decide) ?_
                  refine lv_goto hx hb d_M_parcel_118 (tgt := 122) rfl ?_
                  exact J122 true (by simp [MS.inP, *]) H _ ls hP hD hS (lv_sub hl [0, 1, 2, 3, 4, 5, 6, 7, 8] rfl)
        exact L80 _ 0 a b (by omega) rfl rfl rfl H _ ls hP hD hS (lv_sub hl [0, 3, 4, 2, 5, 1, 6, 7, 8] rfl)
  exact L65 _ 0 0 0 0 (by omega) rfl rfl rfl (by omega) rfl H _ ls hP hD hS (lv_sub hl [0, 3, 2, 1, 5, 6, 4] rfl)
theorem d_M_parcel_217 : decode prog_14_method_49_code 217 = .ok (.iload_n 2, 1) := by decide +kernel
theorem d_M_parcel_218 : decode prog_14_method_49_code 218 = .ok (.iconst 3, 1) := by decide +kernel
theorem d_M_parcel_219 : decode prog_14_method_49_code 219 = .ok (.if_icmp .ne 24, 3) := by decide +kernel
theorem d_M_parcel_222 : decode prog_14_method_49_code 222 = .ok (.aload_n 0, 1) := by decide +kernel
theorem d_M_parcel_223 : decode prog_14_method_49_code 223 = .ok (.aload_n 0, 1) := by decide +kernel
theorem d_M_parcel_224 : decode prog_14_method_49_code 224 = .ok (.getfield 61, 3) := by decide +kernel
theorem d_M_parcel_227 : decode prog_14_method_49_code 227 = .ok (.iload_n 1, 1) := by decide +kernel
theorem d_M_parcel_228 : decode prog_14_method_49_code 228 = .ok (.iaload, 1) := by decide +kernel
theorem d_M_parcel_229 : decode prog_14_method_49_code 229 = .ok (.aload_n 0, 1) := by decide +kernel
theorem d_M_parcel_230 : decode prog_14_method_49_code 230 = .ok (.getfield 61, 3) := by decide +kernel
theorem d_M_parcel_233 : decode prog_14_method_49_code 233 = .ok (.iload_n 1, 1) := by decide +kernel
theorem d_M_parcel_234 : decode prog_14_method_49_code 234 = .ok (.iaload, 1) := by decide +kernel
theorem d_M_parcel_235 : decode prog_14_method_49_code 235 = .ok (.iconst 0, 1) := by decide +kernel
theorem d_M_parcel_236 : decode prog_14_method_49_code 236 = .ok (.invokevirtual 315, 3) := by decide +kernel
theorem d_M_parcel_239 : decode prog_14_method_49_code 239 = .ok (.l2i, 1) := by decide +kernel
theorem d_M_parcel_240 : decode prog_14_method_49_code 240 = .ok (.goto 9, 3) := by decide +kernel
theorem w914 : Cond.methodLink "SeriesVaultModel" 315 ⟨"SeriesVaultModel", "bitsOf", "(IIZ)J"⟩ ∈ aW := aw_of (tb_10 (List.mem_of_getElem? (i := 72) rfl)) rfl
theorem w915 : Cond.code ⟨"SeriesVaultModel", "bitsOf", "(IIZ)J"⟩ prog_14_method_39_code 23 (some FieldType.long) ∈ aW := aw_of (tb_10 (List.mem_of_getElem? (i := 75) rfl)) rfl
theorem w916 : Cond.instanceMethod ⟨"SeriesVaultModel", "bitsOf", "(IIZ)J"⟩ ∈ aW := aw_of (tb_10 (List.mem_of_getElem? (i := 74) rfl)) rfl
theorem w917 : Cond.selects "SeriesVaultModel" ⟨"SeriesVaultModel", "bitsOf", "(IIZ)J"⟩ ⟨"SeriesVaultModel", "bitsOf", "(IIZ)J"⟩ ∈ aW := aw_pr (List.mem_map.mpr ⟨_, pv_6 (List.mem_of_getElem? (i := 7) rfl), rfl⟩) rfl
set_option maxHeartbeats 4000000 in
set_option maxRecDepth 100000 in
theorem k_parcel0_3 (l : Launch) (D : va_G) (dA : Nat → ClassId) (sz : Nat) (h : Nat) (ad : Nat → Nat) (x : MS) (d : Nat) (ho : x.on = true) (hk : d < x.parcelCount) (f1 : x.parcelCount ≤ 40) (h1 : x.points ≤ 12000) (h2 : x.seriesCount ≤ 256) (hs : ∀ q : Nat, q < x.points → x.pointSeries q < 256) : Met l ⟨"SeriesVaultModel", "parcel", "(II)I"⟩ [Cond.code ⟨"SeriesVaultModel", "parcel", "(II)I"⟩ prog_14_method_49_code 10 (some FieldType.int)] { frames := 3, cells := 0, slots := 0, locals := 63 } (pC D dA [.ref h, .int (nI d), .int 3] (MW dA h ad x) sz) (va_Qi (fun (r9 : Int32) (u9 : Unit) => r9 = nI (x.bA (nI (x.parcels d)) (nI (x.parcels d)) false x.seriesCount)) (fun (u9 : Unit) t9 => bW D (va_A (MW dA h ad x) sz) (MW dA h ad (MS.s_cod x 0)) t9) (va_A (MW dA h ad x) sz)) 0 0 (va_A (MW dA h ad x) sz) := by
  refine mkC (y := ⟨"SeriesVaultModel", "parcel", "(II)I"⟩) (cc := prog_14_method_49_code) (maxL := 10) (av := [.ref h, .int (nI d), .int 3]) (ws := MW dA h ad x) (sz := sz) (Qc := fun A => va_Qi (fun (r9 : Int32) (u9 : Unit) => r9 = nI (x.bA (nI (x.parcels d)) (nI (x.parcels d)) false x.seriesCount)) (fun (u9 : Unit) t9 => bW D A (MW dA h ad (MS.s_cod x 0)) t9) A) (by decide) (Nat.le_of_ble_eq_true rfl) ?_
  intro A p e s m below meth c ls hsz hB
  obtain ⟨hx, hb, hr, hml, hown, hin, hlk, hE, hK, hP, hD, hS, hA, hN, hl⟩ := hB
  have hown : s.vm.findClass "SeriesVaultModel" = some m.cls := hown
  have hl : lv_has ls 10 [(0, .ref h), (1, .int (nI d)), (2, .int 3)] := hl
  obtain ⟨H, hH⟩ : ∃ z, z = s.heap := ⟨_, rfl⟩
  have hP : va_P D vwCl (MW dA h ad x) H := by rw [hH]; exact hP
  have hS : va_S A s.heap H [] := by rw [hH]; exact hS
  rw [← hH]
  refine lv_aload_n hx hb d_M_parcel_0 rfl (lv_at hl 0 rfl) ?_
  refine lv_aload_n hx hb d_M_parcel_1 rfl (lv_at hl 0 rfl) ?_
  refine gF (v := .int (bI x.on)) hx hb hown hE hK hP 0 rfl rfl layM 7 (by decide) w324 rfl d_M_parcel_2 ?_
  refine lv_if_ne hx hb d_M_parcel_5 (tgt := 12) rfl (fun _ => ?_) (fun h9 => absurd h9 (by rw [ho]; decide))
  refine lv_iload_n hx hb d_M_parcel_12 rfl (lv_at hl 1 rfl) ?_
  refine lv_if_lt hx hb d_M_parcel_13 (tgt := 24) rfl (fun h9 => absurd h9 (nI_pos (n := d) (by omega))) (fun _ => ?_)
  refine lv_iload_n hx hb d_M_parcel_16 rfl (lv_at hl 1 rfl) ?_
  refine lv_aload_n hx hb d_M_parcel_17 rfl (lv_at hl 0 rfl) ?_
  refine gF (v := .int (nI x.parcelCount)) hx hb hown hE hK hP 0 rfl rfl layM 28 (by decide) w344 rfl d_M_parcel_18 ?_
  refine lv_icmp_lt hx hb d_M_parcel_21 (tgt := 28) rfl (fun _ => ?_) (fun h9 => absurd ((nI_ltI (a := d) (b := x.parcelCount) (by omega) (by omega)).mpr hk) h9)
  refine lv_iload_n hx hb d_M_parcel_28 rfl (lv_at hl 2 rfl) ?_
  refine lv_if_lt hx hb d_M_parcel_29 (tgt := 37) rfl (fun h9 => absurd h9 (by decide)) (fun _ => ?_)
  refine lv_iload_n hx hb d_M_parcel_32 rfl (lv_at hl 2 rfl) ?_
  refine lv_iconst (v := 4) hx hb d_M_parcel_33 (by decide) ?_
  refine lv_icmp_le hx hb d_M_parcel_34 (tgt := 41) rfl (fun _ => ?_) (fun h9 => absurd (by decide) h9)
  refine lv_iconst (v := 0) hx hb d_M_parcel_41 (by decide) ?_
  refine pF (v := .int 0) hx hb hown hE hK hP hD hS 0 rfl rfl layM tyM tokM nmM 0 (by decide) w319 rfl rfl rfl (Nat.le_of_ble_eq_true rfl) d_M_parcel_42 (fun H locs hP hD hS => ?_)
  have hP : va_P D vwCl (MW dA h ad (MS.s_cod x 0)) H := hP
  have hD : va_D A (MW dA h ad (MS.s_cod x 0)) := hD
  refine lv_aload_n hx hb d_M_parcel_45 rfl (lv_at hl 0 rfl) ?_
  refine gF (v := .int 0) hx hb hown hE hK hP 0 rfl rfl layM 0 (by decide) w319 rfl d_M_parcel_46 ?_
  refine lv_if_le hx hb d_M_parcel_49 (tgt := 54) rfl (fun _ => ?_) (fun h9 => absurd (by decide) h9)
  refine lv_iconst (v := 0) hx hb d_M_parcel_54 (by decide) ?_
  refine lv_istore_n hx hb d_M_parcel_55 rfl hl (by decide) rfl (fun ls hl => ?_)
  have hl : lv_has ls 10 [(3, .int 0), (0, .ref h), (1, .int (nI d)), (2, .int 3)] := hl
  refine lv_iconst (v := 0) hx hb d_M_parcel_56 (by decide) ?_
  refine lv_istore hx hb d_M_parcel_57 hl (by decide) rfl (fun ls hl => ?_)
  have hl : lv_has ls 10 [(4, .int 0), (3, .int 0), (0, .ref h), (1, .int (nI d)), (2, .int 3)] := hl
  refine lv_iconst (v := 0) hx hb d_M_parcel_59 (by decide) ?_
  refine lv_istore hx hb d_M_parcel_60 hl (by decide) rfl (fun ls hl => ?_)
  have hl : lv_has ls 10 [(5, .int 0), (4, .int 0), (3, .int 0), (0, .ref h), (1, .int (nI d)), (2, .int 3)] := hl
  refine lv_iconst (v := 0) hx hb d_M_parcel_62 (by decide) ?_
  refine lv_istore hx hb d_M_parcel_63 hl (by decide) rfl (fun ls hl => ?_)
  have hl : lv_has ls 10 [(6, .int 0), (5, .int 0), (4, .int 0), (3, .int 0), (0, .ref h), (1, .int (nI d)), (2, .int 3)] := hl
  have L65 : ∀ (k9 : Nat) (w : Nat) (a : Nat) (b : Nat) (n : Nat) (i1 : w ≤ x.seriesCount) (i2 : a = sumN w (fun z => cnt x.points (x.inP (x.parcels d) z))) (i3 : b = sumN w (fun z => cnt x.points (fun y => x.inP (x.parcels d) z y && x.seen y))) (i4 : n = cnt w (fun z => decide (0 < cnt x.points (x.inP (x.parcels d) z)))) (i5 : a ≤ 12000 * w) (hk9 : x.seriesCount - w = k9), ∀ (H : Heap) (locs : List Loc) (ls : Array Slot) (hP : va_P D vwCl (MW dA h ad (MS.s_cod x 0)) H) (hD : va_D A (MW dA h ad (MS.s_cod x 0))) (hS : va_S A s.heap H locs) (hl : lv_has ls 10 [(6, .int (nI w)), (3, .int (nI a)), (4, .int (nI b)), (5, .int (nI n)), (1, .int (nI d)), (2, .int 3), (0, .ref h)]), W p l e ({ frames := 3, cells := 0, slots := 0, locals := 63 } : Room) s m ([.ref h, .int (nI d), .int 3] : List Value).toArray below meth c H locs 0 0 (MQ below (va_Qi (fun (r9 : Int32) (u9 : Unit) => r9 = nI (x.bA (nI (x.parcels d)) (nI (x.parcels d)) false x.seriesCount)) (fun (u9 : Unit) t9 => bW D A (MW dA h ad (MS.s_cod x 0)) t9) A) ([.ref h, .int (nI d), .int 3] : List Value).toArray s 0 0 A) (F0 m 65 ls []) := by
    intro k9
    induction k9 using Nat.strongRecOn with
    | ind k9 ih65 =>
      intro w a b n i1 i2 i3 i4 i5 hk9 H locs ls hP hD hS hl
      refine lv_iload hx hb d_M_parcel_65 (lv_at hl 0 rfl) ?_
      refine lv_aload_n hx hb d_M_parcel_67 rfl (lv_at hl 6 rfl) ?_
      refine gF (v := .int (nI x.seriesCount)) hx hb hown hE hK hP 0 rfl rfl layM 12 (by decide) w332 rfl d_M_parcel_68 ?_
      refine lv_icmp_ge hx hb d_M_parcel_71 (tgt := 189) rfl (fun g1 => ?_) (fun g1 => ?_)
      · have g1 := (nI_leI (a := x.seriesCount) (b := w) (by omega) (by omega)).mp g1
        refine lv_iload_n hx hb d_M_parcel_189 rfl (lv_at hl 5 rfl) ?_
        refine lv_if_ne hx hb d_M_parcel_190 (tgt := 197) rfl (fun _ => ?_) (fun h9 => absurd h9 (by decide))
        refine lv_iload_n hx hb d_M_parcel_197 rfl (lv_at hl 5 rfl) ?_
        refine lv_iconst (v := 1) hx hb d_M_parcel_198 (by decide) ?_
        refine lv_icmp_ne hx hb d_M_parcel_199 (tgt := 207) rfl (fun _ => ?_) (fun h9 => absurd h9 (by decide))
        refine lv_iload_n hx hb d_M_parcel_207 rfl (lv_at hl 5 rfl) ?_
        refine lv_iconst (v := 2) hx hb d_M_parcel_208 (by decide) ?_
        refine lv_icmp_ne hx hb d_M_parcel_209 (tgt := 217) rfl (fun _ => ?_) (fun h9 => absurd h9 (by decide))
        refine lv_iload_n hx hb d_M_parcel_217 rfl (lv_at hl 5 rfl) ?_
        refine lv_iconst (v := 3) hx hb d_M_parcel_218 (by decide) ?_
        refine lv_icmp_ne hx hb d_M_parcel_219 (tgt := 243) rfl (fun h9 => absurd (by decide) h9) (fun _ => ?_)
        refine lv_aload_n hx hb d_M_parcel_222 rfl (lv_at hl 6 rfl) ?_
        refine lv_aload_n hx hb d_M_parcel_223 rfl (lv_at hl 6 rfl) ?_
        refine gF (v := .ref (ad 26)) hx hb hown hE hK hP 0 rfl rfl layM 26 (by decide) w509 rfl d_M_parcel_224 ?_
        refine lv_iload_n hx hb d_M_parcel_227 rfl (lv_at hl 4 rfl) ?_
        refine nild (f := (fun z9 => nI (x.parcels z9))) hx hb hK hP 12 1 rfl rfl (d) (by omega) (by decide) d_M_parcel_228 ?_
        refine lv_aload_n hx hb d_M_parcel_229 rfl (lv_at hl 6 rfl) ?_
        refine gF (v := .ref (ad 26)) hx hb hown hE hK hP 0 rfl rfl layM 26 (by decide) w509 rfl d_M_parcel_230 ?_
        refine lv_iload_n hx hb d_M_parcel_233 rfl (lv_at hl 4 rfl) ?_
        refine nild (f := (fun z9 => nI (x.parcels z9))) hx hb hK hP 12 1 rfl rfl (d) (by omega) (by decide) d_M_parcel_234 ?_
        refine lv_iconst (v := 0) hx hb d_M_parcel_235 (by decide) ?_
        refine jfL (rnV (As := [.int (nI (x.parcels d)), .int (nI (x.parcels d)), .int 0]) (rest := []) hx hb hml hown hE hK (hN _ _ hS) hP hD (k_bitsOf l D dA H.size h ad (MS.s_cod x 0) (nI (x.parcels d)) (nI (x.parcels d)) false (show x.points ≤ 12000 from by omega) (show x.seriesCount ≤ 256 from by omega) hs) (q0 := 0) rfl rfl w915 w914 w916 w917 w328 rfl rfl ⟨⟨by decide, by decide⟩, rfl⟩ ⟨(Nat.le_of_ble_eq_true rfl), (Nat.le_of_ble_eq_true rfl)⟩ rfl hl.1 rfl (Nat.le_of_ble_eq_true rfl) d_M_parcel_236 ⟨(Nat.le_of_ble_eq_true rfl), (Nat.le_of_ble_eq_true rfl)⟩) hP hD hS hA (fun r2 u3 H locs hp9 hP hD hS => ?_)
        have hP : va_P D vwCl (MW dA h ad (MS.s_cod x 0)) H := hP
        have hD : va_D A (MW dA h ad (MS.s_cod x 0)) := hD
        replace hp9 : r2 = lN (x.bA (nI (x.parcels d)) (nI (x.parcels d)) false x.seriesCount) := hp9.trans (congrArg lN (bA_ext rfl rfl rfl rfl rfl rfl rfl))
        replace hp9 : lN (x.bA (nI (x.parcels d)) (nI (x.parcels d)) false x.seriesCount) = r2 := Eq.symm hp9
        subst hp9
        refine lv_l2i hx hb d_M_parcel_239 rfl ?_
        refine tpi (y := nI (x.bA (nI (x.parcels d)) (nI (x.parcels d)) false x.seriesCount)) (lN_i _) ?_
        refine lv_goto hx hb d_M_parcel_240 (tgt := 249) rfl ?_
        exact rfI hx hb hr hlk hS () (by first | rfl | rw [i2, show w = x.seriesCount by omega] | rw [i3, show w = x.seriesCount by omega] | rw [i4, show w = x.seriesCount by omega]) hP hD (Nat.le_of_ble_eq_true rfl) (Nat.le_of_ble_eq_true rfl) d_M_parcel_249
      · have g1 := mt (nI_leI (a := x.seriesCount) (b := w) (by omega) (by omega)).mpr g1
        refine lv_iload_n hx hb d_M_parcel_74 rfl (lv_at hl 1 rfl) ?_
        refine lv_istore hx hb d_M_parcel_75 hl (by decide) rfl (fun ls hl => ?_)
        have hl : lv_has ls 10 [(7, .int (nI a)), (6, .int (nI w)), (3, .int (nI a)), (4, .int (nI b)), (5, .int (nI n)), (1, .int (nI d)), (2, .int 3), (0, .ref h)] := hl
        refine lv_iconst (v := 0) hx hb d_M_parcel_77 (by decide) ?_
        refine lv_istore hx hb d_M_parcel_78 hl (by decide) rfl (fun ls hl => ?_)
        have hl : lv_has ls 10 [(8, .int 0), (7, .int (nI a)), (6, .int (nI w)), (3, .int (nI a)), (4, .int (nI b)), (5, .int (nI n)), (1, .int (nI d)), (2, .int 3), (0, .ref h)] := hl
        have L80 : ∀ (k9 : Nat) (q : Nat) (a2 : Nat) (b2 : Nat) (j1 : q ≤ x.points) (j2 : a2 = a + cnt q (x.inP (x.parcels d) w)) (j3 : b2 = b + cnt q (fun y => x.inP (x.parcels d) w y && x.seen y)) (hk9 : x.points - q = k9), ∀ (H : Heap) (locs : List Loc) (ls : Array Slot) (hP : va_P D vwCl (MW dA h ad (MS.s_cod x 0)) H) (hD : va_D A (MW dA h ad (MS.s_cod x 0))) (hS : va_S A s.heap H locs) (hl : lv_has ls 10 [(8, .int (nI q)), (3, .int (nI a2)), (4, .int (nI b2)), (6, .int (nI w)), (5, .int (nI n)), (7, .int (nI a)), (1, .int (nI d)), (2, .int 3), (0, .ref h)]), W p l e ({ frames := 3, cells := 0, slots := 0, locals := 63 } : Room) s m ([.ref h, .int (nI d), .int 3] : List Value).toArray below meth c H locs 0 0 (MQ below (va_Qi (fun (r9 : Int32) (u9 : Unit) => r9 = nI (x.bA (nI (x.parcels d)) (nI (x.parcels d)) false x.seriesCount)) (fun (u9 : Unit) t9 => bW D A (MW dA h ad (MS.s_cod x 0)) t9) A) ([.ref h, .int (nI d), .int 3] : List Value).toArray s 0 0 A) (F0 m 80 ls []) := by
          intro k9
          induction k9 using Nat.strongRecOn with
          | ind k9 ih80 =>
            intro q a2 b2 j1 j2 j3 hk9 H locs ls hP hD hS hl
            have hz := cnt_le q (x.inP (x.parcels d) w)
            refine lv_iload hx hb d_M_parcel_80 (lv_at hl 0 rfl) ?_
            refine lv_aload_n hx hb d_M_parcel_82 rfl (lv_at hl 8 rfl) ?_
            refine gF (v := .int (nI x.points)) hx hb hown hE hK hP 0 rfl rfl layM 23 (by decide) w420 rfl d_M_parcel_83 ?_
            refine lv_icmp_ge hx hb d_M_parcel_86 (tgt := 167) rfl (fun g4 => ?_) (fun g4 => ?_)
            · have g4 := (nI_leI (a := x.points) (b := q) (by omega) (by omega)).mp g4
              refine lv_iload hx hb d_M_parcel_167 (lv_at hl 4 rfl) ?_
              refine lv_iload_n hx hb d_M_parcel_169 rfl (lv_at hl 1 rfl) ?_
              refine lv_iload hx hb d_M_parcel_170 (lv_at hl 5 rfl) ?_
              refine lv_icmp_le hx hb d_M_parcel_172 (tgt := 179) rfl (fun g5 => ?_) (fun g5 => ?_)
              · have g5 := (nI_leI (a := a2) (b := a) (by omega) (by omega)).mp g5
                refine lv_iconst (v := 0) hx hb d_M_parcel_179 (by decide) ?_
                refine lv_iadd hx hb d_M_parcel_180 (tpi (y := nI (n)) (nI_add (n) (0)) ?_)
                refine lv_istore hx hb d_M_parcel_181 hl (by decide) rfl (fun ls hl => ?_)
                have hl : lv_has ls 10 [(5, .int (nI (n))), (8, .int (nI q)), (3, .int (nI a2)), (4, .int (nI b2)), (6, .int (nI w)), (7, .int (nI a)), (1, .int (nI d)), (2, .int 3), (0, .ref h)] := hl
                refine lv_iinc (k := 4) (v := nI (w + 1)) hx hb d_M_parcel_183 hl rfl (iincN (w) 1 1 (by decide)) (by decide) rfl (fun ls hl => ?_)
                have hl : lv_has ls 10 [(6, .int (nI (w + 1))), (5, .int (nI (n))), (8, .int (nI q)), (3, .int (nI a2)), (4, .int (nI b2)), (7, .int (nI a)), (1, .int (nI d)), (2, .int 3), (0, .ref h)] := hl
                refine lv_goto hx hb d_M_parcel_186 (tgt := 65) rfl ?_
                exact ih65 _ (by omega) (w + 1) a2 b2 n (by omega) (by show _ = sumN w _ + cnt x.points (x.inP (x.parcels d) w); rw [← i2, ← show q = x.points by omega, j2]) (by show _ = sumN w _ + cnt x.points (fun y => x.inP (x.parcels d) w y && x.seen y); rw [← i3, ← show q = x.points by omega, j3]) (chk0 (F := (fun z => cnt x.points (x.inP (x.parcels d) z))) i4 (show a2 = a + cnt x.points (x.inP (x.parcels d) w) from by rw [← show q = x.points by omega]; exact j2) g5) (by have hz := cnt_le q (x.inP (x.parcels d) w); omega) rfl H _ ls hP hD hS (lv_sub hl [0, 3, 4, 1, 6, 7, 8] rfl)
              · have g5 := mt (nI_leI (a := a2) (b := a) (by omega) (by omega)).mpr g5
                refine lv_iconst (v := 1) hx hb d_M_parcel_175 (by decide) ?_
                refine lv_goto hx hb d_M_parcel_176 (tgt := 180) rfl ?_
                refine lv_iadd hx hb d_M_parcel_180 (tpi (y := nI (n + 1)) (nI_add (n) (1)) ?_)
                refine lv_istore hx hb d_M_parcel_181 hl (by decide) rfl (fun ls hl => ?_)
                have hl : lv_has ls 10 [(5, .int (nI (n + 1))), (8, .int (nI q)), (3, .int (nI a2)), (4, .int (nI b2)), (6, .int (nI w)), (7, .int (nI a)), (1, .int (nI d)), (2, .int 3), (0, .ref h)] := hl
                refine lv_iinc (k := 4) (v := nI (w + 1)) hx hb d_M_parcel_183 hl rfl (iincN (w) 1 1 (by decide)) (by decide) rfl (fun ls hl => ?_)
                have hl : lv_has ls 10 [(6, .int (nI (w + 1))), (5, .int (nI (n + 1))), (8, .int (nI q)), (3, .int (nI a2)), (4, .int (nI b2)), (7, .int (nI a)), (1, .int (nI d)), (2, .int 3), (0, .ref h)] := hl
                refine lv_goto hx hb d_M_parcel_186 (tgt := 65) rfl ?_
                exact ih65 _ (by omega) (w + 1) a2 b2 (n + 1) (by omega) (by show _ = sumN w _ + cnt x.points (x.inP (x.parcels d) w); rw [← i2, ← show q = x.points by omega, j2]) (by show _ = sumN w _ + cnt x.points (fun y => x.inP (x.parcels d) w y && x.seen y); rw [← i3, ← show q = x.points by omega, j3]) (chk (F := (fun z => cnt x.points (x.inP (x.parcels d) z))) i4 (show a2 = a + cnt x.points (x.inP (x.parcels d) w) from by rw [← show q = x.points by omega]; exact j2) g5) (by have hz := cnt_le q (x.inP (x.parcels d) w); omega) rfl H _ ls hP hD hS (lv_sub hl [0, 3, 4, 1, 6, 7, 8] rfl)
            · have g4 := mt (nI_leI (a := x.points) (b := q) (by omega) (by omega)).mpr g4
              have J122 : ∀ (v : Bool) (j9 : x.inP (x.parcels d) w q = v), ∀ (H : Heap) (locs : List Loc) (ls : Array Slot) (hP : va_P D vwCl (MW dA h ad (MS.s_cod x 0)) H) (hD : va_D A (MW dA h ad (MS.s_cod x 0))) (hS : va_S A s.heap H locs) (hl : lv_has ls 10 [(8, .int (nI q)), (3, .int (nI a2)), (4, .int (nI b2)), (6, .int (nI w)), (5, .int (nI n)), (7, .int (nI a)), (1, .int (nI d)), (2, .int 3), (0, .ref h)]), W p l e ({ frames := 3, cells := 0, slots := 0, locals := 63 } : Room) s m ([.ref h, .int (nI d), .int 3] : List Value).toArray below meth c H locs 0 0 (MQ below (va_Qi (fun (r9 : Int32) (u9 : Unit) => r9 = nI (x.bA (nI (x.parcels d)) (nI (x.parcels d)) false x.seriesCount)) (fun (u9 : Unit) t9 => bW D A (MW dA h ad (MS.s_cod x 0)) t9) A) ([.ref h, .int (nI d), .int 3] : List Value).toArray s 0 0 A) (F0 m 122 ls [.int (bI v)]) := by
                intro v j9 H locs ls hP hD hS hl
                refine lv_istore hx hb d_M_parcel_122 hl (by decide) rfl (fun ls hl => ?_)
                have hl : lv_has ls 10 [(9, .int (bI v)), (8, .int (nI q)), (3, .int (nI a2)), (4, .int (nI b2)), (6, .int (nI w)), (5, .int (nI n)), (7, .int (nI a)), (1, .int (nI d)), (2, .int 3), (0, .ref h)] := hl
                refine lv_iload_n hx hb d_M_parcel_124 rfl (lv_at hl 2 rfl) ?_
                refine lv_iload hx hb d_M_parcel_125 (lv_at hl 0 rfl) ?_
                refine lv_if_eq hx hb d_M_parcel_127 (tgt := 134) rfl (fun g6 => ?_) (fun g6 => ?_)
                · have g6 := bI_0 g6
                  refine lv_iconst (v := 0) hx hb d_M_parcel_134 (by decide) ?_
                  refine lv_iadd hx hb d_M_parcel_135 (tpi (y := nI (a2)) (nI_add (a2) (0)) ?_)
                  refine lv_istore_n hx hb d_M_parcel_136 rfl hl (by decide) rfl (fun ls hl => ?_)
                  have hl : lv_has ls 10 [(3, .int (nI (a2))), (9, .int (bI v)), (8, .int (nI q)), (4, .int (nI b2)), (6, .int (nI w)), (5, .int (nI n)), (7, .int (nI a)), (1, .int (nI d)), (2, .int 3), (0, .ref h)] := hl
                  refine lv_iload hx hb d_M_parcel_137 (lv_at hl 3 rfl) ?_
                  refine lv_iload hx hb d_M_parcel_139 (lv_at hl 1 rfl) ?_
                  refine lv_if_eq hx hb d_M_parcel_141 (tgt := 157) rfl (fun _ => ?_) (fun h9 => absurd (by rw [g6]; decide) h9)
                  refine lv_iconst (v := 0) hx hb d_M_parcel_157 (by decide) ?_
                  refine lv_iadd hx hb d_M_parcel_158 (tpi (y := nI (b2)) (nI_add (b2) (0)) ?_)
                  refine lv_istore hx hb d_M_parcel_159 hl (by decide) rfl (fun ls hl => ?_)
                  have hl : lv_has ls 10 [(4, .int (nI (b2))), (3, .int (nI (a2))), (9, .int (bI v)), (8, .int (nI q)), (6, .int (nI w)), (5, .int (nI n)), (7, .int (nI a)), (1, .int (nI d)), (2, .int 3), (0, .ref h)] := hl
                  refine lv_iinc (k := 3) (v := nI (q + 1)) hx hb d_M_parcel_161 hl rfl (iincN (q) 1 1 (by decide)) (by decide) rfl (fun ls hl => ?_)
                  have hl : lv_has ls 10 [(8, .int (nI (q + 1))), (4, .int (nI (b2))), (3, .int (nI (a2))), (9, .int (bI v)), (6, .int (nI w)), (5, .int (nI n)), (7, .int (nI a)), (1, .int (nI d)), (2, .int 3), (0, .ref h)] := hl
                  refine lv_goto hx hb d_M_parcel_164 (tgt := 80) rfl ?_
                  exact ih80 _ (by omega) (q + 1) a2 b2 (by omega) (by simp [cnt, *, Nat.add_assoc]) (by simp [cnt, *, Nat.add_assoc]) rfl H _ ls hP hD hS (lv_sub hl [0, 2, 1, 4, 5, 6, 7, 8, 9] rfl)
                · have g6 := bI_n0 g6
                  refine lv_iconst (v := 1) hx hb d_M_parcel_130 (by decide) ?_
                  refine lv_goto hx hb d_M_parcel_131 (tgt := 135) rfl ?_
                  refine lv_iadd hx hb d_M_parcel_135 (tpi (y := nI (a2 + 1)) (nI_add (a2) (1)) ?_)
                  refine lv_istore_n hx hb d_M_parcel_136 rfl hl (by decide) rfl (fun ls hl => ?_)
                  have hl : lv_has ls 10 [(3, .int (nI (a2 + 1))), (9, .int (bI v)), (8, .int (nI q)), (4, .int (nI b2)), (6, .int (nI w)), (5, .int (nI n)), (7, .int (nI a)), (1, .int (nI d)), (2, .int 3), (0, .ref h)] := hl
                  refine lv_iload hx hb d_M_parcel_137 (lv_at hl 3 rfl) ?_
                  refine lv_iload hx hb d_M_parcel_139 (lv_at hl 1 rfl) ?_
                  refine lv_if_eq hx hb d_M_parcel_141 (tgt := 157) rfl (fun h9 => absurd h9 (by rw [g6]; decide)) (fun _ => ?_)
                  refine lv_aload_n hx hb d_M_parcel_144 rfl (lv_at hl 9 rfl) ?_
                  refine lv_iload hx hb d_M_parcel_145 (lv_at hl 2 rfl) ?_
                  refine jfI (rnV (As := [.int (nI q)]) (rest := [.int (nI b2)]) hx hb hml hown hE hK (hN _ _ hS) hP hD (k_isSeen l D dA H.size h ad (MS.s_cod x 0) q (show q < 12000 from by omega)) (q0 := 0) rfl rfl w861 w860 w862 w863 w328 rfl rfl ⟨⟨by decide, by decide⟩, rfl⟩ ⟨(Nat.le_of_ble_eq_true rfl), (Nat.le_of_ble_eq_true rfl)⟩ rfl hl.1 rfl (Nat.le_of_ble_eq_true rfl) d_M_parcel_147 ⟨(Nat.le_of_ble_eq_true rfl), (Nat.le_of_ble_eq_true rfl)⟩) hP hD hS hA (fun r7 u8 H locs hp9 hP hD hS => ?_)
                  have hP : va_P D vwCl (MW dA h ad (MS.s_cod x 0)) H := hP
                  have hD : va_D A (MW dA h ad (MS.s_cod x 0)) := hD
                  replace hp9 : bI (x.seen q) = r7 := Eq.symm hp9
                  subst hp9
                  refine lv_if_eq hx hb d_M_parcel_150 (tgt := 157) rfl (fun g9 => ?_) (fun g9 => ?_)
                  · have g9 := bI_0 g9
                    refine lv_iconst (v := 0) hx hb d_M_parcel_157 (by decide) ?_
                    refine lv_iadd hx hb d_M_parcel_158 (tpi (y := nI (b2)) (nI_add (b2) (0)) ?_)
                    refine lv_istore hx hb d_M_parcel_159 hl (by decide) rfl (fun ls hl => ?_)
                    have hl : lv_has ls 10 [(4, .int (nI (b2))), (3, .int (nI (a2 + 1))), (9, .int (bI v)), (8, .int (nI q)), (6, .int (nI w)), (5, .int (nI n)), (7, .int (nI a)), (1, .int (nI d)), (2, .int 3), (0, .ref h)] := hl
                    refine lv_iinc (k := 3) (v := nI (q + 1)) hx hb d_M_parcel_161 hl rfl (iincN (q) 1 1 (by decide)) (by decide) rfl (fun ls hl => ?_)
                    have hl : lv_has ls 10 [(8, .int (nI (q + 1))), (4, .int (nI (b2))), (3, .int (nI (a2 + 1))), (9, .int (bI v)), (6, .int (nI w)), (5, .int (nI n)), (7, .int (nI a)), (1, .int (nI d)), (2, .int 3), (0, .ref h)] := hl
                    refine lv_goto hx hb d_M_parcel_164 (tgt := 80) rfl ?_
                    exact ih80 _ (by omega) (q + 1) (a2 + 1) b2 (by omega) (by simp [cnt, *, Nat.add_assoc]) (by simp [cnt, *, Nat.add_assoc]) rfl H _ ls hP hD hS (lv_sub hl [0, 2, 1, 4, 5, 6, 7, 8, 9] rfl)
                  · have g9 := bI_n0 g9
                    refine lv_iconst (v := 1) hx hb d_M_parcel_153 (by decide) ?_
                    refine lv_goto hx hb d_M_parcel_154 (tgt := 158) rfl ?_
                    refine lv_iadd hx hb d_M_parcel_158 (tpi (y := nI (b2 + 1)) (nI_add (b2) (1)) ?_)
                    refine lv_istore hx hb d_M_parcel_159 hl (by decide) rfl (fun ls hl => ?_)
                    have hl : lv_has ls 10 [(4, .int (nI (b2 + 1))), (3, .int (nI (a2 + 1))), (9, .int (bI v)), (8, .int (nI q)), (6, .int (nI w)), (5, .int (nI n)), (7, .int (nI a)), (1, .int (nI d)), (2, .int 3), (0, .ref h)] := hl
                    refine lv_iinc (k := 3) (v := nI (q + 1)) hx hb d_M_parcel_161 hl rfl (iincN (q) 1 1 (by decide)) (by decide) rfl (fun ls hl => ?_)
                    have hl : lv_has ls 10 [(8, .int (nI (q + 1))), (4, .int (nI (b2 + 1))), (3, .int (nI (a2 + 1))), (9, .int (bI v)), (6, .int (nI w)), (5, .int (nI n)), (7, .int (nI a)), (1, .int (nI d)), (2, .int 3), (0, .ref h)] := hl
                    refine lv_goto hx hb d_M_parcel_164 (tgt := 80) rfl ?_
                    exact ih80 _ (by omega) (q + 1) (a2 + 1) (b2 + 1) (by omega) (by simp [cnt, *, Nat.add_assoc]) (by simp [cnt, *, Nat.add_assoc]) rfl H _ ls hP hD hS (lv_sub hl [0, 2, 1, 4, 5, 6, 7, 8, 9] rfl)
              refine lv_aload_n hx hb d_M_parcel_89 rfl (lv_at hl 8 rfl) ?_
              refine gF (v := .ref (ad 17)) hx hb hown hE hK hP 0 rfl rfl layM 17 (by decide) w503 rfl d_M_parcel_90 ?_
              refine lv_iload hx hb d_M_parcel_93 (lv_at hl 0 rfl) ?_
              refine nild (f := (fun z9 => nI (x.pointSeries z9))) hx hb hK hP 6 1 rfl rfl (q) (by omega) (by decide) d_M_parcel_95 ?_
              refine lv_iload hx hb d_M_parcel_96 (lv_at hl 3 rfl) ?_
              have b1 := hs q (by omega)
              refine lv_icmp_ne hx hb d_M_parcel_98 (tgt := 121) rfl (fun g10 => ?_) (fun g10 => ?_)
              · have g10 := mt (nI_eq (a := x.pointSeries q) (b := w) (by omega) (by omega)).mpr g10
                refine lv_iconst (v := 0) hx hb d_M_parcel_121 (by decide) ?_
                exact J122 false (by simp [MS.inP, *]) H _ ls hP hD hS (lv_sub hl [0, 1, 2, 3, 4, 5, 6, 7, 8] rfl)
              · have g10 := (nI_eq (a := x.pointSeries q) (b := w) (by omega) (by omega)).mp g10
                refine lv_aload_n hx hb d_M_parcel_101 rfl (lv_at hl 8 rfl) ?_
                refine gF (v := .ref (ad 20)) hx hb hown hE hK hP 0 rfl rfl layM 20 (by decide) w506 rfl d_M_parcel_102 ?_
                refine lv_iload hx hb d_M_parcel_105 (lv_at hl 0 rfl) ?_
                refine nild (f := x.places) hx hb hK hP 9 1 rfl rfl (q) (by omega) (by decide) d_M_parcel_107 ?_
                refine lv_aload_n hx hb d_M_parcel_108 rfl (lv_at hl 8 rfl) ?_
                refine gF (v := .ref (ad 26)) hx hb hown hE hK hP 0 rfl rfl layM 26 (by decide) w509 rfl d_M_parcel_109 ?_
                refine lv_iload_n hx hb d_M_parcel_112 rfl (lv_at hl 6 rfl) ?_
                refine nild (f := (fun z9 => nI (x.parcels z9))) hx hb hK hP 12 1 rfl rfl (d) (by omega) (by decide) d_M_parcel_113 ?_
                refine lv_icmp_ne hx hb d_M_parcel_114 (tgt := 121) rfl (fun g11 => ?_) (fun g11 => ?_)
                · have g11 := g11
                  refine lv_iconst (v := 0) hx hb d_M_parcel_121 (by decide) ?_
                  exact J122 false (by simp [MS.inP, *]) H _ ls hP hD hS (lv_sub hl [0, 1, 2, 3, 4, 5, 6, 7, 8] rfl)
                · have g11 := g11
                  refine lv_iconst (v := 1) hx hb d_M_parcel_117 (by decide) ?_
                  refine lv_goto hx hb d_M_parcel_118 (tgt := 122) rfl ?_
                  exact J122 true (by simp [MS.inP, *]) H _ ls hP hD hS (lv_sub hl [0, 1, 2, 3, 4, 5, 6, 7, 8] rfl)
        exact L80 _ 0 a b (by omega) rfl rfl rfl H _ ls hP hD hS (lv_sub hl [0, 3, 4, 2, 5, 1, 6, 7, 8] rfl)
  exact L65 _ 0 0 0 0 (by omega) rfl rfl rfl (by omega) rfl H _ ls hP hD hS (lv_sub hl [0, 3, 2, 1, 5, 6, 4] rfl)
theorem d_M_parcel_243 : decode prog_14_method_49_code 243 = .ok (.aload_n 0, 1) := by decide +kernel
theorem d_M_parcel_244 : decode prog_14_method_49_code 244 = .ok (.getfield 64, 3) := by decide +kernel
theorem d_M_parcel_247 : decode prog_14_method_49_code 247 = .ok (.iload_n 1, 1) := by decide +kernel
theorem d_M_parcel_248 : decode prog_14_method_49_code 248 = .ok (.iaload, 1) := by decide +kernel
set_option maxHeartbeats 4000000 in
set_option maxRecDepth 100000 in
theorem k_parcel0_4 (l : Launch) (D : va_G) (dA : Nat → ClassId) (sz : Nat) (h : Nat) (ad : Nat → Nat) (x : MS) (d : Nat) (ho : x.on = true) (hk : d < x.parcelCount) (f1 : x.parcelCount ≤ 40) (h1 : x.points ≤ 12000) (h2 : x.seriesCount ≤ 256) (hs : ∀ q : Nat, q < x.points → x.pointSeries q < 256) : Met l ⟨"SeriesVaultModel", "parcel", "(II)I"⟩ [Cond.code ⟨"SeriesVaultModel", "parcel", "(II)I"⟩ prog_14_method_49_code 10 (some FieldType.int)] { frames := 2, cells := 0, slots := 0, locals := 21 } (pC D dA [.ref h, .int (nI d), .int 4] (MW dA h ad x) sz) (va_Qi (fun (r9 : Int32) (u9 : Unit) => r9 = nI (x.parcelBlocks d)) (fun (u9 : Unit) t9 => bW D (va_A (MW dA h ad x) sz) (MW dA h ad (MS.s_cod x 0)) t9) (va_A (MW dA h ad x) sz)) 0 0 (va_A (MW dA h ad x) sz) := by
  refine mkC (y := ⟨"SeriesVaultModel", "parcel", "(II)I"⟩) (cc := prog_14_method_49_code) (maxL := 10) (av := [.ref h, .int (nI d), .int 4]) (ws := MW dA h ad x) (sz := sz) (Qc := fun A => va_Qi (fun (r9 : Int32) (u9 : Unit) => r9 = nI (x.parcelBlocks d)) (fun (u9 : Unit) t9 => bW D A (MW dA h ad (MS.s_cod x 0)) t9) A) (by decide) (Nat.le_of_ble_eq_true rfl) ?_
  intro A p e s m below meth c ls hsz hB
  obtain ⟨hx, hb, hr, hml, hown, hin, hlk, hE, hK, hP, hD, hS, hA, hN, hl⟩ := hB
  have hown : s.vm.findClass "SeriesVaultModel" = some m.cls := hown
  have hl : lv_has ls 10 [(0, .ref h), (1, .int (nI d)), (2, .int 4)] := hl
  obtain ⟨H, hH⟩ : ∃ z, z = s.heap := ⟨_, rfl⟩
  have hP : va_P D vwCl (MW dA h ad x) H := by rw [hH]; exact hP
  have hS : va_S A s.heap H [] := by rw [hH]; exact hS
  rw [← hH]
  refine lv_aload_n hx hb d_M_parcel_0 rfl (lv_at hl 0 rfl) ?_
  refine lv_aload_n hx hb d_M_parcel_1 rfl (lv_at hl 0 rfl) ?_
  refine gF (v := .int (bI x.on)) hx hb hown hE hK hP 0 rfl rfl layM 7 (by decide) w324 rfl d_M_parcel_2 ?_
  refine lv_if_ne hx hb d_M_parcel_5 (tgt := 12) rfl (fun _ => ?_) (fun h9 => absurd h9 (by rw [ho]; decide))
  refine lv_iload_n hx hb d_M_parcel_12 rfl (lv_at hl 1 rfl) ?_
  refine lv_if_lt hx hb d_M_parcel_13 (tgt := 24) rfl (fun h9 => absurd h9 (nI_pos (n := d) (by omega))) (fun _ => ?_)
  refine lv_iload_n hx hb d_M_parcel_16 rfl (lv_at hl 1 rfl) ?_
  refine lv_aload_n hx hb d_M_parcel_17 rfl (lv_at hl 0 rfl) ?_
  refine gF (v := .int (nI x.parcelCount)) hx hb hown hE hK hP 0 rfl rfl layM 28 (by decide) w344 rfl d_M_parcel_18 ?_
  refine lv_icmp_lt hx hb d_M_parcel_21 (tgt := 28) rfl (fun _ => ?_) (fun h9 => absurd ((nI_ltI (a := d) (b := x.parcelCount) (by omega) (by omega)).mpr hk) h9)
  refine lv_iload_n hx hb d_M_parcel_28 rfl (lv_at hl 2 rfl) ?_
  refine lv_if_lt hx hb d_M_parcel_29 (tgt := 37) rfl (fun h9 => absurd h9 (by decide)) (fun _ => ?_)
  refine lv_iload_n hx hb d_M_parcel_32 rfl (lv_at hl 2 rfl) ?_
  refine lv_iconst (v := 4) hx hb d_M_parcel_33 (by decide) ?_
  refine lv_icmp_le hx hb d_M_parcel_34 (tgt := 41) rfl (fun _ => ?_) (fun h9 => absurd (by decide) h9)
  refine lv_iconst (v := 0) hx hb d_M_parcel_41 (by decide) ?_
  refine pF (v := .int 0) hx hb hown hE hK hP hD hS 0 rfl rfl layM tyM tokM nmM 0 (by decide) w319 rfl rfl rfl (Nat.le_of_ble_eq_true rfl) d_M_parcel_42 (fun H locs hP hD hS => ?_)
  have hP : va_P D vwCl (MW dA h ad (MS.s_cod x 0)) H := hP
  have hD : va_D A (MW dA h ad (MS.s_cod x 0)) := hD
  refine lv_aload_n hx hb d_M_parcel_45 rfl (lv_at hl 0 rfl) ?_
  refine gF (v := .int 0) hx hb hown hE hK hP 0 rfl rfl layM 0 (by decide) w319 rfl d_M_parcel_46 ?_
  refine lv_if_le hx hb d_M_parcel_49 (tgt := 54) rfl (fun _ => ?_) (fun h9 => absurd (by decide) h9)
  refine lv_iconst (v := 0) hx hb d_M_parcel_54 (by decide) ?_
  refine lv_istore_n hx hb d_M_parcel_55 rfl hl (by decide) rfl (fun ls hl => ?_)
  have hl : lv_has ls 10 [(3, .int 0), (0, .ref h), (1, .int (nI d)), (2, .int 4)] := hl
  refine lv_iconst (v := 0) hx hb d_M_parcel_56 (by decide) ?_
  refine lv_istore hx hb d_M_parcel_57 hl (by decide) rfl (fun ls hl => ?_)
  have hl : lv_has ls 10 [(4, .int 0), (3, .int 0), (0, .ref h), (1, .int (nI d)), (2, .int 4)] := hl
  refine lv_iconst (v := 0) hx hb d_M_parcel_59 (by decide) ?_
  refine lv_istore hx hb d_M_parcel_60 hl (by decide) rfl (fun ls hl => ?_)
  have hl : lv_has ls 10 [(5, .int 0), (4, .int 0), (3, .int 0), (0, .ref h), (1, .int (nI d)), (2, .int 4)] := hl
  refine lv_iconst (v := 0) hx hb d_M_parcel_62 (by decide) ?_
  refine lv_istore hx hb d_M_parcel_63 hl (by decide) rfl (fun ls hl => ?_)
  have hl : lv_has ls 10 [(6, .int 0), (5, .int 0), (4, .int 0), (3, .int 0), (0, .ref h), (1, .int (nI d)), (2, .int 4)] := hl
  have L65 : ∀ (k9 : Nat) (w : Nat) (a : Nat) (b : Nat) (n : Nat) (i1 : w ≤ x.seriesCount) (i2 : a = sumN w (fun z => cnt x.points (x.inP (x.parcels d) z))) (i3 : b = sumN w (fun z => cnt x.points (fun y => x.inP (x.parcels d) z y && x.seen y))) (i4 : n = cnt w (fun z => decide (0 < cnt x.points (x.inP (x.parcels d) z)))) (i5 : a ≤ 12000 * w) (hk9 : x.seriesCount - w = k9), ∀ (H : Heap) (locs : List Loc) (ls : Array Slot) (hP : va_P D vwCl (MW dA h ad (MS.s_cod x 0)) H) (hD : va_D A (MW dA h ad (MS.s_cod x 0))) (hS : va_S A s.heap H locs) (hl : lv_has ls 10 [(6, .int (nI w)), (3, .int (nI a)), (4, .int (nI b)), (5, .int (nI n)), (1, .int (nI d)), (2, .int 4), (0, .ref h)]), W p l e ({ frames := 2, cells := 0, slots := 0, locals := 21 } : Room) s m ([.ref h, .int (nI d), .int 4] : List Value).toArray below meth c H locs 0 0 (MQ below (va_Qi (fun (r9 : Int32) (u9 : Unit) => r9 = nI (x.parcelBlocks d)) (fun (u9 : Unit) t9 => bW D A (MW dA h ad (MS.s_cod x 0)) t9) A) ([.ref h, .int (nI d), .int 4] : List Value).toArray s 0 0 A) (F0 m 65 ls []) := by
    intro k9
    induction k9 using Nat.strongRecOn with
    | ind k9 ih65 =>
      intro w a b n i1 i2 i3 i4 i5 hk9 H locs ls hP hD hS hl
      refine lv_iload hx hb d_M_parcel_65 (lv_at hl 0 rfl) ?_
      refine lv_aload_n hx hb d_M_parcel_67 rfl (lv_at hl 6 rfl) ?_
      refine gF (v := .int (nI x.seriesCount)) hx hb hown hE hK hP 0 rfl rfl layM 12 (by decide) w332 rfl d_M_parcel_68 ?_
      refine lv_icmp_ge hx hb d_M_parcel_71 (tgt := 189) rfl (fun g1 => ?_) (fun g1 => ?_)
      · have g1 := (nI_leI (a := x.seriesCount) (b := w) (by omega) (by omega)).mp g1
        refine lv_iload_n hx hb d_M_parcel_189 rfl (lv_at hl 5 rfl) ?_
        refine lv_if_ne hx hb d_M_parcel_190 (tgt := 197) rfl (fun _ => ?_) (fun h9 => absurd h9 (by decide))
        refine lv_iload_n hx hb d_M_parcel_197 rfl (lv_at hl 5 rfl) ?_
        refine lv_iconst (v := 1) hx hb d_M_parcel_198 (by decide) ?_
        refine lv_icmp_ne hx hb d_M_parcel_199 (tgt := 207) rfl (fun _ => ?_) (fun h9 => absurd h9 (by decide))
        refine lv_iload_n hx hb d_M_parcel_207 rfl (lv_at hl 5 rfl) ?_
        refine lv_iconst (v := 2) hx hb d_M_parcel_208 (by decide) ?_
        refine lv_icmp_ne hx hb d_M_parcel_209 (tgt := 217) rfl (fun _ => ?_) (fun h9 => absurd h9 (by decide))
        refine lv_iload_n hx hb d_M_parcel_217 rfl (lv_at hl 5 rfl) ?_
        refine lv_iconst (v := 3) hx hb d_M_parcel_218 (by decide) ?_
        refine lv_icmp_ne hx hb d_M_parcel_219 (tgt := 243) rfl (fun _ => ?_) (fun h9 => absurd h9 (by decide))
        refine lv_aload_n hx hb d_M_parcel_243 rfl (lv_at hl 6 rfl) ?_
        refine gF (v := .ref (ad 27)) hx hb hown hE hK hP 0 rfl rfl layM 27 (by decide) w510 rfl d_M_parcel_244 ?_
        refine lv_iload_n hx hb d_M_parcel_247 rfl (lv_at hl 4 rfl) ?_
        refine nild (f := (fun z9 => nI (x.parcelBlocks z9))) hx hb hK hP 13 1 rfl rfl (d) (by omega) (by decide) d_M_parcel_248 ?_
        exact rfI hx hb hr hlk hS () (by first | rfl | rw [i2, show w = x.seriesCount by omega] | rw [i3, show w = x.seriesCount by omega] | rw [i4, show w = x.seriesCount by omega]) hP hD (Nat.le_of_ble_eq_true rfl) (Nat.le_of_ble_eq_true rfl) d_M_parcel_249
      · have g1 := mt (nI_leI (a := x.seriesCount) (b := w) (by omega) (by omega)).mpr g1
        refine lv_iload_n hx hb d_M_parcel_74 rfl (lv_at hl 1 rfl) ?_
        refine lv_istore hx hb d_M_parcel_75 hl (by decide) rfl (fun ls hl => ?_)
        have hl : lv_has ls 10 [(7, .int (nI a)), (6, .int (nI w)), (3, .int (nI a)), (4, .int (nI b)), (5, .int (nI n)), (1, .int (nI d)), (2, .int 4), (0, .ref h)] := hl
        refine lv_iconst (v := 0) hx hb d_M_parcel_77 (by decide) ?_
        refine lv_istore hx hb d_M_parcel_78 hl (by decide) rfl (fun ls hl => ?_)
        have hl : lv_has ls 10 [(8, .int 0), (7, .int (nI a)), (6, .int (nI w)), (3, .int (nI a)), (4, .int (nI b)), (5, .int (nI n)), (1, .int (nI d)), (2, .int 4), (0, .ref h)] := hl
        have L80 : ∀ (k9 : Nat) (q : Nat) (a2 : Nat) (b2 : Nat) (j1 : q ≤ x.points) (j2 : a2 = a + cnt q (x.inP (x.parcels d) w)) (j3 : b2 = b + cnt q (fun y => x.inP (x.parcels d) w y && x.seen y)) (hk9 : x.points - q = k9), ∀ (H : Heap) (locs : List Loc) (ls : Array Slot) (hP : va_P D vwCl (MW dA h ad (MS.s_cod x 0)) H) (hD : va_D A (MW dA h ad (MS.s_cod x 0))) (hS : va_S A s.heap H locs) (hl : lv_has ls 10 [(8, .int (nI q)), (3, .int (nI a2)), (4, .int (nI b2)), (6, .int (nI w)), (5, .int (nI n)), (7, .int (nI a)), (1, .int (nI d)), (2, .int 4), (0, .ref h)]), W p l e ({ frames := 2, cells := 0, slots := 0, locals := 21 } : Room) s m ([.ref h, .int (nI d), .int 4] : List Value).toArray below meth c H locs 0 0 (MQ below (va_Qi (fun (r9 : Int32) (u9 : Unit) => r9 = nI (x.parcelBlocks d)) (fun (u9 : Unit) t9 => bW D A (MW dA h ad (MS.s_cod x 0)) t9) A) ([.ref h, .int (nI d), .int 4] : List Value).toArray s 0 0 A) (F0 m 80 ls []) := by
          intro k9
          induction k9 using Nat.strongRecOn with
          | ind k9 ih80 =>
            intro q a2 b2 j1 j2 j3 hk9 H locs ls hP hD hS hl
            have hz := cnt_le q (x.inP (x.parcels d) w)
            refine lv_iload hx hb d_M_parcel_80 (lv_at hl 0 rfl) ?_
            refine lv_aload_n hx hb d_M_parcel_82 rfl (lv_at hl 8 rfl) ?_
            refine gF (v := .int (nI x.points)) hx hb hown hE hK hP 0 rfl rfl layM 23 (by decide) w420 rfl d_M_parcel_83 ?_
            refine lv_icmp_ge hx hb d_M_parcel_86 (tgt := 167) rfl (fun g2 => ?_) (fun g2 => ?_)
            · have g2 := (nI_leI (a := x.points) (b := q) (by omega) (by omega)).mp g2
              refine lv_iload hx hb d_M_parcel_167 (lv_at hl 4 rfl) ?_
              refine lv_iload_n hx hb d_M_parcel_169 rfl (lv_at hl 1 rfl) ?_
              refine lv_iload hx hb d_M_parcel_170 (lv_at hl 5 rfl) ?_
              refine lv_icmp_le hx hb d_M_parcel_172 (tgt := 179) rfl (fun g3 => ?_) (fun g3 => ?_)
              · have g3 := (nI_leI (a := a2) (b := a) (by omega) (by omega)).mp g3
                refine lv_iconst (v := 0) hx hb d_M_parcel_179 (by decide) ?_
                refine lv_iadd hx hb d_M_parcel_180 (tpi (y := nI (n)) (nI_add (n) (0)) ?_)
                refine lv_istore hx hb d_M_parcel_181 hl (by decide) rfl (fun ls hl => ?_)
                have hl : lv_has ls 10 [(5, .int (nI (n))), (8, .int (nI q)), (3, .int (nI a2)), (4, .int (nI b2)), (6, .int (nI w)), (7, .int (nI a)), (1, .int (nI d)), (2, .int 4), (0, .ref h)] := hl
                refine lv_iinc (k := 4) (v := nI (w + 1)) hx hb d_M_parcel_183 hl rfl (iincN (w) 1 1 (by decide)) (by decide) rfl (fun ls hl => ?_)
                have hl : lv_has ls 10 [(6, .int (nI (w + 1))), (5, .int (nI (n))), (8, .int (nI q)), (3, .int (nI a2)), (4, .int (nI b2)), (7, .int (nI a)), (1, .int (nI d)), (2, .int 4), (0, .ref h)] := hl
                refine lv_goto hx hb d_M_parcel_186 (tgt := 65) rfl ?_
                exact ih65 _ (by omega) (w + 1) a2 b2 n (by omega) (by show _ = sumN w _ + cnt x.points (x.inP (x.parcels d) w); rw [← i2, ← show q = x.points by omega, j2]) (by show _ = sumN w _ + cnt x.points (fun y => x.inP (x.parcels d) w y && x.seen y); rw [← i3, ← show q = x.points by omega, j3]) (chk0 (F := (fun z => cnt x.points (x.inP (x.parcels d) z))) i4 (show a2 = a + cnt x.points (x.inP (x.parcels d) w) from by rw [← show q = x.points by omega]; exact j2) g3) (by have hz := cnt_le q (x.inP (x.parcels d) w); omega) rfl H _ ls hP hD hS (lv_sub hl [0, 3, 4, 1, 6, 7, 8] rfl)
              · have g3 := mt (nI_leI (a := a2) (b := a) (by omega) (by omega)).mpr g3
                refine lv_iconst (v := 1) hx hb d_M_parcel_175 (by decide) ?_
                refine lv_goto hx hb d_M_parcel_176 (tgt := 180) rfl ?_
                refine lv_iadd hx hb d_M_parcel_180 (tpi (y := nI (n + 1)) (nI_add (n) (1)) ?_)
                refine lv_istore hx hb d_M_parcel_181 hl (by decide) rfl (fun ls hl => ?_)
                have hl : lv_has ls 10 [(5, .int (nI (n + 1))), (8, .int (nI q)), (3, .int (nI a2)), (4, .int (nI b2)), (6, .int (nI w)), (7, .int (nI a)), (1, .int (nI d)), (2, .int 4), (0, .ref h)] := hl
                refine lv_iinc (k := 4) (v := nI (w + 1)) hx hb d_M_parcel_183 hl rfl (iincN (w) 1 1 (by decide)) (by decide) rfl (fun ls hl => ?_)
                have hl : lv_has ls 10 [(6, .int (nI (w + 1))), (5, .int (nI (n + 1))), (8, .int (nI q)), (3, .int (nI a2)), (4, .int (nI b2)), (7, .int (nI a)), (1, .int (nI d)), (2, .int 4), (0, .ref h)] := hl
                refine lv_goto hx hb d_M_parcel_186 (tgt := 65) rfl ?_
                exact ih65 _ (by omega) (w + 1) a2 b2 (n + 1) (by omega) (by show _ = sumN w _ + cnt x.points (x.inP (x.parcels d) w); rw [← i2, ← show q = x.points by omega, j2]) (by show _ = sumN w _ + cnt x.points (fun y => x.inP (x.parcels d) w y && x.seen y); rw [← i3, ← show q = x.points by omega, j3]) (chk (F := (fun z => cnt x.points (x.inP (x.parcels d) z))) i4 (show a2 = a + cnt x.points (x.inP (x.parcels d) w) from by rw [← show q = x.points by omega]; exact j2) g3) (by have hz := cnt_le q (x.inP (x.parcels d) w); omega) rfl H _ ls hP hD hS (lv_sub hl [0, 3, 4, 1, 6, 7, 8] rfl)
            · have g2 := mt (nI_leI (a := x.points) (b := q) (by omega) (by omega)).mpr g2
              have J122 : ∀ (v : Bool) (j9 : x.inP (x.parcels d) w q = v), ∀ (H : Heap) (locs : List Loc) (ls : Array Slot) (hP : va_P D vwCl (MW dA h ad (MS.s_cod x 0)) H) (hD : va_D A (MW dA h ad (MS.s_cod x 0))) (hS : va_S A s.heap H locs) (hl : lv_has ls 10 [(8, .int (nI q)), (3, .int (nI a2)), (4, .int (nI b2)), (6, .int (nI w)), (5, .int (nI n)), (7, .int (nI a)), (1, .int (nI d)), (2, .int 4), (0, .ref h)]), W p l e ({ frames := 2, cells := 0, slots := 0, locals := 21 } : Room) s m ([.ref h, .int (nI d), .int 4] : List Value).toArray below meth c H locs 0 0 (MQ below (va_Qi (fun (r9 : Int32) (u9 : Unit) => r9 = nI (x.parcelBlocks d)) (fun (u9 : Unit) t9 => bW D A (MW dA h ad (MS.s_cod x 0)) t9) A) ([.ref h, .int (nI d), .int 4] : List Value).toArray s 0 0 A) (F0 m 122 ls [.int (bI v)]) := by
                intro v j9 H locs ls hP hD hS hl
                refine lv_istore hx hb d_M_parcel_122 hl (by decide) rfl (fun ls hl => ?_)
                have hl : lv_has ls 10 [(9, .int (bI v)), (8, .int (nI q)), (3, .int (nI a2)), (4, .int (nI b2)), (6, .int (nI w)), (5, .int (nI n)), (7, .int (nI a)), (1, .int (nI d)), (2, .int 4), (0, .ref h)] := hl
                refine lv_iload_n hx hb d_M_parcel_124 rfl (lv_at hl 2 rfl) ?_
                refine lv_iload hx hb d_M_parcel_125 (lv_at hl 0 rfl) ?_
                refine lv_if_eq hx hb d_M_parcel_127 (tgt := 134) rfl (fun g4 => ?_) (fun g4 => ?_)
                · have g4 := bI_0 g4
                  refine lv_iconst (v := 0) hx hb d_M_parcel_134 (by decide) ?_
                  refine lv_iadd hx hb d_M_parcel_135 (tpi (y := nI (a2)) (nI_add (a2) (0)) ?_)
                  refine lv_istore_n hx hb d_M_parcel_136 rfl hl (by decide) rfl (fun ls hl => ?_)
                  have hl : lv_has ls 10 [(3, .int (nI (a2))), (9, .int (bI v)), (8, .int (nI q)), (4, .int (nI b2)), (6, .int (nI w)), (5, .int (nI n)), (7, .int (nI a)), (1, .int (nI d)), (2, .int 4), (0, .ref h)] := hl
                  refine lv_iload hx hb d_M_parcel_137 (lv_at hl 3 rfl) ?_
                  refine lv_iload hx hb d_M_parcel_139 (lv_at hl 1 rfl) ?_
                  refine lv_if_eq hx hb d_M_parcel_141 (tgt := 157) rfl (fun _ => ?_) (fun h9 => absurd (by rw [g4]; decide) h9)
                  refine lv_iconst (v := 0) hx hb d_M_parcel_157 (by decide) ?_
                  refine lv_iadd hx hb d_M_parcel_158 (tpi (y := nI (b2)) (nI_add (b2) (0)) ?_)
                  refine lv_istore hx hb d_M_parcel_159 hl (by decide) rfl (fun ls hl => ?_)
                  have hl : lv_has ls 10 [(4, .int (nI (b2))), (3, .int (nI (a2))), (9, .int (bI v)), (8, .int (nI q)), (6, .int (nI w)), (5, .int (nI n)), (7, .int (nI a)), (1, .int (nI d)), (2, .int 4), (0, .ref h)] := hl
                  refine lv_iinc (k := 3) (v := nI (q + 1)) hx hb d_M_parcel_161 hl rfl (iincN (q) 1 1 (by decide)) (by decide) rfl (fun ls hl => ?_)
                  have hl : lv_has ls 10 [(8, .int (nI (q + 1))), (4, .int (nI (b2))), (3, .int (nI (a2))), (9, .int (bI v)), (6, .int (nI w)), (5, .int (nI n)), (7, .int (nI a)), (1, .int (nI d)), (2, .int 4), (0, .ref h)] := hl
                  refine lv_goto hx hb d_M_parcel_164 (tgt := 80) rfl ?_
                  exact ih80 _ (by omega) (q + 1) a2 b2 (by omega) (by simp [cnt, *, Nat.add_assoc]) (by simp [cnt, *, Nat.add_assoc]) rfl H _ ls hP hD hS (lv_sub hl [0, 2, 1, 4, 5, 6, 7, 8, 9] rfl)
                · have g4 := bI_n0 g4
                  refine lv_iconst (v := 1) hx hb d_M_parcel_130 (by decide) ?_
                  refine lv_goto hx hb d_M_parcel_131 (tgt := 135) rfl ?_
                  refine lv_iadd hx hb d_M_parcel_135 (tpi (y := nI (a2 + 1)) (nI_add (a2) (1)) ?_)
                  refine lv_istore_n hx hb d_M_parcel_136 rfl hl (by decide) rfl (fun ls hl => ?_)
                  have hl : lv_has ls 10 [(3, .int (nI (a2 + 1))), (9, .int (bI v)), (8, .int (nI q)), (4, .int (nI b2)), (6, .int (nI w)), (5, .int (nI n)), (7, .int (nI a)), (1, .int (nI d)), (2, .int 4), (0, .ref h)] := hl
                  refine lv_iload hx hb d_M_parcel_137 (lv_at hl 3 rfl) ?_
                  refine lv_iload hx hb d_M_parcel_139 (lv_at hl 1 rfl) ?_
                  refine lv_if_eq hx hb d_M_parcel_141 (tgt := 157) rfl (fun h9 => absurd h9 (by rw [g4]; decide)) (fun _ => ?_)
                  refine lv_aload_n hx hb d_M_parcel_144 rfl (lv_at hl 9 rfl) ?_
                  refine lv_iload hx hb d_M_parcel_145 (lv_at hl 2 rfl) ?_
                  refine jfI (rnV (As := [.int (nI q)]) (rest := [.int (nI b2)]) hx hb hml hown hE hK (hN _ _ hS) hP hD (k_isSeen l D dA H.size h ad (MS.s_cod x 0) q (show q < 12000 from by omega)) (q0 := 0) rfl rfl w861 w860 w862 w863 w328 rfl rfl ⟨⟨by decide, by decide⟩, rfl⟩ ⟨(Nat.le_of_ble_eq_true rfl), (Nat.le_of_ble_eq_true rfl)⟩ rfl hl.1 rfl (Nat.le_of_ble_eq_true rfl) d_M_parcel_147 ⟨(Nat.le_of_ble_eq_true rfl), (Nat.le_of_ble_eq_true rfl)⟩) hP hD hS hA (fun r5 u6 H locs hp9 hP hD hS => ?_)
                  have hP : va_P D vwCl (MW dA h ad (MS.s_cod x 0)) H := hP
                  have hD : va_D A (MW dA h ad (MS.s_cod x 0)) := hD
                  replace hp9 : bI (x.seen q) = r5 := Eq.symm hp9
                  subst hp9
                  refine lv_if_eq hx hb d_M_parcel_150 (tgt := 157) rfl (fun g7 => ?_) (fun g7 => ?_)
                  · have g7 := bI_0 g7
                    refine lv_iconst (v := 0) hx hb d_M_parcel_157 (by decide) ?_
                    refine lv_iadd hx hb d_M_parcel_158 (tpi (y := nI (b2)) (nI_add (b2) (0)) ?_)
                    refine lv_istore hx hb d_M_parcel_159 hl (by decide) rfl (fun ls hl => ?_)
                    have hl : lv_has ls 10 [(4, .int (nI (b2))), (3, .int (nI (a2 + 1))), (9, .int (bI v)), (8, .int (nI q)), (6, .int (nI w)), (5, .int (nI n)), (7, .int (nI a)), (1, .int (nI d)), (2, .int 4), (0, .ref h)] := hl
                    refine lv_iinc (k := 3) (v := nI (q + 1)) hx hb d_M_parcel_161 hl rfl (iincN (q) 1 1 (by decide)) (by decide) rfl (fun ls hl => ?_)
                    have hl : lv_has ls 10 [(8, .int (nI (q + 1))), (4, .int (nI (b2))), (3, .int (nI (a2 + 1))), (9, .int (bI v)), (6, .int (nI w)), (5, .int (nI n)), (7, .int (nI a)), (1, .int (nI d)), (2, .int 4), (0, .ref h)] := hl
                    refine lv_goto hx hb d_M_parcel_164 (tgt := 80) rfl ?_
                    exact ih80 _ (by omega) (q + 1) (a2 + 1) b2 (by omega) (by simp [cnt, *, Nat.add_assoc]) (by simp [cnt, *, Nat.add_assoc]) rfl H _ ls hP hD hS (lv_sub hl [0, 2, 1, 4, 5, 6, 7, 8, 9] rfl)
                  · have g7 := bI_n0 g7
                    refine lv_iconst (v := 1) hx hb d_M_parcel_153 (by decide) ?_
                    refine lv_goto hx hb d_M_parcel_154 (tgt := 158) rfl ?_
                    refine lv_iadd hx hb d_M_parcel_158 (tpi (y := nI (b2 + 1)) (nI_add (b2) (1)) ?_)
                    refine lv_istore hx hb d_M_parcel_159 hl (by decide) rfl (fun ls hl => ?_)
                    have hl : lv_has ls 10 [(4, .int (nI (b2 + 1))), (3, .int (nI (a2 + 1))), (9, .int (bI v)), (8, .int (nI q)), (6, .int (nI w)), (5, .int (nI n)), (7, .int (nI a)), (1, .int (nI d)), (2, .int 4), (0, .ref h)] := hl
                    refine lv_iinc (k := 3) (v := nI (q + 1)) hx hb d_M_parcel_161 hl rfl (iincN (q) 1 1 (by decide)) (by decide) rfl (fun ls hl => ?_)
                    have hl : lv_has ls 10 [(8, .int (nI (q + 1))), (4, .int (nI (b2 + 1))), (3, .int (nI (a2 + 1))), (9, .int (bI v)), (6, .int (nI w)), (5, .int (nI n)), (7, .int (nI a)), (1, .int (nI d)), (2, .int 4), (0, .ref h)] := hl
                    refine lv_goto hx hb d_M_parcel_164 (tgt := 80) rfl ?_
                    exact ih80 _ (by omega) (q + 1) (a2 + 1) (b2 + 1) (by omega) (by simp [cnt, *, Nat.add_assoc]) (by simp [cnt, *, Nat.add_assoc]) rfl H _ ls hP hD hS (lv_sub hl [0, 2, 1, 4, 5, 6, 7, 8, 9] rfl)
              refine lv_aload_n hx hb d_M_parcel_89 rfl (lv_at hl 8 rfl) ?_
              refine gF (v := .ref (ad 17)) hx hb hown hE hK hP 0 rfl rfl layM 17 (by decide) w503 rfl d_M_parcel_90 ?_
              refine lv_iload hx hb d_M_parcel_93 (lv_at hl 0 rfl) ?_
              refine nild (f := (fun z9 => nI (x.pointSeries z9))) hx hb hK hP 6 1 rfl rfl (q) (by omega) (by decide) d_M_parcel_95 ?_
              refine lv_iload hx hb d_M_parcel_96 (lv_at hl 3 rfl) ?_
              have b1 := hs q (by omega)
              refine lv_icmp_ne hx hb d_M_parcel_98 (tgt := 121) rfl (fun g8 => ?_) (fun g8 => ?_)
              · have g8 := mt (nI_eq (a := x.pointSeries q) (b := w) (by omega) (by omega)).mpr g8
                refine lv_iconst (v := 0) hx hb d_M_parcel_121 (by decide) ?_
                exact J122 false (by simp [MS.inP, *]) H _ ls hP hD hS (lv_sub hl [0, 1, 2, 3, 4, 5, 6, 7, 8] rfl)
              · have g8 := (nI_eq (a := x.pointSeries q) (b := w) (by omega) (by omega)).mp g8
                refine lv_aload_n hx hb d_M_parcel_101 rfl (lv_at hl 8 rfl) ?_
                refine gF (v := .ref (ad 20)) hx hb hown hE hK hP 0 rfl rfl layM 20 (by decide) w506 rfl d_M_parcel_102 ?_
                refine lv_iload hx hb d_M_parcel_105 (lv_at hl 0 rfl) ?_
                refine nild (f := x.places) hx hb hK hP 9 1 rfl rfl (q) (by omega) (by decide) d_M_parcel_107 ?_
                refine lv_aload_n hx hb d_M_parcel_108 rfl (lv_at hl 8 rfl) ?_
                refine gF (v := .ref (ad 26)) hx hb hown hE hK hP 0 rfl rfl layM 26 (by decide) w509 rfl d_M_parcel_109 ?_
                refine lv_iload_n hx hb d_M_parcel_112 rfl (lv_at hl 6 rfl) ?_
                refine nild (f := (fun z9 => nI (x.parcels z9))) hx hb hK hP 12 1 rfl rfl (d) (by omega) (by decide) d_M_parcel_113 ?_
                refine lv_icmp_ne hx hb d_M_parcel_114 (tgt := 121) rfl (fun g9 => ?_) (fun g9 => ?_)
                · have g9 := g9
                  refine lv_iconst (v := 0) hx hb d_M_parcel_121 (by decide) ?_
                  exact J122 false (by simp [MS.inP, *]) H _ ls hP hD hS (lv_sub hl [0, 1, 2, 3, 4, 5, 6, 7, 8] rfl)
                · have g9 := g9
                  refine lv_iconst (v := 1) hx hb d_M_parcel_117 (by decide) ?_
                  refine lv_goto hx hb d_M_parcel_118 (tgt := 122) rfl ?_
                  exact J122 true (by simp [MS.inP, *]) H _ ls hP hD hS (lv_sub hl [0, 1, 2, 3, 4, 5, 6, 7, 8] rfl)
        exact L80 _ 0 a b (by omega) rfl rfl rfl H _ ls hP hD hS (lv_sub hl [0, 3, 4, 2, 5, 1, 6, 7, 8] rfl)
  exact L65 _ 0 0 0 0 (by omega) rfl rfl rfl (by omega) rfl H _ ls hP hD hS (lv_sub hl [0, 3, 2, 1, 5, 6, 4] rfl)
end
