/-- is name k of table t the token's -/
def MS.nmQ (y : MS) (t k : Nat) : Bool := decide (y.nameLengths (6 * t + k) = y.too - y.frm) && allB (y.too - y.frm) (txEq y.tape y.tape (y.nameFroms (6 * t + k)) y.frm)
def MS.byT (y : MS) (t : Nat) : Bool := decide (y.tableNames t = 6) || anyB (y.tableNames t) (y.nmQ t)
theorem or_tw {p : Bool} {f : Nat → Bool} {k : Nat} {v : Bool} (h : (p || anyB k f) = v) (u : Bool) (hu : f k = u) : (p || anyB (k + 1) f) = (v || u) := by
  rw [anyB_s, ← Bool.or_assoc, h, hu]
def MS.adS (x : MS) (t : Nat) : MS := MS.s_nameLengths (MS.s_nameFroms (MS.s_tableNames x (va_up x.tableNames t (x.tableNames t + 1))) (va_up x.nameFroms (6 * t + x.tableNames t) x.frm)) (va_up x.nameLengths (6 * t + x.tableNames t) (x.too - x.frm))
/-- the names of 'by', from the token on -/
def MS.byL (t : Nat) : Nat → MS → Bool × MS
  | 0, y => (false, y)
  | w + 1, y => if y.kind = 2 then (if y.byT t = true then (false, y.flS 4 y.frm) else if (y.adS t).nx.1 = true then (if (y.adS t).nx.2.kind = 44 then (if (y.adS t).nx.2.nx.1 = true then MS.byL t w (y.adS t).nx.2.nx.2 else (false, (y.adS t).nx.2.nx.2)) else (y.adS t).nx.2.ndF 41) else (false, (y.adS t).nx.2)) else (false, y.flS 2 y.frm)
section BY
variable {t w : Nat} {y z u : MS}
theorem by_k (hw : 0 < w) (h : ¬ y.kind = 2) : MS.byL t w y = (false, y.flS 2 y.frm) := by
  obtain ⟨d, rfl⟩ : ∃ d, w = d + 1 := ⟨w - 1, by omega⟩
  exact if_neg h
theorem by_4 (hw : 0 < w) (h : y.kind = 2) (h2 : y.byT t = true) : MS.byL t w y = (false, y.flS 4 y.frm) := by
  obtain ⟨d, rfl⟩ : ∃ d, w = d + 1 := ⟨w - 1, by omega⟩
  exact (if_pos h).trans (if_pos h2)
theorem by_n (hw : 0 < w) (h : y.kind = 2) (h2 : y.byT t = false) (h3 : (y.adS t).nx.1 = false) : MS.byL t w y = (false, (y.adS t).nx.2) := by
  obtain ⟨d, rfl⟩ : ∃ d, w = d + 1 := ⟨w - 1, by omega⟩
  exact (if_pos h).trans ((if_neg (by rw [h2]; decide)).trans (if_neg (by rw [h3]; decide)))
theorem by_e (hw : 0 < w) (h : y.kind = 2) (h2 : y.byT t = false) (h3 : (y.adS t).nx.1 = true) (e : z = (y.adS t).nx.2) (h4 : ¬ z.kind = 44) : MS.byL t w y = z.ndF 41 := by
  obtain ⟨d, rfl⟩ : ∃ d, w = d + 1 := ⟨w - 1, by omega⟩
  subst e
  exact (if_pos h).trans ((if_neg (by rw [h2]; decide)).trans ((if_pos h3).trans (if_neg h4)))
theorem by_mn (hw : 0 < w) (h : y.kind = 2) (h2 : y.byT t = false) (h3 : (y.adS t).nx.1 = true) (e : z = (y.adS t).nx.2) (h4 : z.kind = 44) (h5 : z.nx.1 = false) : MS.byL t w y = (false, z.nx.2) := by
  obtain ⟨d, rfl⟩ : ∃ d, w = d + 1 := ⟨w - 1, by omega⟩
  subst e
  exact (if_pos h).trans ((if_neg (by rw [h2]; decide)).trans ((if_pos h3).trans ((if_pos h4).trans (if_neg (by rw [h5]; decide)))))
theorem by_m (hw : 0 < w) (h : y.kind = 2) (h2 : y.byT t = false) (h3 : (y.adS t).nx.1 = true) (e : z = (y.adS t).nx.2) (h4 : z.kind = 44) (h5 : z.nx.1 = true) (e2 : u = z.nx.2) : MS.byL t w y = MS.byL t (w - 1) u := by
  obtain ⟨d, rfl⟩ : ∃ d, w = d + 1 := ⟨w - 1, by omega⟩
  subst e
  subst e2
  exact (if_pos h).trans ((if_neg (by rw [h2]; decide)).trans ((if_pos h3).trans ((if_pos h4).trans (if_pos h5))))
end BY
def MS.byF (x : MS) : Bool × MS := if x.nx.1 = true then (if (x.nx.2.ndF 40).1 = true then MS.byL x.pile 7 (x.nx.2.ndF 40).2 else (false, (x.nx.2.ndF 40).2)) else (false, x.nx.2)
theorem byF_0 {x : MS} (h : x.nx.1 = false) : x.byF = (false, x.nx.2) := if_neg (by rw [h]; decide)
theorem byF_1 {x y : MS} (h : x.nx.1 = true) (e : y = x.nx.2) (h2 : (y.ndF 40).1 = false) : x.byF = (false, (y.ndF 40).2) := by
  subst e
  exact (if_pos h).trans (if_neg (by rw [h2]; decide))
theorem byF_2 {x y z : MS} (h : x.nx.1 = true) (e : y = x.nx.2) (h2 : (y.ndF 40).1 = true) (e2 : z = (y.ndF 40).2) : x.byF = MS.byL x.pile 7 z := by
  subst e
  subst e2
  exact (if_pos h).trans (if_pos h2)
/-- the names of table t, as far as they are read, lie on the tape -/
def MS.nmT (x : MS) (t : Nat) : Prop := ∀ k : Nat, k < x.tableNames t → x.nameFroms (6 * t + k) + x.nameLengths (6 * t + k) ≤ x.length
theorem tk_f {x y : MS} {α : Type} (h : x.tk y) (f : MS → α) (hf : f (x.tkS y) = f x) : f y = f x := (congrArg f h).trans hf
theorem nmT_tk {x y : MS} {t : Nat} (h : x.tk y) (hn : x.nmT t) : y.nmT t := by
  have e1 : y.tableNames = x.tableNames := tk_f h MS.tableNames rfl
  have e2 : y.nameFroms = x.nameFroms := tk_f h MS.nameFroms rfl
  have e3 : y.nameLengths = x.nameLengths := tk_f h MS.nameLengths rfl
  have e4 : y.length = x.length := tk_f h MS.length rfl
  unfold MS.nmT
  rw [e1, e2, e3, e4]
  exact hn
theorem nmT_ad {x : MS} {t : Nat} (hn : x.nmT t) (h1 : x.frm ≤ x.too) (h2 : x.too ≤ x.length) : (x.adS t).nmT t := by
  intro k hk
  have hk : k < va_up x.tableNames t (x.tableNames t + 1) t := hk
  rw [va_us] at hk
  show va_up x.nameFroms (6 * t + x.tableNames t) x.frm (6 * t + k) + va_up x.nameLengths (6 * t + x.tableNames t) (x.too - x.frm) (6 * t + k) ≤ x.length
  unfold va_up
  by_cases e : 6 * t + k = 6 * t + x.tableNames t
  · rw [if_pos e, if_pos e]
    omega
  · rw [if_neg e, if_neg e]
    exact hn k (by omega)
theorem tn_ad (x : MS) (t : Nat) : (x.adS t).tableNames t = x.tableNames t + 1 := va_us _ _ _
theorem tk_tn {x y : MS} (h : x.tk y) (t : Nat) : y.tableNames t = x.tableNames t := by rw [tk_f h MS.tableNames rfl]
theorem lx_ad {x : MS} {t : Nat} (h : x.lx) : (x.adS t).lx := h
theorem by_6 {y : MS} {t : Nat} (h : y.byT t = false) : ¬ y.tableNames t = 6 := fun z => by
  unfold MS.byT at h
  rw [decide_eq_true z] at h
  cases h
theorem d_M_by_0 : decode prog_14_method_83_code 0 = .ok (.aload_n 0, 1) := by decide +kernel
theorem d_M_by_1 : decode prog_14_method_83_code 1 = .ok (.getfield 400, 3) := by decide +kernel
theorem d_M_by_4 : decode prog_14_method_83_code 4 = .ok (.istore_n 1, 1) := by decide +kernel
theorem d_M_by_5 : decode prog_14_method_83_code 5 = .ok (.aload_n 0, 1) := by decide +kernel
theorem d_M_by_6 : decode prog_14_method_83_code 6 = .ok (.invokevirtual 373, 3) := by decide +kernel
theorem d_M_by_9 : decode prog_14_method_83_code 9 = .ok (.ifCond .eq 12, 3) := by decide +kernel
theorem d_M_by_21 : decode prog_14_method_83_code 21 = .ok (.iconst 0, 1) := by decide +kernel
theorem d_M_by_22 : decode prog_14_method_83_code 22 = .ok (.ireturn, 1) := by decide +kernel
theorem d_M_by_12 : decode prog_14_method_83_code 12 = .ok (.aload_n 0, 1) := by decide +kernel
theorem d_M_by_13 : decode prog_14_method_83_code 13 = .ok (.bipush 40, 2) := by decide +kernel
theorem d_M_by_15 : decode prog_14_method_83_code 15 = .ok (.invokevirtual 457, 3) := by decide +kernel
theorem d_M_by_18 : decode prog_14_method_83_code 18 = .ok (.ifCond .ne 5, 3) := by decide +kernel
theorem d_M_by_23 : decode prog_14_method_83_code 23 = .ok (.iconst 1, 1) := by decide +kernel
theorem d_M_by_24 : decode prog_14_method_83_code 24 = .ok (.istore_n 2, 1) := by decide +kernel
theorem d_M_by_25 : decode prog_14_method_83_code 25 = .ok (.iload_n 2, 1) := by decide +kernel
theorem d_M_by_26 : decode prog_14_method_83_code 26 = .ok (.ifCond .eq 283, 3) := by decide +kernel
theorem d_M_by_309 : decode prog_14_method_83_code 309 = .ok (.aload_n 0, 1) := by decide +kernel
theorem d_M_by_310 : decode prog_14_method_83_code 310 = .ok (.bipush 41, 2) := by decide +kernel
theorem d_M_by_312 : decode prog_14_method_83_code 312 = .ok (.invokevirtual 457, 3) := by decide +kernel
theorem d_M_by_315 : decode prog_14_method_83_code 315 = .ok (.ireturn, 1) := by decide +kernel
theorem d_M_by_29 : decode prog_14_method_83_code 29 = .ok (.aload_n 0, 1) := by decide +kernel
theorem d_M_by_30 : decode prog_14_method_83_code 30 = .ok (.getfield 351, 3) := by decide +kernel
theorem d_M_by_33 : decode prog_14_method_83_code 33 = .ok (.iconst 2, 1) := by decide +kernel
theorem d_M_by_34 : decode prog_14_method_83_code 34 = .ok (.if_icmp .eq 13, 3) := by decide +kernel
theorem d_M_by_63 : decode prog_14_method_83_code 63 = .ok (.istore_n 3, 1) := by decide +kernel
theorem d_M_by_200 : decode prog_14_method_83_code 200 = .ok (.iload_n 3, 1) := by decide +kernel
theorem d_M_by_201 : decode prog_14_method_83_code 201 = .ok (.ifCond .eq 13, 3) := by decide +kernel
theorem d_M_by_214 : decode prog_14_method_83_code 214 = .ok (.aload_n 0, 1) := by decide +kernel
theorem d_M_by_215 : decode prog_14_method_83_code 215 = .ok (.getfield 91, 3) := by decide +kernel
theorem d_M_by_218 : decode prog_14_method_83_code 218 = .ok (.bipush 6, 2) := by decide +kernel
theorem d_M_by_220 : decode prog_14_method_83_code 220 = .ok (.iload_n 1, 1) := by decide +kernel
theorem d_M_by_221 : decode prog_14_method_83_code 221 = .ok (.imul, 1) := by decide +kernel
theorem d_M_by_222 : decode prog_14_method_83_code 222 = .ok (.aload_n 0, 1) := by decide +kernel
theorem d_M_by_223 : decode prog_14_method_83_code 223 = .ok (.getfield 88, 3) := by decide +kernel
theorem d_M_by_226 : decode prog_14_method_83_code 226 = .ok (.iload_n 1, 1) := by decide +kernel
theorem d_M_by_227 : decode prog_14_method_83_code 227 = .ok (.iaload, 1) := by decide +kernel
theorem d_M_by_228 : decode prog_14_method_83_code 228 = .ok (.iadd, 1) := by decide +kernel
theorem d_M_by_229 : decode prog_14_method_83_code 229 = .ok (.aload_n 0, 1) := by decide +kernel
theorem d_M_by_230 : decode prog_14_method_83_code 230 = .ok (.getfield 345, 3) := by decide +kernel
theorem d_M_by_233 : decode prog_14_method_83_code 233 = .ok (.iastore, 1) := by decide +kernel
theorem d_M_by_234 : decode prog_14_method_83_code 234 = .ok (.aload_n 0, 1) := by decide +kernel
theorem d_M_by_235 : decode prog_14_method_83_code 235 = .ok (.getfield 94, 3) := by decide +kernel
theorem d_M_by_238 : decode prog_14_method_83_code 238 = .ok (.bipush 6, 2) := by decide +kernel
theorem d_M_by_240 : decode prog_14_method_83_code 240 = .ok (.iload_n 1, 1) := by decide +kernel
theorem d_M_by_241 : decode prog_14_method_83_code 241 = .ok (.imul, 1) := by decide +kernel
theorem d_M_by_242 : decode prog_14_method_83_code 242 = .ok (.aload_n 0, 1) := by decide +kernel
theorem d_M_by_243 : decode prog_14_method_83_code 243 = .ok (.getfield 88, 3) := by decide +kernel
theorem d_M_by_246 : decode prog_14_method_83_code 246 = .ok (.iload_n 1, 1) := by decide +kernel
theorem d_M_by_247 : decode prog_14_method_83_code 247 = .ok (.iaload, 1) := by decide +kernel
theorem d_M_by_248 : decode prog_14_method_83_code 248 = .ok (.iadd, 1) := by decide +kernel
theorem d_M_by_249 : decode prog_14_method_83_code 249 = .ok (.aload_n 0, 1) := by decide +kernel
theorem d_M_by_250 : decode prog_14_method_83_code 250 = .ok (.getfield 342, 3) := by decide +kernel
theorem d_M_by_253 : decode prog_14_method_83_code 253 = .ok (.aload_n 0, 1) := by decide +kernel
theorem d_M_by_254 : decode prog_14_method_83_code 254 = .ok (.getfield 345, 3) := by decide +kernel
theorem d_M_by_257 : decode prog_14_method_83_code 257 = .ok (.isub, 1) := by decide +kernel
theorem d_M_by_258 : decode prog_14_method_83_code 258 = .ok (.iastore, 1) := by decide +kernel
theorem d_M_by_259 : decode prog_14_method_83_code 259 = .ok (.aload_n 0, 1) := by decide +kernel
theorem d_M_by_260 : decode prog_14_method_83_code 260 = .ok (.getfield 88, 3) := by decide +kernel
theorem d_M_by_263 : decode prog_14_method_83_code 263 = .ok (.iload_n 1, 1) := by decide +kernel
theorem d_M_by_264 : decode prog_14_method_83_code 264 = .ok (.dup2, 1) := by decide +kernel
theorem d_M_by_265 : decode prog_14_method_83_code 265 = .ok (.iaload, 1) := by decide +kernel
theorem d_M_by_266 : decode prog_14_method_83_code 266 = .ok (.iconst 1, 1) := by decide +kernel
theorem d_M_by_267 : decode prog_14_method_83_code 267 = .ok (.iadd, 1) := by decide +kernel
theorem d_M_by_268 : decode prog_14_method_83_code 268 = .ok (.iastore, 1) := by decide +kernel
theorem d_M_by_269 : decode prog_14_method_83_code 269 = .ok (.aload_n 0, 1) := by decide +kernel
theorem d_M_by_270 : decode prog_14_method_83_code 270 = .ok (.invokevirtual 373, 3) := by decide +kernel
theorem d_M_by_273 : decode prog_14_method_83_code 273 = .ok (.ifCond .ne 5, 3) := by decide +kernel
theorem d_M_by_278 : decode prog_14_method_83_code 278 = .ok (.aload_n 0, 1) := by decide +kernel
theorem d_M_by_279 : decode prog_14_method_83_code 279 = .ok (.getfield 351, 3) := by decide +kernel
theorem d_M_by_282 : decode prog_14_method_83_code 282 = .ok (.bipush 44, 2) := by decide +kernel
theorem d_M_by_284 : decode prog_14_method_83_code 284 = .ok (.if_icmp .ne 7, 3) := by decide +kernel
theorem d_M_by_291 : decode prog_14_method_83_code 291 = .ok (.iconst 0, 1) := by decide +kernel
theorem d_M_by_292 : decode prog_14_method_83_code 292 = .ok (.istore_n 2, 1) := by decide +kernel
theorem d_M_by_293 : decode prog_14_method_83_code 293 = .ok (.iload_n 2, 1) := by decide +kernel
theorem d_M_by_294 : decode prog_14_method_83_code 294 = .ok (.ifCond .eq 12, 3) := by decide +kernel
theorem d_M_by_306 : decode prog_14_method_83_code 306 = .ok (.goto (-281), 3) := by decide +kernel
theorem d_M_by_287 : decode prog_14_method_83_code 287 = .ok (.iconst 1, 1) := by decide +kernel
theorem d_M_by_288 : decode prog_14_method_83_code 288 = .ok (.goto 4, 3) := by decide +kernel
theorem d_M_by_297 : decode prog_14_method_83_code 297 = .ok (.aload_n 0, 1) := by decide +kernel
theorem d_M_by_298 : decode prog_14_method_83_code 298 = .ok (.invokevirtual 373, 3) := by decide +kernel
theorem d_M_by_301 : decode prog_14_method_83_code 301 = .ok (.ifCond .ne 5, 3) := by decide +kernel
theorem d_M_by_304 : decode prog_14_method_83_code 304 = .ok (.iconst 0, 1) := by decide +kernel
theorem d_M_by_305 : decode prog_14_method_83_code 305 = .ok (.ireturn, 1) := by decide +kernel
theorem d_M_by_276 : decode prog_14_method_83_code 276 = .ok (.iconst 0, 1) := by decide +kernel
theorem d_M_by_277 : decode prog_14_method_83_code 277 = .ok (.ireturn, 1) := by decide +kernel
theorem d_M_by_204 : decode prog_14_method_83_code 204 = .ok (.aload_n 0, 1) := by decide +kernel
theorem d_M_by_205 : decode prog_14_method_83_code 205 = .ok (.iconst 4, 1) := by decide +kernel
theorem d_M_by_206 : decode prog_14_method_83_code 206 = .ok (.aload_n 0, 1) := by decide +kernel
theorem d_M_by_207 : decode prog_14_method_83_code 207 = .ok (.getfield 345, 3) := by decide +kernel
theorem d_M_by_210 : decode prog_14_method_83_code 210 = .ok (.invokevirtual 224, 3) := by decide +kernel
theorem d_M_by_213 : decode prog_14_method_83_code 213 = .ok (.ireturn, 1) := by decide +kernel
theorem d_M_by_64 : decode prog_14_method_83_code 64 = .ok (.iconst 0, 1) := by decide +kernel
theorem d_M_by_65 : decode prog_14_method_83_code 65 = .ok (.istore 4, 2) := by decide +kernel
theorem d_M_by_67 : decode prog_14_method_83_code 67 = .ok (.iload 4, 2) := by decide +kernel
theorem d_M_by_69 : decode prog_14_method_83_code 69 = .ok (.aload_n 0, 1) := by decide +kernel
theorem d_M_by_70 : decode prog_14_method_83_code 70 = .ok (.getfield 88, 3) := by decide +kernel
theorem d_M_by_73 : decode prog_14_method_83_code 73 = .ok (.iload_n 1, 1) := by decide +kernel
theorem d_M_by_74 : decode prog_14_method_83_code 74 = .ok (.iaload, 1) := by decide +kernel
theorem d_M_by_75 : decode prog_14_method_83_code 75 = .ok (.if_icmp .ge 125, 3) := by decide +kernel
theorem d_M_by_107 : decode prog_14_method_83_code 107 = .ok (.istore 5, 2) := by decide +kernel
theorem d_M_by_193 : decode prog_14_method_83_code 193 = .ok (.istore_n 3, 1) := by decide +kernel
theorem d_M_by_194 : decode prog_14_method_83_code 194 = .ok (.iinc 4 1, 3) := by decide +kernel
theorem d_M_by_197 : decode prog_14_method_83_code 197 = .ok (.goto (-130), 3) := by decide +kernel
theorem d_M_by_179 : decode prog_14_method_83_code 179 = .ok (.iload_n 3, 1) := by decide +kernel
theorem d_M_by_180 : decode prog_14_method_83_code 180 = .ok (.ifCond .ne 8, 3) := by decide +kernel
theorem d_M_by_188 : decode prog_14_method_83_code 188 = .ok (.iconst 1, 1) := by decide +kernel
theorem d_M_by_189 : decode prog_14_method_83_code 189 = .ok (.goto 4, 3) := by decide +kernel
theorem d_M_by_183 : decode prog_14_method_83_code 183 = .ok (.iload 5, 2) := by decide +kernel
theorem d_M_by_185 : decode prog_14_method_83_code 185 = .ok (.ifCond .eq 7, 3) := by decide +kernel
theorem d_M_by_192 : decode prog_14_method_83_code 192 = .ok (.iconst 0, 1) := by decide +kernel
theorem d_M_by_109 : decode prog_14_method_83_code 109 = .ok (.iconst 0, 1) := by decide +kernel
theorem d_M_by_110 : decode prog_14_method_83_code 110 = .ok (.istore 6, 2) := by decide +kernel
theorem d_M_by_112 : decode prog_14_method_83_code 112 = .ok (.iload 6, 2) := by decide +kernel
theorem d_M_by_114 : decode prog_14_method_83_code 114 = .ok (.aload_n 0, 1) := by decide +kernel
theorem d_M_by_115 : decode prog_14_method_83_code 115 = .ok (.getfield 342, 3) := by decide +kernel
theorem d_M_by_118 : decode prog_14_method_83_code 118 = .ok (.aload_n 0, 1) := by decide +kernel
theorem d_M_by_119 : decode prog_14_method_83_code 119 = .ok (.getfield 345, 3) := by decide +kernel
theorem d_M_by_122 : decode prog_14_method_83_code 122 = .ok (.isub, 1) := by decide +kernel
theorem d_M_by_123 : decode prog_14_method_83_code 123 = .ok (.if_icmp .ge 56, 3) := by decide +kernel
theorem d_M_by_126 : decode prog_14_method_83_code 126 = .ok (.iload 5, 2) := by decide +kernel
theorem d_M_by_128 : decode prog_14_method_83_code 128 = .ok (.ifCond .eq 51, 3) := by decide +kernel
theorem d_M_by_131 : decode prog_14_method_83_code 131 = .ok (.aload_n 0, 1) := by decide +kernel
theorem d_M_by_132 : decode prog_14_method_83_code 132 = .ok (.getfield 8, 3) := by decide +kernel
theorem d_M_by_135 : decode prog_14_method_83_code 135 = .ok (.aload_n 0, 1) := by decide +kernel
theorem d_M_by_136 : decode prog_14_method_83_code 136 = .ok (.getfield 91, 3) := by decide +kernel
theorem d_M_by_139 : decode prog_14_method_83_code 139 = .ok (.bipush 6, 2) := by decide +kernel
theorem d_M_by_141 : decode prog_14_method_83_code 141 = .ok (.iload_n 1, 1) := by decide +kernel
theorem d_M_by_142 : decode prog_14_method_83_code 142 = .ok (.imul, 1) := by decide +kernel
theorem d_M_by_143 : decode prog_14_method_83_code 143 = .ok (.iload 4, 2) := by decide +kernel
theorem d_M_by_145 : decode prog_14_method_83_code 145 = .ok (.iadd, 1) := by decide +kernel
theorem d_M_by_146 : decode prog_14_method_83_code 146 = .ok (.iaload, 1) := by decide +kernel
theorem d_M_by_147 : decode prog_14_method_83_code 147 = .ok (.iload 6, 2) := by decide +kernel
theorem d_M_by_149 : decode prog_14_method_83_code 149 = .ok (.iadd, 1) := by decide +kernel
theorem d_M_by_150 : decode prog_14_method_83_code 150 = .ok (.baload, 1) := by decide +kernel
theorem d_M_by_151 : decode prog_14_method_83_code 151 = .ok (.aload_n 0, 1) := by decide +kernel
theorem d_M_by_152 : decode prog_14_method_83_code 152 = .ok (.getfield 8, 3) := by decide +kernel
theorem d_M_by_155 : decode prog_14_method_83_code 155 = .ok (.aload_n 0, 1) := by decide +kernel
theorem d_M_by_156 : decode prog_14_method_83_code 156 = .ok (.getfield 345, 3) := by decide +kernel
theorem d_M_by_159 : decode prog_14_method_83_code 159 = .ok (.iload 6, 2) := by decide +kernel
theorem d_M_by_161 : decode prog_14_method_83_code 161 = .ok (.iadd, 1) := by decide +kernel
theorem d_M_by_162 : decode prog_14_method_83_code 162 = .ok (.baload, 1) := by decide +kernel
theorem d_M_by_163 : decode prog_14_method_83_code 163 = .ok (.if_icmp .ne 7, 3) := by decide +kernel
theorem d_M_by_170 : decode prog_14_method_83_code 170 = .ok (.iconst 0, 1) := by decide +kernel
theorem d_M_by_171 : decode prog_14_method_83_code 171 = .ok (.istore 5, 2) := by decide +kernel
theorem d_M_by_173 : decode prog_14_method_83_code 173 = .ok (.iinc 6 1, 3) := by decide +kernel
theorem d_M_by_176 : decode prog_14_method_83_code 176 = .ok (.goto (-64), 3) := by decide +kernel
theorem d_M_by_166 : decode prog_14_method_83_code 166 = .ok (.iconst 1, 1) := by decide +kernel
theorem d_M_by_167 : decode prog_14_method_83_code 167 = .ok (.goto 4, 3) := by decide +kernel
theorem d_M_by_78 : decode prog_14_method_83_code 78 = .ok (.aload_n 0, 1) := by decide +kernel
theorem d_M_by_79 : decode prog_14_method_83_code 79 = .ok (.getfield 94, 3) := by decide +kernel
theorem d_M_by_82 : decode prog_14_method_83_code 82 = .ok (.bipush 6, 2) := by decide +kernel
theorem d_M_by_84 : decode prog_14_method_83_code 84 = .ok (.iload_n 1, 1) := by decide +kernel
theorem d_M_by_85 : decode prog_14_method_83_code 85 = .ok (.imul, 1) := by decide +kernel
theorem d_M_by_86 : decode prog_14_method_83_code 86 = .ok (.iload 4, 2) := by decide +kernel
theorem d_M_by_88 : decode prog_14_method_83_code 88 = .ok (.iadd, 1) := by decide +kernel
theorem d_M_by_89 : decode prog_14_method_83_code 89 = .ok (.iaload, 1) := by decide +kernel
theorem d_M_by_90 : decode prog_14_method_83_code 90 = .ok (.aload_n 0, 1) := by decide +kernel
theorem d_M_by_91 : decode prog_14_method_83_code 91 = .ok (.getfield 342, 3) := by decide +kernel
theorem d_M_by_94 : decode prog_14_method_83_code 94 = .ok (.aload_n 0, 1) := by decide +kernel
theorem d_M_by_95 : decode prog_14_method_83_code 95 = .ok (.getfield 345, 3) := by decide +kernel
theorem d_M_by_98 : decode prog_14_method_83_code 98 = .ok (.isub, 1) := by decide +kernel
theorem d_M_by_99 : decode prog_14_method_83_code 99 = .ok (.if_icmp .ne 7, 3) := by decide +kernel
theorem d_M_by_106 : decode prog_14_method_83_code 106 = .ok (.iconst 0, 1) := by decide +kernel
theorem d_M_by_102 : decode prog_14_method_83_code 102 = .ok (.iconst 1, 1) := by decide +kernel
theorem d_M_by_103 : decode prog_14_method_83_code 103 = .ok (.goto 4, 3) := by decide +kernel
theorem d_M_by_47 : decode prog_14_method_83_code 47 = .ok (.aload_n 0, 1) := by decide +kernel
theorem d_M_by_48 : decode prog_14_method_83_code 48 = .ok (.getfield 88, 3) := by decide +kernel
theorem d_M_by_51 : decode prog_14_method_83_code 51 = .ok (.iload_n 1, 1) := by decide +kernel
theorem d_M_by_52 : decode prog_14_method_83_code 52 = .ok (.iaload, 1) := by decide +kernel
theorem d_M_by_53 : decode prog_14_method_83_code 53 = .ok (.bipush 6, 2) := by decide +kernel
theorem d_M_by_55 : decode prog_14_method_83_code 55 = .ok (.if_icmp .ne 7, 3) := by decide +kernel
theorem d_M_by_62 : decode prog_14_method_83_code 62 = .ok (.iconst 0, 1) := by decide +kernel
theorem d_M_by_58 : decode prog_14_method_83_code 58 = .ok (.iconst 1, 1) := by decide +kernel
theorem d_M_by_59 : decode prog_14_method_83_code 59 = .ok (.goto 4, 3) := by decide +kernel
theorem d_M_by_37 : decode prog_14_method_83_code 37 = .ok (.aload_n 0, 1) := by decide +kernel
theorem d_M_by_38 : decode prog_14_method_83_code 38 = .ok (.iconst 2, 1) := by decide +kernel
theorem d_M_by_39 : decode prog_14_method_83_code 39 = .ok (.aload_n 0, 1) := by decide +kernel
theorem d_M_by_40 : decode prog_14_method_83_code 40 = .ok (.getfield 345, 3) := by decide +kernel
theorem d_M_by_43 : decode prog_14_method_83_code 43 = .ok (.invokevirtual 224, 3) := by decide +kernel
theorem d_M_by_46 : decode prog_14_method_83_code 46 = .ok (.ireturn, 1) := by decide +kernel
set_option maxHeartbeats 4000000 in
set_option maxRecDepth 100000 in
theorem k_by (l : Launch) (D : va_G) (dA : Nat → ClassId) (sz : Nat) (h : Nat) (ad : Nat → Nat) (x : MS) (hlx : x.lx) (hpl : x.pile < 20) (h0 : x.tableNames x.pile = 0) : Met l ⟨"SeriesVaultModel", "by", "()Z"⟩ [Cond.code ⟨"SeriesVaultModel", "by", "()Z"⟩ prog_14_method_83_code 7 (some FieldType.boolean)] { frames := 5, cells := 0, slots := 0, locals := 88 } (pC D dA [.ref h] (MW dA h ad x) sz) (va_Qi (fun (r9 : Int32) (u9 : MS) => r9 = bI (x.byF).1 ∧ u9 = (x.byF).2) (fun (u9 : MS) t9 => bW D (va_A (MW dA h ad x) sz) (MW dA h ad u9) t9) (va_A (MW dA h ad x) sz)) 0 0 (va_A (MW dA h ad x) sz) := by
  refine mkC (y := ⟨"SeriesVaultModel", "by", "()Z"⟩) (cc := prog_14_method_83_code) (maxL := 7) (av := [.ref h]) (ws := MW dA h ad x) (sz := sz) (Qc := fun A => va_Qi (fun (r9 : Int32) (u9 : MS) => r9 = bI (x.byF).1 ∧ u9 = (x.byF).2) (fun (u9 : MS) t9 => bW D A (MW dA h ad u9) t9) A) (by decide) (Nat.le_of_ble_eq_true rfl) ?_
  intro A p e s m below meth c ls hsz hB
  obtain ⟨hx, hb, hr, hml, hown, hin, hlk, hE, hK, hP, hD, hS, hA, hN, hl⟩ := hB
  have hown : s.vm.findClass "SeriesVaultModel" = some m.cls := hown
  have hl : lv_has ls 7 [(0, .ref h)] := hl
  obtain ⟨H, hH⟩ : ∃ z, z = s.heap := ⟨_, rfl⟩
  have hP : va_P D vwCl (MW dA h ad x) H := by rw [hH]; exact hP
  have hS : va_S A s.heap H [] := by rw [hH]; exact hS
  rw [← hH]
  refine lv_aload_n hx hb d_M_by_0 rfl (lv_at hl 0 rfl) ?_
  refine gF (v := .int (nI x.pile)) hx hb hown hE hK hP 0 rfl rfl layM 55 (by decide) w476 rfl d_M_by_1 ?_
  refine lv_istore_n hx hb d_M_by_4 rfl hl (by decide) rfl (fun ls hl => ?_)
  have hl : lv_has ls 7 [(1, .int (nI x.pile)), (0, .ref h)] := hl
  refine lv_aload_n hx hb d_M_by_5 rfl (lv_at hl 1 rfl) ?_
  refine jfI (rnV (As := []) (rest := []) hx hb hml hown hE hK (hN _ _ hS) hP hD (k_next l D dA H.size h ad x hlx.1 hlx.2.2.1 hlx.2.2.2) (q0 := 0) rfl rfl w480 w479 w481 w482 w328 rfl rfl ⟨⟨by decide, by decide⟩, rfl⟩ ⟨(Nat.le_of_ble_eq_true rfl), (Nat.le_of_ble_eq_true rfl)⟩ rfl hl.1 rfl (Nat.le_of_ble_eq_true rfl) d_M_by_6 ⟨(Nat.le_of_ble_eq_true rfl), (Nat.le_of_ble_eq_true rfl)⟩) hP hD hS hA (fun r1 u2 H locs hp9 hP hD hS => ?_)
  obtain ⟨y3, h9u⟩ : ∃ z9, z9 = u2 := ⟨_, rfl⟩
  subst h9u
  have hP : va_P D vwCl (MW dA h ad y3) H := hP
  have hD : va_D A (MW dA h ad y3) := hD
  obtain ⟨hp9, f_e_4⟩ := hp9
  replace hp9 : bI (x.nx).1 = r1 := Eq.symm hp9
  subst hp9
  refine lv_if_eq hx hb d_M_by_9 (tgt := 21) rfl (fun g5 => ?_) (fun g5 => ?_)
  · have g5 := bI_0 g5
    refine lv_iconst (v := 0) hx hb d_M_by_21 (by decide) ?_
    exact rfZ hx hb hr (bI_nar false) hlk hS y3 (by rw [byF_0 g5]; exact ⟨rfl, f_e_4⟩) hP hD (Nat.le_of_ble_eq_true rfl) (Nat.le_of_ble_eq_true rfl) d_M_by_22
  · have g5 := bI_n0 g5
    have l1 : y3.lx := by rw [f_e_4]; exact (nx_in hlx g5).1
    refine lv_aload_n hx hb d_M_by_12 rfl (lv_at hl 1 rfl) ?_
    refine lv_bipush (v := 40) hx hb d_M_by_13 (by decide) ?_
    refine jfI (rnV (As := [.int 40]) (rest := []) hx hb hml hown hE hK (hN _ _ hS) hP hD (k_need l D dA H.size h ad y3 40 l1) (q0 := 0) rfl rfl w1023 w1022 w1024 w1025 w328 rfl rfl ⟨⟨by decide, by decide⟩, rfl⟩ ⟨(Nat.le_of_ble_eq_true rfl), (Nat.le_of_ble_eq_true rfl)⟩ rfl hl.1 rfl (Nat.le_of_ble_eq_true rfl) d_M_by_15 ⟨(Nat.le_of_ble_eq_true rfl), (Nat.le_of_ble_eq_true rfl)⟩) hP hD hS hA (fun r6 u7 H locs hp9 hP hD hS => ?_)
    obtain ⟨y8, h9u⟩ : ∃ z9, z9 = u7 := ⟨_, rfl⟩
    subst h9u
    have hP : va_P D vwCl (MW dA h ad y8) H := hP
    have hD : va_D A (MW dA h ad y8) := hD
    obtain ⟨hp9, f_e_9⟩ := hp9
    replace hp9 : bI (y3.ndF 40).1 = r6 := Eq.symm hp9
    subst hp9
    refine lv_if_ne hx hb d_M_by_18 (tgt := 23) rfl (fun g10 => ?_) (fun g10 => ?_)
    · have g10 := bI_n0 g10
      have T1 : x.tk y8 := by rw [f_e_9, f_e_4]; exact tk_tr (tk_nx x) (tk_nd _ 40)
      have n0 : y8.tableNames x.pile = 0 := (tk_tn T1 _).trans h0
      have n1 : y8.nmT x.pile := nmT_tk T1 (fun k hk => absurd hk (by rw [h0]; exact Nat.not_lt_zero k))
      refine lv_iconst (v := 1) hx hb d_M_by_23 (by decide) ?_
      refine lv_istore_n hx hb d_M_by_24 rfl hl (by decide) rfl (fun ls hl => ?_)
      have hl : lv_has ls 7 [(2, .int 1), (1, .int (nI x.pile)), (0, .ref h)] := hl
      have L25 : ∀ (k9 : Nat) (yy : MS) (b : Bool) (w : Nat) (i1 : x.byF = (if b = true then MS.byL x.pile w yy else yy.ndF 41)) (i2 : yy.lx) (i3 : yy.nmT x.pile) (i4 : yy.tableNames x.pile ≤ 6) (i5 : b = true → yy.tableNames x.pile + w = 7) (hk9 : w = k9), ∀ (H : Heap) (locs : List Loc) (ls : Array Slot) (hP : va_P D vwCl (MW dA h ad yy) H) (hD : va_D A (MW dA h ad yy)) (hS : va_S A s.heap H locs) (hl : lv_has ls 7 [(2, .int (bI b)), (1, .int (nI x.pile)), (0, .ref h)]), W p l e ({ frames := 5, cells := 0, slots := 0, locals := 88 } : Room) s m ([.ref h] : List Value).toArray below meth c H locs 0 0 (MQ below (va_Qi (fun (r9 : Int32) (u9 : MS) => r9 = bI (x.byF).1 ∧ u9 = (x.byF).2) (fun (u9 : MS) t9 => bW D A (MW dA h ad u9) t9) A) ([.ref h] : List Value).toArray s 0 0 A) (F0 m 25 ls []) := by
        intro k9
        induction k9 using Nat.strongRecOn with
        | ind k9 ih25 =>
          intro yy b w i1 i2 i3 i4 i5 hk9 H locs ls hP hD hS hl
          refine lv_iload_n hx hb d_M_by_25 rfl (lv_at hl 0 rfl) ?_
          refine lv_if_eq hx hb d_M_by_26 (tgt := 309) rfl (fun g11 => ?_) (fun g11 => ?_)
          · have g11 := bI_0 g11
            refine lv_aload_n hx hb d_M_by_309 rfl (lv_at hl 2 rfl) ?_
            refine lv_bipush (v := 41) hx hb d_M_by_310 (by decide) ?_
            refine jfI (rnV (As := [.int 41]) (rest := []) hx hb hml hown hE hK (hN _ _ hS) hP hD (k_need l D dA H.size h ad yy 41 i2) (q0 := 0) rfl rfl w1023 w1022 w1024 w1025 w328 rfl rfl ⟨⟨by decide, by decide⟩, rfl⟩ ⟨(Nat.le_of_ble_eq_true rfl), (Nat.le_of_ble_eq_true rfl)⟩ rfl hl.1 rfl (Nat.le_of_ble_eq_true rfl) d_M_by_312 ⟨(Nat.le_of_ble_eq_true rfl), (Nat.le_of_ble_eq_true rfl)⟩) hP hD hS hA (fun r12 u13 H locs hp9 hP hD hS => ?_)
            obtain ⟨y14, h9u⟩ : ∃ z9, z9 = u13 := ⟨_, rfl⟩
            subst h9u
            have hP : va_P D vwCl (MW dA h ad y14) H := hP
            have hD : va_D A (MW dA h ad y14) := hD
            obtain ⟨hp9, f_e_15⟩ := hp9
            replace hp9 : bI (yy.ndF 41).1 = r12 := Eq.symm hp9
            subst hp9
            exact rfZ hx hb hr (bI_nar ((yy.ndF 41).1)) hlk hS y14 (by rw [i1, if_neg (by rw [g11]; decide)]; exact ⟨rfl, f_e_15⟩) hP hD (Nat.le_of_ble_eq_true rfl) (Nat.le_of_ble_eq_true rfl) d_M_by_315
          · have g11 := bI_n0 g11
            have w0 := i5 g11
            have i1b : x.byF = MS.byL x.pile w yy := i1.trans (if_pos g11)
            have j1 := i2.1
            have j2 := i2.2.1
            have j3 := i2.2.2.1
            refine lv_aload_n hx hb d_M_by_29 rfl (lv_at hl 2 rfl) ?_
            refine gF (v := .int yy.kind) hx hb hown hE hK hP 0 rfl rfl layM 44 (by decide) w469 rfl d_M_by_30 ?_
            refine lv_iconst (v := 2) hx hb d_M_by_33 (by decide) ?_
            refine lv_icmp_eq hx hb d_M_by_34 (tgt := 47) rfl (fun g16 => ?_) (fun g16 => ?_)
            · have g16 := g16
              have J63 : ∀ (tw : Bool) (t0 : decide (yy.tableNames x.pile = 6) = tw), ∀ (H : Heap) (locs : List Loc) (ls : Array Slot) (hP : va_P D vwCl (MW dA h ad yy) H) (hD : va_D A (MW dA h ad yy)) (hS : va_S A s.heap H locs) (hl : lv_has ls 7 [(2, .int (bI b)), (1, .int (nI x.pile)), (0, .ref h)]), W p l e ({ frames := 5, cells := 0, slots := 0, locals := 88 } : Room) s m ([.ref h] : List Value).toArray below meth c H locs 0 0 (MQ below (va_Qi (fun (r9 : Int32) (u9 : MS) => r9 = bI (x.byF).1 ∧ u9 = (x.byF).2) (fun (u9 : MS) t9 => bW D A (MW dA h ad u9) t9) A) ([.ref h] : List Value).toArray s 0 0 A) (F0 m 63 ls [.int (bI tw)]) := by
                intro tw t0 H locs ls hP hD hS hl
                refine lv_istore_n hx hb d_M_by_63 rfl hl (by decide) rfl (fun ls hl => ?_)
                have hl : lv_has ls 7 [(3, .int (bI tw)), (2, .int (bI b)), (1, .int (nI x.pile)), (0, .ref h)] := hl
                have J200 : ∀ (tw : Bool) (t9 : yy.byT x.pile = tw), ∀ (H : Heap) (locs : List Loc) (ls : Array Slot) (hP : va_P D vwCl (MW dA h ad yy) H) (hD : va_D A (MW dA h ad yy)) (hS : va_S A s.heap H locs) (hl : lv_has ls 7 [(3, .int (bI tw)), (2, .int (bI b)), (1, .int (nI x.pile)), (0, .ref h)]), W p l e ({ frames := 5, cells := 0, slots := 0, locals := 88 } : Room) s m ([.ref h] : List Value).toArray below meth c H locs 0 0 (MQ below (va_Qi (fun (r9 : Int32) (u9 : MS) => r9 = bI (x.byF).1 ∧ u9 = (x.byF).2) (fun (u9 : MS) t9 => bW D A (MW dA h ad u9) t9) A) ([.ref h] : List Value).toArray s 0 0 A) (F0 m 200 ls []) := by
                  intro tw t9 H locs ls hP hD hS hl
                  refine lv_iload_n hx hb d_M_by_200 rfl (lv_at hl 0 rfl) ?_
                  refine lv_if_eq hx hb d_M_by_201 (tgt := 214) rfl (fun g17 => ?_) (fun g17 => ?_)
                  · have g17 := bI_0 g17
                    have t8 : yy.byT x.pile = false := t9.trans g17
                    have c6 := by_6 t8
                    refine lv_aload_n hx hb d_M_by_214 rfl (lv_at hl 3 rfl) ?_
                    refine gF (v := .ref (ad 49)) hx hb hown hE hK hP 0 rfl rfl layM 49 (by decide) w519 rfl d_M_by_215 ?_
                    refine lv_bipush (v := 6) hx hb d_M_by_218 (by decide) ?_
                    refine lv_iload_n hx hb d_M_by_220 rfl (lv_at hl 2 rfl) ?_
                    refine lv_imul hx hb d_M_by_221 (tpi (y := nI (6 * x.pile)) (pk_mul (6) (x.pile)) ?_)
                    refine lv_aload_n hx hb d_M_by_222 rfl (lv_at hl 3 rfl) ?_
                    refine gF (v := .ref (ad 48)) hx hb hown hE hK hP 0 rfl rfl layM 48 (by decide) w518 rfl d_M_by_223 ?_
                    refine lv_iload_n hx hb d_M_by_226 rfl (lv_at hl 2 rfl) ?_
                    refine nild (f := (fun z9 => nI (yy.tableNames z9))) hx hb hK hP 21 1 rfl rfl (x.pile) (by omega) (by decide) d_M_by_227 ?_
                    refine lv_iadd hx hb d_M_by_228 (tpi (y := nI ((6 * x.pile) + (yy.tableNames x.pile))) (nI_add (6 * x.pile) (yy.tableNames x.pile)) ?_)
                    refine lv_aload_n hx hb d_M_by_229 rfl (lv_at hl 3 rfl) ?_
                    refine gF (v := .int (nI yy.frm)) hx hb hown hE hK hP 0 rfl rfl layM 45 (by decide) w464 rfl d_M_by_230 ?_
                    refine nistN (v := yy.frm) hx hb hK hP hD hS 22 1 rfl rfl ((6 * x.pile) + (yy.tableNames x.pile)) (by omega) (by decide) d_M_by_233 (fun H locs hP hD hS => ?_)
                    have hP : va_P D vwCl (MW dA h ad (MS.s_nameFroms yy (va_up yy.nameFroms ((6 * x.pile) + (yy.tableNames x.pile)) yy.frm))) H := hP
                    have hD : va_D A (MW dA h ad (MS.s_nameFroms yy (va_up yy.nameFroms ((6 * x.pile) + (yy.tableNames x.pile)) yy.frm))) := hD
                    refine lv_aload_n hx hb d_M_by_234 rfl (lv_at hl 3 rfl) ?_
                    refine gF (v := .ref (ad 50)) hx hb hown hE hK hP 0 rfl rfl layM 50 (by decide) w520 rfl d_M_by_235 ?_
                    refine lv_bipush (v := 6) hx hb d_M_by_238 (by decide) ?_
                    refine lv_iload_n hx hb d_M_by_240 rfl (lv_at hl 2 rfl) ?_
                    refine lv_imul hx hb d_M_by_241 (tpi (y := nI (6 * x.pile)) (pk_mul (6) (x.pile)) ?_)
                    refine lv_aload_n hx hb d_M_by_242 rfl (lv_at hl 3 rfl) ?_
                    refine gF (v := .ref (ad 48)) hx hb hown hE hK hP 0 rfl rfl layM 48 (by decide) w518 rfl d_M_by_243 ?_
                    refine lv_iload_n hx hb d_M_by_246 rfl (lv_at hl 2 rfl) ?_
                    refine nild (f := (fun z9 => nI (yy.tableNames z9))) hx hb hK hP 21 1 rfl rfl (x.pile) (by omega) (by decide) d_M_by_247 ?_
                    refine lv_iadd hx hb d_M_by_248 (tpi (y := nI ((6 * x.pile) + (yy.tableNames x.pile))) (nI_add (6 * x.pile) (yy.tableNames x.pile)) ?_)
                    refine lv_aload_n hx hb d_M_by_249 rfl (lv_at hl 3 rfl) ?_
                    refine gF (v := .int (nI yy.too)) hx hb hown hE hK hP 0 rfl rfl layM 46 (by decide) w463 rfl d_M_by_250 ?_
                    refine lv_aload_n hx hb d_M_by_253 rfl (lv_at hl 3 rfl) ?_
                    refine gF (v := .int (nI yy.frm)) hx hb hown hE hK hP 0 rfl rfl layM 45 (by decide) w464 rfl d_M_by_254 ?_
                    refine lv_isub hx hb d_M_by_257 (tpi (y := nI (yy.too - yy.frm)) (pk_sub (a := yy.too) (b := yy.frm) (by omega)) ?_)
                    refine nistN (v := yy.too - yy.frm) hx hb hK hP hD hS 23 1 rfl rfl ((6 * x.pile) + (yy.tableNames x.pile)) (by omega) (by decide) d_M_by_258 (fun H locs hP hD hS => ?_)
                    have hP : va_P D vwCl (MW dA h ad (MS.s_nameLengths (MS.s_nameFroms yy (va_up yy.nameFroms ((6 * x.pile) + (yy.tableNames x.pile)) yy.frm)) (va_up yy.nameLengths ((6 * x.pile) + (yy.tableNames x.pile)) (yy.too - yy.frm)))) H := hP
                    have hD : va_D A (MW dA h ad (MS.s_nameLengths (MS.s_nameFroms yy (va_up yy.nameFroms ((6 * x.pile) + (yy.tableNames x.pile)) yy.frm)) (va_up yy.nameLengths ((6 * x.pile) + (yy.tableNames x.pile)) (yy.too - yy.frm)))) := hD
                    refine lv_aload_n hx hb d_M_by_259 rfl (lv_at hl 3 rfl) ?_
                    refine gF (v := .ref (ad 48)) hx hb hown hE hK hP 0 rfl rfl layM 48 (by decide) w518 rfl d_M_by_260 ?_
                    refine lv_iload_n hx hb d_M_by_263 rfl (lv_at hl 2 rfl) ?_
                    refine lv_dup2_11 hx hb d_M_by_264 rfl rfl ?_
                    refine nild (f := (fun z9 => nI (yy.tableNames z9))) hx hb hK hP 21 1 rfl rfl (x.pile) (by omega) (by decide) d_M_by_265 ?_
                    refine lv_iconst (v := 1) hx hb d_M_by_266 (by decide) ?_
                    refine lv_iadd hx hb d_M_by_267 (tpi (y := nI (yy.tableNames x.pile + 1)) (nI_add (yy.tableNames x.pile) (1)) ?_)
                    refine nistN (v := yy.tableNames x.pile + 1) hx hb hK hP hD hS 21 1 rfl rfl (x.pile) (by omega) (by decide) d_M_by_268 (fun H locs hP hD hS => ?_)
                    have hP : va_P D vwCl (MW dA h ad (MS.s_nameLengths (MS.s_nameFroms (MS.s_tableNames yy (va_up yy.tableNames x.pile (yy.tableNames x.pile + 1))) (va_up yy.nameFroms ((6 * x.pile) + (yy.tableNames x.pile)) yy.frm)) (va_up yy.nameLengths ((6 * x.pile) + (yy.tableNames x.pile)) (yy.too - yy.frm)))) H := hP
                    have hD : va_D A (MW dA h ad (MS.s_nameLengths (MS.s_nameFroms (MS.s_tableNames yy (va_up yy.tableNames x.pile (yy.tableNames x.pile + 1))) (va_up yy.nameFroms ((6 * x.pile) + (yy.tableNames x.pile)) yy.frm)) (va_up yy.nameLengths ((6 * x.pile) + (yy.tableNames x.pile)) (yy.too - yy.frm)))) := hD
                    refine lv_aload_n hx hb d_M_by_269 rfl (lv_at hl 3 rfl) ?_
                    refine jfI (rnV (As := []) (rest := []) hx hb hml hown hE hK (hN _ _ hS) hP hD (k_next l D dA H.size h ad (MS.s_nameLengths (MS.s_nameFroms (MS.s_tableNames yy (va_up yy.tableNames x.pile (yy.tableNames x.pile + 1))) (va_up yy.nameFroms ((6 * x.pile) + (yy.tableNames x.pile)) yy.frm)) (va_up yy.nameLengths ((6 * x.pile) + (yy.tableNames x.pile)) (yy.too - yy.frm))) i2.1 i2.2.2.1 i2.2.2.2) (q0 := 0) rfl rfl w480 w479 w481 w482 w328 rfl rfl ⟨⟨by decide, by decide⟩, rfl⟩ ⟨(Nat.le_of_ble_eq_true rfl), (Nat.le_of_ble_eq_true rfl)⟩ rfl hl.1 rfl (Nat.le_of_ble_eq_true rfl) d_M_by_270 ⟨(Nat.le_of_ble_eq_true rfl), (Nat.le_of_ble_eq_true rfl)⟩) hP hD hS hA (fun r18 u19 H locs hp9 hP hD hS => ?_)
                    obtain ⟨y20, h9u⟩ : ∃ z9, z9 = u19 := ⟨_, rfl⟩
                    subst h9u
                    have hP : va_P D vwCl (MW dA h ad y20) H := hP
                    have hD : va_D A (MW dA h ad y20) := hD
                    obtain ⟨hp9, f_e_21⟩ := hp9
                    replace hp9 : bI ((MS.s_nameLengths (MS.s_nameFroms (MS.s_tableNames yy (va_up yy.tableNames x.pile (yy.tableNames x.pile + 1))) (va_up yy.nameFroms ((6 * x.pile) + (yy.tableNames x.pile)) yy.frm)) (va_up yy.nameLengths ((6 * x.pile) + (yy.tableNames x.pile)) (yy.too - yy.frm))).nx).1 = r18 := Eq.symm hp9
                    subst hp9
                    refine lv_if_ne hx hb d_M_by_273 (tgt := 278) rfl (fun g22 => ?_) (fun g22 => ?_)
                    · have g22 := bI_n0 g22
                      have ga3 : (yy.adS x.pile).nx.1 = true := g22
                      have l3 : y20.lx := by rw [f_e_21]; exact (nx_in (lx_ad i2) ga3).1
                      have n3 : y20.nmT x.pile := by rw [f_e_21]; exact nmT_tk (tk_nx _) (nmT_ad i3 i2.2.1 i2.2.2.1)
                      have c3 : y20.tableNames x.pile = yy.tableNames x.pile + 1 := by rw [f_e_21]; exact (tk_tn (tk_nx _) _).trans (tn_ad _ _)
                      refine lv_aload_n hx hb d_M_by_278 rfl (lv_at hl 3 rfl) ?_
                      refine gF (v := .int y20.kind) hx hb hown hE hK hP 0 rfl rfl layM 44 (by decide) w469 rfl d_M_by_279 ?_
                      refine lv_bipush (v := 44) hx hb d_M_by_282 (by decide) ?_
                      refine lv_icmp_ne hx hb d_M_by_284 (tgt := 291) rfl (fun g23 => ?_) (fun g23 => ?_)
                      · have g23 := g23
                        refine lv_iconst (v := 0) hx hb d_M_by_291 (by decide) ?_
                        refine lv_istore_n hx hb d_M_by_292 rfl hl (by decide) rfl (fun ls hl => ?_)
                        have hl : lv_has ls 7 [(2, .int 0), (3, .int (bI tw)), (1, .int (nI x.pile)), (0, .ref h)] := hl
                        refine lv_iload_n hx hb d_M_by_293 rfl (lv_at hl 0 rfl) ?_
                        refine lv_if_eq hx hb d_M_by_294 (tgt := 306) rfl (fun _ => ?_) (fun h9 => absurd (by decide) h9)
                        refine lv_goto hx hb d_M_by_306 (tgt := 25) rfl ?_
                        exact ih25 _ (by omega) y20 false (w - 1) (i1b.trans ((by_e (by omega) g16 t8 ga3 f_e_21 g23).trans (if_neg (by decide)).symm)) l3 n3 (by omega) (fun z9 => Bool.noConfusion z9) rfl H _ ls hP hD hS (lv_sub hl [0, 2, 3] rfl)
                      · have g23 := g23
                        refine lv_iconst (v := 1) hx hb d_M_by_287 (by decide) ?_
                        refine lv_goto hx hb d_M_by_288 (tgt := 292) rfl ?_
                        refine lv_istore_n hx hb d_M_by_292 rfl hl (by decide) rfl (fun ls hl => ?_)
                        have hl : lv_has ls 7 [(2, .int 1), (3, .int (bI tw)), (1, .int (nI x.pile)), (0, .ref h)] := hl
                        refine lv_iload_n hx hb d_M_by_293 rfl (lv_at hl 0 rfl) ?_
                        refine lv_if_eq hx hb d_M_by_294 (tgt := 306) rfl (fun h9 => absurd h9 (by decide)) (fun _ => ?_)
                        refine lv_aload_n hx hb d_M_by_297 rfl (lv_at hl 3 rfl) ?_
                        refine jfI (rnV (As := []) (rest := []) hx hb hml hown hE hK (hN _ _ hS) hP hD (k_next l D dA H.size h ad y20 l3.1 l3.2.2.1 l3.2.2.2) (q0 := 0) rfl rfl w480 w479 w481 w482 w328 rfl rfl ⟨⟨by decide, by decide⟩, rfl⟩ ⟨(Nat.le_of_ble_eq_true rfl), (Nat.le_of_ble_eq_true rfl)⟩ rfl hl.1 rfl (Nat.le_of_ble_eq_true rfl) d_M_by_298 ⟨(Nat.le_of_ble_eq_true rfl), (Nat.le_of_ble_eq_true rfl)⟩) hP hD hS hA (fun r24 u25 H locs hp9 hP hD hS => ?_)
                        obtain ⟨y26, h9u⟩ : ∃ z9, z9 = u25 := ⟨_, rfl⟩
                        subst h9u
                        have hP : va_P D vwCl (MW dA h ad y26) H := hP
                        have hD : va_D A (MW dA h ad y26) := hD
                        obtain ⟨hp9, f_e_27⟩ := hp9
                        replace hp9 : bI (y20.nx).1 = r24 := Eq.symm hp9
                        subst hp9
                        refine lv_if_ne hx hb d_M_by_301 (tgt := 306) rfl (fun g28 => ?_) (fun g28 => ?_)
                        · have g28 := bI_n0 g28
                          refine lv_goto hx hb d_M_by_306 (tgt := 25) rfl ?_
                          exact ih25 _ (by omega) y26 true (w - 1) (i1b.trans ((by_m (by omega) g16 t8 ga3 f_e_21 g23 g28 f_e_27).trans (if_pos rfl).symm)) (by rw [f_e_27]; exact (nx_in l3 g28).1) (by rw [f_e_27]; exact nmT_tk (tk_nx _) n3) (by rw [f_e_27, tk_tn (tk_nx _)]; omega) (fun _ => by rw [f_e_27, tk_tn (tk_nx _)]; omega) rfl H _ ls hP hD hS (lv_sub hl [0, 2, 3] rfl)
                        · have g28 := bI_0 g28
                          refine lv_iconst (v := 0) hx hb d_M_by_304 (by decide) ?_
                          exact rfZ hx hb hr (bI_nar false) hlk hS y26 (by rw [i1b, by_mn (by omega) g16 t8 ga3 f_e_21 g23 g28]; exact ⟨rfl, f_e_27⟩) hP hD (Nat.le_of_ble_eq_true rfl) (Nat.le_of_ble_eq_true rfl) d_M_by_305
                    · have g22 := bI_0 g22
                      refine lv_iconst (v := 0) hx hb d_M_by_276 (by decide) ?_
                      exact rfZ hx hb hr (bI_nar false) hlk hS y20 (by rw [i1b, by_n (by omega) g16 t8 g22]; exact ⟨rfl, f_e_21⟩) hP hD (Nat.le_of_ble_eq_true rfl) (Nat.le_of_ble_eq_true rfl) d_M_by_277
                  · have g17 := bI_n0 g17
                    refine lv_aload_n hx hb d_M_by_204 rfl (lv_at hl 3 rfl) ?_
                    refine lv_iconst (v := 4) hx hb d_M_by_205 (by decide) ?_
                    refine lv_aload_n hx hb d_M_by_206 rfl (lv_at hl 3 rfl) ?_
                    refine gF (v := .int (nI yy.frm)) hx hb hown hE hK hP 0 rfl rfl layM 45 (by decide) w464 rfl d_M_by_207 ?_
                    refine jfI (rnV (As := [.int 4, .int (nI yy.frm)]) (rest := []) hx hb hml hown hE hK (hN _ _ hS) hP hD (k_flaw_0 l D dA H.size h ad yy 4 (nI yy.frm) i2.2.2.2) (q0 := 0) rfl rfl w431 w430 w432 w433 w328 rfl rfl ⟨⟨by decide, by decide⟩, rfl⟩ ⟨(Nat.le_of_ble_eq_true rfl), (Nat.le_of_ble_eq_true rfl)⟩ rfl hl.1 rfl (Nat.le_of_ble_eq_true rfl) d_M_by_210 ⟨(Nat.le_of_ble_eq_true rfl), (Nat.le_of_ble_eq_true rfl)⟩) hP hD hS hA (fun r29 u30 H locs hp9 hP hD hS => ?_)
                    have hP : va_P D vwCl (MW dA h ad (MS.s_faultPlace (MS.s_faultCode yy 4) (nI yy.frm))) H := hP
                    have hD : va_D A (MW dA h ad (MS.s_faultPlace (MS.s_faultCode yy 4) (nI yy.frm))) := hD
                    replace hp9 : bI false = r29 := Eq.symm hp9
                    subst hp9
                    exact rfZ hx hb hr (bI_nar false) hlk hS (MS.s_faultPlace (MS.s_faultCode yy 4) (nI yy.frm)) (by rw [i1b, by_4 (by omega) g16 (t9.trans g17)]; exact ⟨rfl, rfl⟩) hP hD (Nat.le_of_ble_eq_true rfl) (Nat.le_of_ble_eq_true rfl) d_M_by_213
                refine lv_iconst (v := 0) hx hb d_M_by_64 (by decide) ?_
                refine lv_istore hx hb d_M_by_65 hl (by decide) rfl (fun ls hl => ?_)
                have hl : lv_has ls 7 [(4, .int 0), (3, .int (bI tw)), (2, .int (bI b)), (1, .int (nI x.pile)), (0, .ref h)] := hl
                have L67 : ∀ (k9 : Nat) (k : Nat) (tw : Bool) (k1 : k ≤ yy.tableNames x.pile) (k2 : (decide (yy.tableNames x.pile = 6) || anyB k (yy.nmQ x.pile)) = tw) (hk9 : yy.tableNames x.pile - k = k9), ∀ (H : Heap) (locs : List Loc) (ls : Array Slot) (hP : va_P D vwCl (MW dA h ad yy) H) (hD : va_D A (MW dA h ad yy)) (hS : va_S A s.heap H locs) (hl : lv_has ls 7 [(4, .int (nI k)), (3, .int (bI tw)), (2, .int (bI b)), (1, .int (nI x.pile)), (0, .ref h)]), W p l e ({ frames := 5, cells := 0, slots := 0, locals := 88 } : Room) s m ([.ref h] : List Value).toArray below meth c H locs 0 0 (MQ below (va_Qi (fun (r9 : Int32) (u9 : MS) => r9 = bI (x.byF).1 ∧ u9 = (x.byF).2) (fun (u9 : MS) t9 => bW D A (MW dA h ad u9) t9) A) ([.ref h] : List Value).toArray s 0 0 A) (F0 m 67 ls []) := by
                  intro k9
                  induction k9 using Nat.strongRecOn with
                  | ind k9 ih67 =>
                    intro k tw k1 k2 hk9 H locs ls hP hD hS hl
                    refine lv_iload hx hb d_M_by_67 (lv_at hl 0 rfl) ?_
                    refine lv_aload_n hx hb d_M_by_69 rfl (lv_at hl 4 rfl) ?_
                    refine gF (v := .ref (ad 48)) hx hb hown hE hK hP 0 rfl rfl layM 48 (by decide) w518 rfl d_M_by_70 ?_
                    refine lv_iload_n hx hb d_M_by_73 rfl (lv_at hl 3 rfl) ?_
                    refine nild (f := (fun z9 => nI (yy.tableNames z9))) hx hb hK hP 21 1 rfl rfl (x.pile) (by omega) (by decide) d_M_by_74 ?_
                    refine lv_icmp_ge hx hb d_M_by_75 (tgt := 200) rfl (fun g31 => ?_) (fun g31 => ?_)
                    · have g31 := (nI_leI (a := yy.tableNames x.pile) (b := k) (by omega) (by omega)).mp g31
                      exact J200 tw (by rw [show k = yy.tableNames x.pile by omega] at k2; exact k2) H _ ls hP hD hS (lv_sub hl [1, 2, 3, 4] rfl)
                    · have g31 := mt (nI_leI (a := yy.tableNames x.pile) (b := k) (by omega) (by omega)).mpr g31
                      have J107 : ∀ (sm : Bool) (s0 : decide (yy.nameLengths ((6 * x.pile) + k) = yy.too - yy.frm) = sm), ∀ (H : Heap) (locs : List Loc) (ls : Array Slot) (hP : va_P D vwCl (MW dA h ad yy) H) (hD : va_D A (MW dA h ad yy)) (hS : va_S A s.heap H locs) (hl : lv_has ls 7 [(4, .int (nI k)), (3, .int (bI tw)), (2, .int (bI b)), (1, .int (nI x.pile)), (0, .ref h)]), W p l e ({ frames := 5, cells := 0, slots := 0, locals := 88 } : Room) s m ([.ref h] : List Value).toArray below meth c H locs 0 0 (MQ below (va_Qi (fun (r9 : Int32) (u9 : MS) => r9 = bI (x.byF).1 ∧ u9 = (x.byF).2) (fun (u9 : MS) t9 => bW D A (MW dA h ad u9) t9) A) ([.ref h] : List Value).toArray s 0 0 A) (F0 m 107 ls [.int (bI sm)]) := by
                        intro sm s0 H locs ls hP hD hS hl
                        have nk : yy.nameFroms (6 * x.pile + k) + yy.nameLengths (6 * x.pile + k) ≤ yy.length := i3 k (by omega)
                        refine lv_istore hx hb d_M_by_107 hl (by decide) rfl (fun ls hl => ?_)
                        have hl : lv_has ls 7 [(5, .int (bI sm)), (4, .int (nI k)), (3, .int (bI tw)), (2, .int (bI b)), (1, .int (nI x.pile)), (0, .ref h)] := hl
                        have J179 : ∀ (sm : Bool) (q5 : yy.nmQ x.pile k = sm), ∀ (H : Heap) (locs : List Loc) (ls : Array Slot) (hP : va_P D vwCl (MW dA h ad yy) H) (hD : va_D A (MW dA h ad yy)) (hS : va_S A s.heap H locs) (hl : lv_has ls 7 [(5, .int (bI sm)), (4, .int (nI k)), (3, .int (bI tw)), (2, .int (bI b)), (1, .int (nI x.pile)), (0, .ref h)]), W p l e ({ frames := 5, cells := 0, slots := 0, locals := 88 } : Room) s m ([.ref h] : List Value).toArray below meth c H locs 0 0 (MQ below (va_Qi (fun (r9 : Int32) (u9 : MS) => r9 = bI (x.byF).1 ∧ u9 = (x.byF).2) (fun (u9 : MS) t9 => bW D A (MW dA h ad u9) t9) A) ([.ref h] : List Value).toArray s 0 0 A) (F0 m 179 ls []) := by
                          intro sm q5 H locs ls hP hD hS hl
                          have J193 : ∀ (u2 : Bool) (t5 : (tw || sm) = u2), ∀ (H : Heap) (locs : List Loc) (ls : Array Slot) (hP : va_P D vwCl (MW dA h ad yy) H) (hD : va_D A (MW dA h ad yy)) (hS : va_S A s.heap H locs) (hl : lv_has ls 7 [(4, .int (nI k)), (2, .int (bI b)), (1, .int (nI x.pile)), (0, .ref h)]), W p l e ({ frames := 5, cells := 0, slots := 0, locals := 88 } : Room) s m ([.ref h] : List Value).toArray below meth c H locs 0 0 (MQ below (va_Qi (fun (r9 : Int32) (u9 : MS) => r9 = bI (x.byF).1 ∧ u9 = (x.byF).2) (fun (u9 : MS) t9 => bW D A (MW dA h ad u9) t9) A) ([.ref h] : List Value).toArray s 0 0 A) (F0 m 193 ls [.int (bI u2)]) := by
                            intro u2 t5 H locs ls hP hD hS hl
                            refine lv_istore_n hx hb d_M_by_193 rfl hl (by decide) rfl (fun ls hl => ?_)
                            have hl : lv_has ls 7 [(3, .int (bI u2)), (4, .int (nI k)), (2, .int (bI b)), (1, .int (nI x.pile)), (0, .ref h)] := hl
                            refine lv_iinc (k := 1) (v := nI (k + 1)) hx hb d_M_by_194 hl rfl (iincN (k) 1 1 (by decide)) (by decide) rfl (fun ls hl => ?_)
                            have hl : lv_has ls 7 [(4, .int (nI (k + 1))), (3, .int (bI u2)), (2, .int (bI b)), (1, .int (nI x.pile)), (0, .ref h)] := hl
                            refine lv_goto hx hb d_M_by_197 (tgt := 67) rfl ?_
                            exact ih67 _ (by omega) (k + 1) u2 (by omega) ((or_tw k2 sm q5).trans t5) rfl H _ ls hP hD hS (lv_sub hl [0, 1, 2, 3, 4] rfl)
                          refine lv_iload_n hx hb d_M_by_179 rfl (lv_at hl 2 rfl) ?_
                          refine lv_if_ne hx hb d_M_by_180 (tgt := 188) rfl (fun g32 => ?_) (fun g32 => ?_)
                          · have g32 := bI_n0 g32
                            refine lv_iconst (v := 1) hx hb d_M_by_188 (by decide) ?_
                            refine lv_goto hx hb d_M_by_189 (tgt := 193) rfl ?_
                            exact J193 true (by rw [g32]; rfl) H _ ls hP hD hS (lv_sub hl [1, 3, 4, 5] rfl)
                          · have g32 := bI_0 g32
                            refine lv_iload hx hb d_M_by_183 (lv_at hl 0 rfl) ?_
                            refine lv_if_eq hx hb d_M_by_185 (tgt := 192) rfl (fun g33 => ?_) (fun g33 => ?_)
                            · have g33 := bI_0 g33
                              refine lv_iconst (v := 0) hx hb d_M_by_192 (by decide) ?_
                              exact J193 false (by rw [g32, g33]; rfl) H _ ls hP hD hS (lv_sub hl [1, 3, 4, 5] rfl)
                            · have g33 := bI_n0 g33
                              refine lv_iconst (v := 1) hx hb d_M_by_188 (by decide) ?_
                              refine lv_goto hx hb d_M_by_189 (tgt := 193) rfl ?_
                              exact J193 true (by rw [g32, g33]; rfl) H _ ls hP hD hS (lv_sub hl [1, 3, 4, 5] rfl)
                        refine lv_iconst (v := 0) hx hb d_M_by_109 (by decide) ?_
                        refine lv_istore hx hb d_M_by_110 hl (by decide) rfl (fun ls hl => ?_)
                        have hl : lv_has ls 7 [(6, .int 0), (5, .int (bI sm)), (4, .int (nI k)), (3, .int (bI tw)), (2, .int (bI b)), (1, .int (nI x.pile)), (0, .ref h)] := hl
                        have L112 : ∀ (k9 : Nat) (j : Nat) (sm : Bool) (m1 : j ≤ yy.too - yy.frm) (m2 : (decide (yy.nameLengths ((6 * x.pile) + k) = yy.too - yy.frm) && allB j (txEq yy.tape yy.tape (yy.nameFroms ((6 * x.pile) + k)) yy.frm)) = sm) (hk9 : yy.too - yy.frm - j = k9), ∀ (H : Heap) (locs : List Loc) (ls : Array Slot) (hP : va_P D vwCl (MW dA h ad yy) H) (hD : va_D A (MW dA h ad yy)) (hS : va_S A s.heap H locs) (hl : lv_has ls 7 [(6, .int (nI j)), (5, .int (bI sm)), (4, .int (nI k)), (3, .int (bI tw)), (2, .int (bI b)), (1, .int (nI x.pile)), (0, .ref h)]), W p l e ({ frames := 5, cells := 0, slots := 0, locals := 88 } : Room) s m ([.ref h] : List Value).toArray below meth c H locs 0 0 (MQ below (va_Qi (fun (r9 : Int32) (u9 : MS) => r9 = bI (x.byF).1 ∧ u9 = (x.byF).2) (fun (u9 : MS) t9 => bW D A (MW dA h ad u9) t9) A) ([.ref h] : List Value).toArray s 0 0 A) (F0 m 112 ls []) := by
                          intro k9
                          induction k9 using Nat.strongRecOn with
                          | ind k9 ih112 =>
                            intro j sm m1 m2 hk9 H locs ls hP hD hS hl
                            refine lv_iload hx hb d_M_by_112 (lv_at hl 0 rfl) ?_
                            refine lv_aload_n hx hb d_M_by_114 rfl (lv_at hl 6 rfl) ?_
                            refine gF (v := .int (nI yy.too)) hx hb hown hE hK hP 0 rfl rfl layM 46 (by decide) w463 rfl d_M_by_115 ?_
                            refine lv_aload_n hx hb d_M_by_118 rfl (lv_at hl 6 rfl) ?_
                            refine gF (v := .int (nI yy.frm)) hx hb hown hE hK hP 0 rfl rfl layM 45 (by decide) w464 rfl d_M_by_119 ?_
                            refine lv_isub hx hb d_M_by_122 (tpi (y := nI (yy.too - yy.frm)) (pk_sub (a := yy.too) (b := yy.frm) (by omega)) ?_)
                            refine lv_icmp_ge hx hb d_M_by_123 (tgt := 179) rfl (fun g34 => ?_) (fun g34 => ?_)
                            · have g34 := (nI_leI (a := yy.too - yy.frm) (b := j) (by omega) (by omega)).mp g34
                              exact J179 sm (and_end m1 m2 (Or.inl (by omega))) H _ ls hP hD hS (lv_sub hl [1, 2, 3, 4, 5, 6] rfl)
                            · have g34 := mt (nI_leI (a := yy.too - yy.frm) (b := j) (by omega) (by omega)).mpr g34
                              refine lv_iload hx hb d_M_by_126 (lv_at hl 1 rfl) ?_
                              refine lv_if_eq hx hb d_M_by_128 (tgt := 179) rfl (fun g35 => ?_) (fun g35 => ?_)
                              · have g35 := bI_0 g35
                                exact J179 sm (and_end m1 m2 (Or.inr g35)) H _ ls hP hD hS (lv_sub hl [1, 2, 3, 4, 5, 6] rfl)
                              · have g35 := bI_n0 g35
                                have l5 : yy.nameLengths (6 * x.pile + k) = yy.too - yy.frm := of_decide_eq_true (and_l m2 g35)
                                refine lv_aload_n hx hb d_M_by_131 rfl (lv_at hl 6 rfl) ?_
                                refine gF (v := .ref (ad 1)) hx hb hown hE hK hP 0 rfl rfl layM 1 (by decide) w497 rfl d_M_by_132 ?_
                                refine lv_aload_n hx hb d_M_by_135 rfl (lv_at hl 6 rfl) ?_
                                refine gF (v := .ref (ad 49)) hx hb hown hE hK hP 0 rfl rfl layM 49 (by decide) w519 rfl d_M_by_136 ?_
                                refine lv_bipush (v := 6) hx hb d_M_by_139 (by decide) ?_
                                refine lv_iload_n hx hb d_M_by_141 rfl (lv_at hl 5 rfl) ?_
                                refine lv_imul hx hb d_M_by_142 (tpi (y := nI (6 * x.pile)) (pk_mul (6) (x.pile)) ?_)
                                refine lv_iload hx hb d_M_by_143 (lv_at hl 2 rfl) ?_
                                refine lv_iadd hx hb d_M_by_145 (tpi (y := nI ((6 * x.pile) + k)) (nI_add (6 * x.pile) (k)) ?_)
                                refine nild (f := (fun z9 => nI (yy.nameFroms z9))) hx hb hK hP 22 1 rfl rfl ((6 * x.pile) + k) (by omega) (by decide) d_M_by_146 ?_
                                refine lv_iload hx hb d_M_by_147 (lv_at hl 0 rfl) ?_
                                refine lv_iadd hx hb d_M_by_149 (tpi (y := nI ((yy.nameFroms ((6 * x.pile) + k)) + j)) (nI_add (yy.nameFroms ((6 * x.pile) + k)) (j)) ?_)
                                refine nbld (f := yy.tape) hx hb hK hP 1 0 rfl rfl ((yy.nameFroms ((6 * x.pile) + k)) + j) (by omega) (by decide) d_M_by_150 ?_
                                refine lv_aload_n hx hb d_M_by_151 rfl (lv_at hl 6 rfl) ?_
                                refine gF (v := .ref (ad 1)) hx hb hown hE hK hP 0 rfl rfl layM 1 (by decide) w497 rfl d_M_by_152 ?_
                                refine lv_aload_n hx hb d_M_by_155 rfl (lv_at hl 6 rfl) ?_
                                refine gF (v := .int (nI yy.frm)) hx hb hown hE hK hP 0 rfl rfl layM 45 (by decide) w464 rfl d_M_by_156 ?_
                                refine lv_iload hx hb d_M_by_159 (lv_at hl 0 rfl) ?_
                                refine lv_iadd hx hb d_M_by_161 (tpi (y := nI (yy.frm + j)) (nI_add (yy.frm) (j)) ?_)
                                refine nbld (f := yy.tape) hx hb hK hP 1 0 rfl rfl (yy.frm + j) (by omega) (by decide) d_M_by_162 ?_
                                refine lv_icmp_ne hx hb d_M_by_163 (tgt := 170) rfl (fun g36 => ?_) (fun g36 => ?_)
                                · have g36 := g36
                                  refine lv_iconst (v := 0) hx hb d_M_by_170 (by decide) ?_
                                  refine lv_istore hx hb d_M_by_171 hl (by decide) rfl (fun ls hl => ?_)
                                  have hl : lv_has ls 7 [(5, .int 0), (6, .int (nI j)), (4, .int (nI k)), (3, .int (bI tw)), (2, .int (bI b)), (1, .int (nI x.pile)), (0, .ref h)] := hl
                                  refine lv_iinc (k := 1) (v := nI (j + 1)) hx hb d_M_by_173 hl rfl (iincN (j) 1 1 (by decide)) (by decide) rfl (fun ls hl => ?_)
                                  have hl : lv_has ls 7 [(6, .int (nI (j + 1))), (5, .int 0), (4, .int (nI k)), (3, .int (bI tw)), (2, .int (bI b)), (1, .int (nI x.pile)), (0, .ref h)] := hl
                                  refine lv_goto hx hb d_M_by_176 (tgt := 112) rfl ?_
                                  exact ih112 _ (by omega) (j + 1) false (by omega) (by rw [allB_s, ← Bool.and_assoc, m2, g35]; exact decide_eq_false g36) rfl H _ ls hP hD hS (lv_sub hl [0, 1, 2, 3, 4, 5, 6] rfl)
                                · have g36 := g36
                                  refine lv_iconst (v := 1) hx hb d_M_by_166 (by decide) ?_
                                  refine lv_goto hx hb d_M_by_167 (tgt := 171) rfl ?_
                                  refine lv_istore hx hb d_M_by_171 hl (by decide) rfl (fun ls hl => ?_)
                                  have hl : lv_has ls 7 [(5, .int 1), (6, .int (nI j)), (4, .int (nI k)), (3, .int (bI tw)), (2, .int (bI b)), (1, .int (nI x.pile)), (0, .ref h)] := hl
                                  refine lv_iinc (k := 1) (v := nI (j + 1)) hx hb d_M_by_173 hl rfl (iincN (j) 1 1 (by decide)) (by decide) rfl (fun ls hl => ?_)
                                  have hl : lv_has ls 7 [(6, .int (nI (j + 1))), (5, .int 1), (4, .int (nI k)), (3, .int (bI tw)), (2, .int (bI b)), (1, .int (nI x.pile)), (0, .ref h)] := hl
                                  refine lv_goto hx hb d_M_by_176 (tgt := 112) rfl ?_
                                  exact ih112 _ (by omega) (j + 1) true (by omega) (by rw [allB_s, ← Bool.and_assoc, m2, g35]; exact decide_eq_true g36) rfl H _ ls hP hD hS (lv_sub hl [0, 1, 2, 3, 4, 5, 6] rfl)
                        exact L112 _ 0 sm (Nat.zero_le _) (by rw [s0]; exact Bool.and_true _) rfl H _ ls hP hD hS (lv_sub hl [0, 1, 2, 3, 4, 5, 6] rfl)
                      have nk : yy.nameFroms (6 * x.pile + k) + yy.nameLengths (6 * x.pile + k) ≤ yy.length := i3 k (by omega)
                      refine lv_aload_n hx hb d_M_by_78 rfl (lv_at hl 4 rfl) ?_
                      refine gF (v := .ref (ad 50)) hx hb hown hE hK hP 0 rfl rfl layM 50 (by decide) w520 rfl d_M_by_79 ?_
                      refine lv_bipush (v := 6) hx hb d_M_by_82 (by decide) ?_
                      refine lv_iload_n hx hb d_M_by_84 rfl (lv_at hl 3 rfl) ?_
                      refine lv_imul hx hb d_M_by_85 (tpi (y := nI (6 * x.pile)) (pk_mul (6) (x.pile)) ?_)
                      refine lv_iload hx hb d_M_by_86 (lv_at hl 0 rfl) ?_
                      refine lv_iadd hx hb d_M_by_88 (tpi (y := nI ((6 * x.pile) + k)) (nI_add (6 * x.pile) (k)) ?_)
                      refine nild (f := (fun z9 => nI (yy.nameLengths z9))) hx hb hK hP 23 1 rfl rfl ((6 * x.pile) + k) (by omega) (by decide) d_M_by_89 ?_
                      refine lv_aload_n hx hb d_M_by_90 rfl (lv_at hl 4 rfl) ?_
                      refine gF (v := .int (nI yy.too)) hx hb hown hE hK hP 0 rfl rfl layM 46 (by decide) w463 rfl d_M_by_91 ?_
                      refine lv_aload_n hx hb d_M_by_94 rfl (lv_at hl 4 rfl) ?_
                      refine gF (v := .int (nI yy.frm)) hx hb hown hE hK hP 0 rfl rfl layM 45 (by decide) w464 rfl d_M_by_95 ?_
                      refine lv_isub hx hb d_M_by_98 (tpi (y := nI (yy.too - yy.frm)) (pk_sub (a := yy.too) (b := yy.frm) (by omega)) ?_)
                      refine lv_icmp_ne hx hb d_M_by_99 (tgt := 106) rfl (fun g37 => ?_) (fun g37 => ?_)
                      · have g37 := mt (nI_eq (a := yy.nameLengths ((6 * x.pile) + k)) (b := yy.too - yy.frm) (by omega) (by omega)).mpr g37
                        refine lv_iconst (v := 0) hx hb d_M_by_106 (by decide) ?_
                        exact J107 false (decide_eq_false g37) H _ ls hP hD hS (lv_sub hl [0, 1, 2, 3, 4] rfl)
                      · have g37 := (nI_eq (a := yy.nameLengths ((6 * x.pile) + k)) (b := yy.too - yy.frm) (by omega) (by omega)).mp g37
                        refine lv_iconst (v := 1) hx hb d_M_by_102 (by decide) ?_
                        refine lv_goto hx hb d_M_by_103 (tgt := 107) rfl ?_
                        exact J107 true (decide_eq_true g37) H _ ls hP hD hS (lv_sub hl [0, 1, 2, 3, 4] rfl)
                exact L67 _ 0 tw (Nat.zero_le _) (by rw [t0]; exact Bool.or_false _) rfl H _ ls hP hD hS (lv_sub hl [0, 1, 2, 3, 4] rfl)
              refine lv_aload_n hx hb d_M_by_47 rfl (lv_at hl 2 rfl) ?_
              refine gF (v := .ref (ad 48)) hx hb hown hE hK hP 0 rfl rfl layM 48 (by decide) w518 rfl d_M_by_48 ?_
              refine lv_iload_n hx hb d_M_by_51 rfl (lv_at hl 1 rfl) ?_
              refine nild (f := (fun z9 => nI (yy.tableNames z9))) hx hb hK hP 21 1 rfl rfl (x.pile) (by omega) (by decide) d_M_by_52 ?_
              refine lv_bipush (v := 6) hx hb d_M_by_53 (by decide) ?_
              refine lv_icmp_ne hx hb d_M_by_55 (tgt := 62) rfl (fun g38 => ?_) (fun g38 => ?_)
              · have g38 := mt (nI_eq (a := yy.tableNames x.pile) (b := 6) (by omega) (by omega)).mpr g38
                refine lv_iconst (v := 0) hx hb d_M_by_62 (by decide) ?_
                exact J63 false (decide_eq_false g38) H _ ls hP hD hS (lv_sub hl [0, 1, 2] rfl)
              · have g38 := (nI_eq (a := yy.tableNames x.pile) (b := 6) (by omega) (by omega)).mp g38
                refine lv_iconst (v := 1) hx hb d_M_by_58 (by decide) ?_
                refine lv_goto hx hb d_M_by_59 (tgt := 63) rfl ?_
                exact J63 true (decide_eq_true g38) H _ ls hP hD hS (lv_sub hl [0, 1, 2] rfl)
            · have g16 := g16
              refine lv_aload_n hx hb d_M_by_37 rfl (lv_at hl 2 rfl) ?_
              refine lv_iconst (v := 2) hx hb d_M_by_38 (by decide) ?_
              refine lv_aload_n hx hb d_M_by_39 rfl (lv_at hl 2 rfl) ?_
              refine gF (v := .int (nI yy.frm)) hx hb hown hE hK hP 0 rfl rfl layM 45 (by decide) w464 rfl d_M_by_40 ?_
              refine jfI (rnV (As := [.int 2, .int (nI yy.frm)]) (rest := []) hx hb hml hown hE hK (hN _ _ hS) hP hD (k_flaw_0 l D dA H.size h ad yy 2 (nI yy.frm) i2.2.2.2) (q0 := 0) rfl rfl w431 w430 w432 w433 w328 rfl rfl ⟨⟨by decide, by decide⟩, rfl⟩ ⟨(Nat.le_of_ble_eq_true rfl), (Nat.le_of_ble_eq_true rfl)⟩ rfl hl.1 rfl (Nat.le_of_ble_eq_true rfl) d_M_by_43 ⟨(Nat.le_of_ble_eq_true rfl), (Nat.le_of_ble_eq_true rfl)⟩) hP hD hS hA (fun r39 u40 H locs hp9 hP hD hS => ?_)
              have hP : va_P D vwCl (MW dA h ad (MS.s_faultPlace (MS.s_faultCode yy 2) (nI yy.frm))) H := hP
              have hD : va_D A (MW dA h ad (MS.s_faultPlace (MS.s_faultCode yy 2) (nI yy.frm))) := hD
              replace hp9 : bI false = r39 := Eq.symm hp9
              subst hp9
              exact rfZ hx hb hr (bI_nar false) hlk hS (MS.s_faultPlace (MS.s_faultCode yy 2) (nI yy.frm)) (by rw [i1b, by_k (by omega) g16]; exact ⟨rfl, rfl⟩) hP hD (Nat.le_of_ble_eq_true rfl) (Nat.le_of_ble_eq_true rfl) d_M_by_46
      exact L25 _ y8 true 7 ((byF_2 g5 f_e_4 g10 f_e_9).trans (if_pos rfl).symm) (by rw [f_e_9]; exact (nd_in l1 g10).1) n1 (by rw [n0]; decide) (fun _ => by rw [n0]) rfl H _ ls hP hD hS (lv_sub hl [0, 1, 2] rfl)
    · have g10 := bI_0 g10
      refine lv_iconst (v := 0) hx hb d_M_by_21 (by decide) ?_
      exact rfZ hx hb hr (bI_nar false) hlk hS y8 (by rw [byF_1 g5 f_e_4 g10]; exact ⟨rfl, f_e_9⟩) hP hD (Nat.le_of_ble_eq_true rfl) (Nat.le_of_ble_eq_true rfl) d_M_by_22
