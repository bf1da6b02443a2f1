def anyB (n : Nat) (f : Nat → Bool) : Bool := match n with
  | 0 => false
  | k + 1 => anyB k f || f k
theorem anyB_s (k : Nat) (f : Nat → Bool) : anyB (k + 1) f = (anyB k f || f k) := rfl
/-- reading labels from place q on, c of them read: a flaw (its number, its place), or the labels -/
def rdM (f : Nat → Int32) (len : Nat) : Nat → Nat → Nat → (Nat → Nat) → (Int32 × Nat) ⊕ (Nat × (Nat → Nat))
  | 0, q, _, _ => .inl (8, q)
  | w + 1, q, c, g =>
    if wlen f len 25 q = 0 then .inl (7, q) else if 24 < wlen f len 25 q then .inl (7, q + 24) else
    if len ≤ q + wlen f len 25 q then .inl (7, q + wlen f len 25 q) else if ¬ f (q + wlen f len 25 q) = 61 then .inl (7, q + wlen f len 25 q) else
    if (decide (c = 6) || anyB c (fun k => decide (cmpT f (g (4 * k)) (g (4 * k + 1)) q (wlen f len 25 q) = 0))) = true then .inl (8, q) else
    if wlen f len 25 (q + wlen f len 25 q + 1) = 0 then .inl (7, q + wlen f len 25 q + 1) else if 24 < wlen f len 25 (q + wlen f len 25 q + 1) then .inl (7, q + wlen f len 25 q + 1 + 24) else
    if q + wlen f len 25 q + 1 + wlen f len 25 (q + wlen f len 25 q + 1) = len then .inr (c + 1, va_up (va_up (va_up (va_up g (4 * c) q) (4 * c + 1) (wlen f len 25 q)) (4 * c + 2) (q + wlen f len 25 q + 1)) (4 * c + 3) (wlen f len 25 (q + wlen f len 25 q + 1))) else
    if ¬ f (q + wlen f len 25 q + 1 + wlen f len 25 (q + wlen f len 25 q + 1)) = 44 then .inl (7, q + wlen f len 25 q + 1 + wlen f len 25 (q + wlen f len 25 q + 1)) else
    rdM f len w (q + wlen f len 25 q + 1 + wlen f len 25 (q + wlen f len 25 q + 1) + 1) (c + 1) (va_up (va_up (va_up (va_up g (4 * c) q) (4 * c + 1) (wlen f len 25 q)) (4 * c + 2) (q + wlen f len 25 q + 1)) (4 * c + 3) (wlen f len 25 (q + wlen f len 25 q + 1)))
/-- one label, told with its lengths named -/
theorem rdM_s {f : Nat → Int32} {len w q c n v : Nat} {g : Nat → Nat} (hn : wlen f len 25 q = n) (hv : wlen f len 25 (q + n + 1) = v) : rdM f len (w + 1) q c g =
    (if n = 0 then .inl (7, q) else if 24 < n then .inl (7, q + 24) else if len ≤ q + n then .inl (7, q + n) else if ¬ f (q + n) = 61 then .inl (7, q + n) else
    if (decide (c = 6) || anyB c (fun k => decide (cmpT f (g (4 * k)) (g (4 * k + 1)) q n = 0))) = true then .inl (8, q) else
    if v = 0 then .inl (7, q + n + 1) else if 24 < v then .inl (7, q + n + 1 + 24) else
    if q + n + 1 + v = len then .inr (c + 1, va_up (va_up (va_up (va_up g (4 * c) q) (4 * c + 1) n) (4 * c + 2) (q + n + 1)) (4 * c + 3) v) else
    if ¬ f (q + n + 1 + v) = 44 then .inl (7, q + n + 1 + v) else
    rdM f len w (q + n + 1 + v + 1) (c + 1) (va_up (va_up (va_up (va_up g (4 * c) q) (4 * c + 1) n) (4 * c + 2) (q + n + 1)) (4 * c + 3) v)) := by
  subst hn
  subst hv
  rfl
theorem wlen_in {f : Nat → Int32} {len : Nat} : ∀ {w q : Nat}, q ≤ len → q + wlen f len w q ≤ len
  | 0, q, h => h
  | w + 1, q, h => by
    unfold wlen
    split
    · exact h
    · split
      · have := wlen_in (f := f) (len := len) (w := w) (q := q + 1) (by omega); omega
      · exact h
theorem lab_up {g : Nat → Nat} {c q n a b L : Nat} (h : ∀ k, k < c → g (4 * k) + g (4 * k + 1) ≤ L) (hq : q + n ≤ L) : ∀ k, k < c + 1 → (va_up (va_up (va_up (va_up g (4 * c) q) (4 * c + 1) n) (4 * c + 2) a) (4 * c + 3) b) (4 * k) + (va_up (va_up (va_up (va_up g (4 * c) q) (4 * c + 1) n) (4 * c + 2) a) (4 * c + 3) b) (4 * k + 1) ≤ L := by
  intro k hk
  unfold va_up
  by_cases e : k = c
  · subst e
    simp
    exact hq
  · have h1 : ¬ 4 * k = 4 * c + 3 := by omega
    have h2 : ¬ 4 * k = 4 * c + 2 := by omega
    have h3 : ¬ 4 * k = 4 * c + 1 := by omega
    have h4 : ¬ 4 * k = 4 * c := by omega
    have h5 : ¬ 4 * k + 1 = 4 * c + 3 := by omega
    have h6 : ¬ 4 * k + 1 = 4 * c + 2 := by omega
    have h7 : ¬ 4 * k + 1 = 4 * c + 1 := by omega
    have h8 : ¬ 4 * k + 1 = 4 * c := by omega
    simp only [if_neg h1, if_neg h2, if_neg h3, if_neg h4, if_neg h5, if_neg h6, if_neg h7, if_neg h8]
    exact h k (by omega)
def twB (f : Nat → Int32) (g : Nat → Nat) (q n z : Nat) : Bool := decide (cmpT f (g (4 * z)) (g (4 * z + 1)) q n = 0)
theorem d_M_readLabels_33 : decode prog_14_method_24_code 33 = .ok (.bipush 24, 2) := by decide +kernel
theorem d_M_readLabels_35 : decode prog_14_method_24_code 35 = .ok (.goto 4, 3) := by decide +kernel
theorem d_M_readLabels_17 : decode prog_14_method_24_code 17 = .ok (.iload_n 2, 1) := by decide +kernel
theorem d_M_readLabels_18 : decode prog_14_method_24_code 18 = .ok (.bipush 24, 2) := by decide +kernel
theorem d_M_readLabels_20 : decode prog_14_method_24_code 20 = .ok (.if_icmp .le 24, 3) := by decide +kernel
theorem d_M_readLabels_44 : decode prog_14_method_24_code 44 = .ok (.iload_n 1, 1) := by decide +kernel
theorem d_M_readLabels_45 : decode prog_14_method_24_code 45 = .ok (.iload_n 2, 1) := by decide +kernel
theorem d_M_readLabels_46 : decode prog_14_method_24_code 46 = .ok (.iadd, 1) := by decide +kernel
theorem d_M_readLabels_47 : decode prog_14_method_24_code 47 = .ok (.aload_n 0, 1) := by decide +kernel
theorem d_M_readLabels_48 : decode prog_14_method_24_code 48 = .ok (.getfield 148, 3) := by decide +kernel
theorem d_M_readLabels_51 : decode prog_14_method_24_code 51 = .ok (.if_icmp .ge 16, 3) := by decide +kernel
theorem d_M_readLabels_67 : decode prog_14_method_24_code 67 = .ok (.aload_n 0, 1) := by decide +kernel
theorem d_M_readLabels_68 : decode prog_14_method_24_code 68 = .ok (.bipush 7, 2) := by decide +kernel
theorem d_M_readLabels_70 : decode prog_14_method_24_code 70 = .ok (.iload_n 1, 1) := by decide +kernel
theorem d_M_readLabels_71 : decode prog_14_method_24_code 71 = .ok (.iload_n 2, 1) := by decide +kernel
theorem d_M_readLabels_72 : decode prog_14_method_24_code 72 = .ok (.iadd, 1) := by decide +kernel
theorem d_M_readLabels_73 : decode prog_14_method_24_code 73 = .ok (.invokevirtual 224, 3) := by decide +kernel
theorem d_M_readLabels_76 : decode prog_14_method_24_code 76 = .ok (.ireturn, 1) := by decide +kernel
theorem d_M_readLabels_54 : decode prog_14_method_24_code 54 = .ok (.aload_n 0, 1) := by decide +kernel
theorem d_M_readLabels_55 : decode prog_14_method_24_code 55 = .ok (.getfield 8, 3) := by decide +kernel
theorem d_M_readLabels_58 : decode prog_14_method_24_code 58 = .ok (.iload_n 1, 1) := by decide +kernel
theorem d_M_readLabels_59 : decode prog_14_method_24_code 59 = .ok (.iload_n 2, 1) := by decide +kernel
theorem d_M_readLabels_60 : decode prog_14_method_24_code 60 = .ok (.iadd, 1) := by decide +kernel
theorem d_M_readLabels_61 : decode prog_14_method_24_code 61 = .ok (.baload, 1) := by decide +kernel
theorem d_M_readLabels_62 : decode prog_14_method_24_code 62 = .ok (.bipush 61, 2) := by decide +kernel
theorem d_M_readLabels_64 : decode prog_14_method_24_code 64 = .ok (.if_icmp .eq 13, 3) := by decide +kernel
theorem d_M_readLabels_91 : decode prog_14_method_24_code 91 = .ok (.istore_n 3, 1) := by decide +kernel
theorem d_M_readLabels_149 : decode prog_14_method_24_code 149 = .ok (.iload_n 3, 1) := by decide +kernel
theorem d_M_readLabels_150 : decode prog_14_method_24_code 150 = .ok (.ifCond .eq 11, 3) := by decide +kernel
theorem d_M_readLabels_161 : decode prog_14_method_24_code 161 = .ok (.iload_n 1, 1) := by decide +kernel
theorem d_M_readLabels_162 : decode prog_14_method_24_code 162 = .ok (.iload_n 2, 1) := by decide +kernel
theorem d_M_readLabels_163 : decode prog_14_method_24_code 163 = .ok (.iadd, 1) := by decide +kernel
theorem d_M_readLabels_164 : decode prog_14_method_24_code 164 = .ok (.iconst 1, 1) := by decide +kernel
theorem d_M_readLabels_165 : decode prog_14_method_24_code 165 = .ok (.iadd, 1) := by decide +kernel
theorem d_M_readLabels_166 : decode prog_14_method_24_code 166 = .ok (.istore 4, 2) := by decide +kernel
theorem d_M_readLabels_168 : decode prog_14_method_24_code 168 = .ok (.aload_n 0, 1) := by decide +kernel
theorem d_M_readLabels_169 : decode prog_14_method_24_code 169 = .ok (.iload 4, 2) := by decide +kernel
theorem d_M_readLabels_171 : decode prog_14_method_24_code 171 = .ok (.invokevirtual 220, 3) := by decide +kernel
theorem d_M_readLabels_174 : decode prog_14_method_24_code 174 = .ok (.istore 5, 2) := by decide +kernel
theorem d_M_readLabels_176 : decode prog_14_method_24_code 176 = .ok (.iload 5, 2) := by decide +kernel
theorem d_M_readLabels_178 : decode prog_14_method_24_code 178 = .ok (.ifCond .eq 10, 3) := by decide +kernel
theorem d_M_readLabels_188 : decode prog_14_method_24_code 188 = .ok (.aload_n 0, 1) := by decide +kernel
theorem d_M_readLabels_189 : decode prog_14_method_24_code 189 = .ok (.bipush 7, 2) := by decide +kernel
theorem d_M_readLabels_191 : decode prog_14_method_24_code 191 = .ok (.iload 4, 2) := by decide +kernel
theorem d_M_readLabels_193 : decode prog_14_method_24_code 193 = .ok (.iload 5, 2) := by decide +kernel
theorem d_M_readLabels_195 : decode prog_14_method_24_code 195 = .ok (.bipush 24, 2) := by decide +kernel
theorem d_M_readLabels_197 : decode prog_14_method_24_code 197 = .ok (.if_icmp .le 8, 3) := by decide +kernel
theorem d_M_readLabels_205 : decode prog_14_method_24_code 205 = .ok (.iconst 0, 1) := by decide +kernel
theorem d_M_readLabels_206 : decode prog_14_method_24_code 206 = .ok (.iadd, 1) := by decide +kernel
theorem d_M_readLabels_207 : decode prog_14_method_24_code 207 = .ok (.invokevirtual 224, 3) := by decide +kernel
theorem d_M_readLabels_210 : decode prog_14_method_24_code 210 = .ok (.ireturn, 1) := by decide +kernel
theorem d_M_readLabels_200 : decode prog_14_method_24_code 200 = .ok (.bipush 24, 2) := by decide +kernel
theorem d_M_readLabels_202 : decode prog_14_method_24_code 202 = .ok (.goto 4, 3) := by decide +kernel
theorem d_M_readLabels_181 : decode prog_14_method_24_code 181 = .ok (.iload 5, 2) := by decide +kernel
theorem d_M_readLabels_183 : decode prog_14_method_24_code 183 = .ok (.bipush 24, 2) := by decide +kernel
theorem d_M_readLabels_185 : decode prog_14_method_24_code 185 = .ok (.if_icmp .le 26, 3) := by decide +kernel
theorem d_M_readLabels_211 : decode prog_14_method_24_code 211 = .ok (.aload_n 0, 1) := by decide +kernel
theorem d_M_readLabels_212 : decode prog_14_method_24_code 212 = .ok (.getfield 85, 3) := by decide +kernel
theorem d_M_readLabels_215 : decode prog_14_method_24_code 215 = .ok (.iconst 4, 1) := by decide +kernel
theorem d_M_readLabels_216 : decode prog_14_method_24_code 216 = .ok (.aload_n 0, 1) := by decide +kernel
theorem d_M_readLabels_217 : decode prog_14_method_24_code 217 = .ok (.getfield 217, 3) := by decide +kernel
theorem d_M_readLabels_220 : decode prog_14_method_24_code 220 = .ok (.imul, 1) := by decide +kernel
theorem d_M_readLabels_221 : decode prog_14_method_24_code 221 = .ok (.iload_n 1, 1) := by decide +kernel
theorem d_M_readLabels_222 : decode prog_14_method_24_code 222 = .ok (.iastore, 1) := by decide +kernel
theorem d_M_readLabels_223 : decode prog_14_method_24_code 223 = .ok (.aload_n 0, 1) := by decide +kernel
theorem d_M_readLabels_224 : decode prog_14_method_24_code 224 = .ok (.getfield 85, 3) := by decide +kernel
theorem d_M_readLabels_227 : decode prog_14_method_24_code 227 = .ok (.iconst 4, 1) := by decide +kernel
theorem d_M_readLabels_228 : decode prog_14_method_24_code 228 = .ok (.aload_n 0, 1) := by decide +kernel
theorem d_M_readLabels_229 : decode prog_14_method_24_code 229 = .ok (.getfield 217, 3) := by decide +kernel
theorem d_M_readLabels_232 : decode prog_14_method_24_code 232 = .ok (.imul, 1) := by decide +kernel
theorem d_M_readLabels_233 : decode prog_14_method_24_code 233 = .ok (.iconst 1, 1) := by decide +kernel
theorem d_M_readLabels_234 : decode prog_14_method_24_code 234 = .ok (.iadd, 1) := by decide +kernel
theorem d_M_readLabels_235 : decode prog_14_method_24_code 235 = .ok (.iload_n 2, 1) := by decide +kernel
theorem d_M_readLabels_236 : decode prog_14_method_24_code 236 = .ok (.iastore, 1) := by decide +kernel
theorem d_M_readLabels_237 : decode prog_14_method_24_code 237 = .ok (.aload_n 0, 1) := by decide +kernel
theorem d_M_readLabels_238 : decode prog_14_method_24_code 238 = .ok (.getfield 85, 3) := by decide +kernel
theorem d_M_readLabels_241 : decode prog_14_method_24_code 241 = .ok (.iconst 4, 1) := by decide +kernel
theorem d_M_readLabels_242 : decode prog_14_method_24_code 242 = .ok (.aload_n 0, 1) := by decide +kernel
theorem d_M_readLabels_243 : decode prog_14_method_24_code 243 = .ok (.getfield 217, 3) := by decide +kernel
theorem d_M_readLabels_246 : decode prog_14_method_24_code 246 = .ok (.imul, 1) := by decide +kernel
theorem d_M_readLabels_247 : decode prog_14_method_24_code 247 = .ok (.iconst 2, 1) := by decide +kernel
theorem d_M_readLabels_248 : decode prog_14_method_24_code 248 = .ok (.iadd, 1) := by decide +kernel
theorem d_M_readLabels_249 : decode prog_14_method_24_code 249 = .ok (.iload 4, 2) := by decide +kernel
theorem d_M_readLabels_251 : decode prog_14_method_24_code 251 = .ok (.iastore, 1) := by decide +kernel
theorem d_M_readLabels_252 : decode prog_14_method_24_code 252 = .ok (.aload_n 0, 1) := by decide +kernel
theorem d_M_readLabels_253 : decode prog_14_method_24_code 253 = .ok (.getfield 85, 3) := by decide +kernel
theorem d_M_readLabels_256 : decode prog_14_method_24_code 256 = .ok (.iconst 4, 1) := by decide +kernel
theorem d_M_readLabels_257 : decode prog_14_method_24_code 257 = .ok (.aload_n 0, 1) := by decide +kernel
theorem d_M_readLabels_258 : decode prog_14_method_24_code 258 = .ok (.getfield 217, 3) := by decide +kernel
theorem d_M_readLabels_261 : decode prog_14_method_24_code 261 = .ok (.imul, 1) := by decide +kernel
theorem d_M_readLabels_262 : decode prog_14_method_24_code 262 = .ok (.iconst 3, 1) := by decide +kernel
theorem d_M_readLabels_263 : decode prog_14_method_24_code 263 = .ok (.iadd, 1) := by decide +kernel
theorem d_M_readLabels_264 : decode prog_14_method_24_code 264 = .ok (.iload 5, 2) := by decide +kernel
theorem d_M_readLabels_266 : decode prog_14_method_24_code 266 = .ok (.iastore, 1) := by decide +kernel
theorem d_M_readLabels_267 : decode prog_14_method_24_code 267 = .ok (.aload_n 0, 1) := by decide +kernel
theorem d_M_readLabels_268 : decode prog_14_method_24_code 268 = .ok (.dup, 1) := by decide +kernel
theorem d_M_readLabels_269 : decode prog_14_method_24_code 269 = .ok (.getfield 217, 3) := by decide +kernel
theorem d_M_readLabels_272 : decode prog_14_method_24_code 272 = .ok (.iconst 1, 1) := by decide +kernel
theorem d_M_readLabels_273 : decode prog_14_method_24_code 273 = .ok (.iadd, 1) := by decide +kernel
theorem d_M_readLabels_274 : decode prog_14_method_24_code 274 = .ok (.putfield 217, 3) := by decide +kernel
theorem d_M_readLabels_277 : decode prog_14_method_24_code 277 = .ok (.iload 4, 2) := by decide +kernel
theorem d_M_readLabels_279 : decode prog_14_method_24_code 279 = .ok (.iload 5, 2) := by decide +kernel
theorem d_M_readLabels_281 : decode prog_14_method_24_code 281 = .ok (.iadd, 1) := by decide +kernel
theorem d_M_readLabels_282 : decode prog_14_method_24_code 282 = .ok (.istore_n 1, 1) := by decide +kernel
theorem d_M_readLabels_283 : decode prog_14_method_24_code 283 = .ok (.iload_n 1, 1) := by decide +kernel
theorem d_M_readLabels_284 : decode prog_14_method_24_code 284 = .ok (.aload_n 0, 1) := by decide +kernel
theorem d_M_readLabels_285 : decode prog_14_method_24_code 285 = .ok (.getfield 148, 3) := by decide +kernel
theorem d_M_readLabels_288 : decode prog_14_method_24_code 288 = .ok (.if_icmp .ne 5, 3) := by decide +kernel
theorem d_M_readLabels_293 : decode prog_14_method_24_code 293 = .ok (.aload_n 0, 1) := by decide +kernel
theorem d_M_readLabels_294 : decode prog_14_method_24_code 294 = .ok (.getfield 8, 3) := by decide +kernel
theorem d_M_readLabels_297 : decode prog_14_method_24_code 297 = .ok (.iload_n 1, 1) := by decide +kernel
theorem d_M_readLabels_298 : decode prog_14_method_24_code 298 = .ok (.baload, 1) := by decide +kernel
theorem d_M_readLabels_299 : decode prog_14_method_24_code 299 = .ok (.bipush 44, 2) := by decide +kernel
theorem d_M_readLabels_301 : decode prog_14_method_24_code 301 = .ok (.if_icmp .eq 11, 3) := by decide +kernel
theorem d_M_readLabels_312 : decode prog_14_method_24_code 312 = .ok (.iinc 1 1, 3) := by decide +kernel
theorem d_M_readLabels_315 : decode prog_14_method_24_code 315 = .ok (.goto (-308), 3) := by decide +kernel
theorem d_M_readLabels_304 : decode prog_14_method_24_code 304 = .ok (.aload_n 0, 1) := by decide +kernel
theorem d_M_readLabels_305 : decode prog_14_method_24_code 305 = .ok (.bipush 7, 2) := by decide +kernel
theorem d_M_readLabels_307 : decode prog_14_method_24_code 307 = .ok (.iload_n 1, 1) := by decide +kernel
theorem d_M_readLabels_308 : decode prog_14_method_24_code 308 = .ok (.invokevirtual 224, 3) := by decide +kernel
theorem d_M_readLabels_311 : decode prog_14_method_24_code 311 = .ok (.ireturn, 1) := by decide +kernel
theorem d_M_readLabels_291 : decode prog_14_method_24_code 291 = .ok (.iconst 1, 1) := by decide +kernel
theorem d_M_readLabels_292 : decode prog_14_method_24_code 292 = .ok (.ireturn, 1) := by decide +kernel
theorem d_M_readLabels_153 : decode prog_14_method_24_code 153 = .ok (.aload_n 0, 1) := by decide +kernel
theorem d_M_readLabels_154 : decode prog_14_method_24_code 154 = .ok (.bipush 8, 2) := by decide +kernel
theorem d_M_readLabels_156 : decode prog_14_method_24_code 156 = .ok (.iload_n 1, 1) := by decide +kernel
theorem d_M_readLabels_157 : decode prog_14_method_24_code 157 = .ok (.invokevirtual 224, 3) := by decide +kernel
theorem d_M_readLabels_160 : decode prog_14_method_24_code 160 = .ok (.ireturn, 1) := by decide +kernel
theorem d_M_readLabels_92 : decode prog_14_method_24_code 92 = .ok (.iconst 0, 1) := by decide +kernel
theorem d_M_readLabels_93 : decode prog_14_method_24_code 93 = .ok (.istore 4, 2) := by decide +kernel
theorem d_M_readLabels_95 : decode prog_14_method_24_code 95 = .ok (.iload 4, 2) := by decide +kernel
theorem d_M_readLabels_97 : decode prog_14_method_24_code 97 = .ok (.aload_n 0, 1) := by decide +kernel
theorem d_M_readLabels_98 : decode prog_14_method_24_code 98 = .ok (.getfield 217, 3) := by decide +kernel
theorem d_M_readLabels_101 : decode prog_14_method_24_code 101 = .ok (.if_icmp .ge 48, 3) := by decide +kernel
theorem d_M_readLabels_104 : decode prog_14_method_24_code 104 = .ok (.iload_n 3, 1) := by decide +kernel
theorem d_M_readLabels_105 : decode prog_14_method_24_code 105 = .ok (.ifCond .ne 32, 3) := by decide +kernel
theorem d_M_readLabels_137 : decode prog_14_method_24_code 137 = .ok (.iconst 1, 1) := by decide +kernel
theorem d_M_readLabels_138 : decode prog_14_method_24_code 138 = .ok (.goto 4, 3) := by decide +kernel
theorem d_M_readLabels_142 : decode prog_14_method_24_code 142 = .ok (.istore_n 3, 1) := by decide +kernel
theorem d_M_readLabels_143 : decode prog_14_method_24_code 143 = .ok (.iinc 4 1, 3) := by decide +kernel
theorem d_M_readLabels_146 : decode prog_14_method_24_code 146 = .ok (.goto (-51), 3) := by decide +kernel
theorem d_M_readLabels_108 : decode prog_14_method_24_code 108 = .ok (.aload_n 0, 1) := by decide +kernel
theorem d_M_readLabels_109 : decode prog_14_method_24_code 109 = .ok (.aload_n 0, 1) := by decide +kernel
theorem d_M_readLabels_110 : decode prog_14_method_24_code 110 = .ok (.getfield 85, 3) := by decide +kernel
theorem d_M_readLabels_113 : decode prog_14_method_24_code 113 = .ok (.iconst 4, 1) := by decide +kernel
theorem d_M_readLabels_114 : decode prog_14_method_24_code 114 = .ok (.iload 4, 2) := by decide +kernel
theorem d_M_readLabels_116 : decode prog_14_method_24_code 116 = .ok (.imul, 1) := by decide +kernel
theorem d_M_readLabels_117 : decode prog_14_method_24_code 117 = .ok (.iaload, 1) := by decide +kernel
theorem d_M_readLabels_118 : decode prog_14_method_24_code 118 = .ok (.aload_n 0, 1) := by decide +kernel
theorem d_M_readLabels_119 : decode prog_14_method_24_code 119 = .ok (.getfield 85, 3) := by decide +kernel
theorem d_M_readLabels_122 : decode prog_14_method_24_code 122 = .ok (.iconst 4, 1) := by decide +kernel
theorem d_M_readLabels_123 : decode prog_14_method_24_code 123 = .ok (.iload 4, 2) := by decide +kernel
theorem d_M_readLabels_125 : decode prog_14_method_24_code 125 = .ok (.imul, 1) := by decide +kernel
theorem d_M_readLabels_126 : decode prog_14_method_24_code 126 = .ok (.iconst 1, 1) := by decide +kernel
theorem d_M_readLabels_127 : decode prog_14_method_24_code 127 = .ok (.iadd, 1) := by decide +kernel
theorem d_M_readLabels_128 : decode prog_14_method_24_code 128 = .ok (.iaload, 1) := by decide +kernel
theorem d_M_readLabels_129 : decode prog_14_method_24_code 129 = .ok (.iload_n 1, 1) := by decide +kernel
theorem d_M_readLabels_130 : decode prog_14_method_24_code 130 = .ok (.iload_n 2, 1) := by decide +kernel
theorem d_M_readLabels_131 : decode prog_14_method_24_code 131 = .ok (.invokevirtual 228, 3) := by decide +kernel
theorem d_M_readLabels_134 : decode prog_14_method_24_code 134 = .ok (.ifCond .ne 7, 3) := by decide +kernel
theorem d_M_readLabels_141 : decode prog_14_method_24_code 141 = .ok (.iconst 0, 1) := by decide +kernel
theorem d_M_readLabels_77 : decode prog_14_method_24_code 77 = .ok (.aload_n 0, 1) := by decide +kernel
theorem d_M_readLabels_78 : decode prog_14_method_24_code 78 = .ok (.getfield 217, 3) := by decide +kernel
theorem d_M_readLabels_81 : decode prog_14_method_24_code 81 = .ok (.bipush 6, 2) := by decide +kernel
theorem d_M_readLabels_83 : decode prog_14_method_24_code 83 = .ok (.if_icmp .ne 7, 3) := by decide +kernel
theorem d_M_readLabels_90 : decode prog_14_method_24_code 90 = .ok (.iconst 0, 1) := by decide +kernel
theorem d_M_readLabels_86 : decode prog_14_method_24_code 86 = .ok (.iconst 1, 1) := by decide +kernel
theorem d_M_readLabels_87 : decode prog_14_method_24_code 87 = .ok (.goto 4, 3) := by decide +kernel
theorem w938 : Cond.methodLink "SeriesVaultModel" 228 ⟨"SeriesVaultModel", "compare", "(IIII)I"⟩ ∈ aW := aw_of (tb_9 (List.mem_of_getElem? (i := 211) rfl)) rfl
theorem w939 : Cond.code ⟨"SeriesVaultModel", "compare", "(IIII)I"⟩ prog_14_method_23_code 6 (some FieldType.int) ∈ aW := aw_of (tb_9 (List.mem_of_getElem? (i := 214) rfl)) rfl
theorem w940 : Cond.instanceMethod ⟨"SeriesVaultModel", "compare", "(IIII)I"⟩ ∈ aW := aw_of (tb_9 (List.mem_of_getElem? (i := 213) rfl)) rfl
theorem w941 : Cond.selects "SeriesVaultModel" ⟨"SeriesVaultModel", "compare", "(IIII)I"⟩ ⟨"SeriesVaultModel", "compare", "(IIII)I"⟩ ∈ aW := aw_pr (List.mem_map.mpr ⟨_, pv_5 (List.mem_of_getElem? (i := 6) rfl), rfl⟩) rfl
set_option maxHeartbeats 4000000 in
set_option maxRecDepth 100000 in
theorem k_readLabels_0 (l : Launch) (D : va_G) (dA : Nat → ClassId) (sz : Nat) (h : Nat) (ad : Nat → Nat) (x : MS) (c0 : Nat) (g0 : Nat → Nat) (hl1 : x.length ≤ 65536) (hf : x.faultCode = 0) (hrd : rdM x.tape x.length 7 0 0 x.labels = .inr (c0, g0)) : Met l ⟨"SeriesVaultModel", "readLabels", "()Z"⟩ [Cond.code ⟨"SeriesVaultModel", "readLabels", "()Z"⟩ prog_14_method_24_code 6 (some FieldType.boolean)] { frames := 3, cells := 0, slots := 0, locals := 42 } (pC D dA [.ref h] (MW dA h ad x) sz) (va_Qi (fun (r9 : Int32) (u9 : MS) => r9 = bI true ∧ u9 = (x.s_labels g0).s_labelCount c0) (fun (u9 : MS) t9 => bW D (va_A (MW dA h ad x) sz) (MW dA h ad u9) t9) (va_A (MW dA h ad x) sz)) 0 0 (va_A (MW dA h ad x) sz) := by
  refine mkC (y := ⟨"SeriesVaultModel", "readLabels", "()Z"⟩) (cc := prog_14_method_24_code) (maxL := 6) (av := [.ref h]) (ws := MW dA h ad x) (sz := sz) (Qc := fun A => va_Qi (fun (r9 : Int32) (u9 : MS) => r9 = bI true ∧ u9 = (x.s_labels g0).s_labelCount c0) (fun (u9 : MS) t9 => bW D A (MW dA h ad u9) t9) A) (by decide) (Nat.le_of_ble_eq_true rfl) ?_
  intro A p e s m below meth c ls hsz hB
  obtain ⟨hx, hb, hr, hml, hown, hin, hlk, hE, hK, hP, hD, hS, hA, hN, hl⟩ := hB
  have hown : s.vm.findClass "SeriesVaultModel" = some m.cls := hown
  have hl : lv_has ls 6 [(0, .ref h)] := hl
  obtain ⟨H, hH⟩ : ∃ z, z = s.heap := ⟨_, rfl⟩
  have hP : va_P D vwCl (MW dA h ad x) H := by rw [hH]; exact hP
  have hS : va_S A s.heap H [] := by rw [hH]; exact hS
  rw [← hH]
  refine lv_aload_n hx hb d_M_readLabels_0 rfl (lv_at hl 0 rfl) ?_
  refine lv_iconst (v := 0) hx hb d_M_readLabels_1 (by decide) ?_
  refine pF (v := .int (nI 0)) hx hb hown hE hK hP hD hS 0 rfl rfl layM tyM tokM nmM 43 (by decide) w425 rfl rfl rfl (Nat.le_of_ble_eq_true rfl) d_M_readLabels_2 (fun H locs hP hD hS => ?_)
  have hP : va_P D vwCl (MW dA h ad (MS.s_labelCount x 0)) H := hP
  have hD : va_D A (MW dA h ad (MS.s_labelCount x 0)) := hD
  refine lv_iconst (v := 0) hx hb d_M_readLabels_5 (by decide) ?_
  refine lv_istore_n hx hb d_M_readLabels_6 rfl hl (by decide) rfl (fun ls hl => ?_)
  have hl : lv_has ls 6 [(1, .int 0), (0, .ref h)] := hl
  have L7 : ∀ (k9 : Nat) (w : Nat) (q : Nat) (c9 : Nat) (g : Nat → Nat) (i1 : rdM x.tape x.length w q c9 g = .inr (c0, g0)) (i2 : c9 + w = 7) (i5 : c9 ≤ 6) (i3 : q ≤ x.length) (i4 : ∀ k, k < c9 → g (4 * k) + g (4 * k + 1) ≤ x.length) (hk9 : w = k9), ∀ (H : Heap) (locs : List Loc) (ls : Array Slot) (hP : va_P D vwCl (MW dA h ad (MS.s_labelCount (MS.s_labels x g) c9)) H) (hD : va_D A (MW dA h ad (MS.s_labelCount (MS.s_labels x g) c9))) (hS : va_S A s.heap H locs) (hl : lv_has ls 6 [(1, .int (nI q)), (0, .ref h)]), W p l e ({ frames := 3, cells := 0, slots := 0, locals := 42 } : Room) s m ([.ref h] : List Value).toArray below meth c H locs 0 0 (MQ below (va_Qi (fun (r9 : Int32) (u9 : MS) => r9 = bI true ∧ u9 = (x.s_labels g0).s_labelCount c0) (fun (u9 : MS) t9 => bW D A (MW dA h ad u9) t9) A) ([.ref h] : List Value).toArray s 0 0 A) (F0 m 7 ls []) := by
    intro k9
    induction k9 using Nat.strongRecOn with
    | ind k9 ih7 =>
      intro w q c9 g i1 i2 i5 i3 i4 hk9 H locs ls hP hD hS hl
      obtain ⟨n, hn⟩ : ∃ n, wlen x.tape x.length 25 q = n := ⟨_, rfl⟩
      obtain ⟨v, hv⟩ : ∃ v, wlen x.tape x.length 25 (q + n + 1) = v := ⟨_, rfl⟩
      have n1 : n ≤ 25 := by rw [← hn]; exact wlen_le _ _ _ _
      have n2 : q + n ≤ x.length := by rw [← hn]; exact wlen_in i3
      have v1 : v ≤ 25 := by rw [← hv]; exact wlen_le _ _ _ _
      have v2 : q + n + 1 ≤ x.length → q + n + 1 + v ≤ x.length := fun z => by rw [← hv]; exact wlen_in z
      obtain ⟨w, rfl⟩ : ∃ z, w = z + 1 := ⟨w - 1, by omega⟩
      rw [rdM_s hn hv] at i1
      refine lv_aload_n hx hb d_M_readLabels_7 rfl (lv_at hl 1 rfl) ?_
      refine lv_iload_n hx hb d_M_readLabels_8 rfl (lv_at hl 0 rfl) ?_
      refine jfI (rnV (As := [.int (nI q)]) (rest := []) hx hb hml hown hE hK (hN _ _ hS) hP hD (k_wordLength l D dA H.size h ad (MS.s_labelCount (MS.s_labels x g) c9) q (show q ≤ 131072 from by omega) (show x.length ≤ 65536 from by omega)) (q0 := 0) rfl rfl w427 w426 w428 w429 w328 rfl rfl ⟨⟨by decide, by decide⟩, rfl⟩ ⟨(Nat.le_of_ble_eq_true rfl), (Nat.le_of_ble_eq_true rfl)⟩ rfl hl.1 rfl (Nat.le_of_ble_eq_true rfl) d_M_readLabels_9 ⟨(Nat.le_of_ble_eq_true rfl), (Nat.le_of_ble_eq_true rfl)⟩) hP hD hS hA (fun r1 u2 H locs hp9 hP hD hS => ?_)
      have hP : va_P D vwCl (MW dA h ad (MS.s_labelCount (MS.s_labels x g) c9)) H := hP
      have hD : va_D A (MW dA h ad (MS.s_labelCount (MS.s_labels x g) c9)) := hD
      replace hp9 : nI (wlen x.tape x.length 25 q) = r1 := Eq.symm hp9
      subst hp9
      refine tpi (y := nI n) (congrArg nI hn) ?_
      refine lv_istore_n hx hb d_M_readLabels_12 rfl hl (by decide) rfl (fun ls hl => ?_)
      have hl : lv_has ls 6 [(2, .int (nI n)), (1, .int (nI q)), (0, .ref h)] := hl
      refine lv_iload_n hx hb d_M_readLabels_13 rfl (lv_at hl 0 rfl) ?_
      refine lv_if_eq hx hb d_M_readLabels_14 (tgt := 23) rfl (fun g3 => ?_) (fun g3 => ?_)
      · have g3 := (nI_eq (a := n) (b := 0) (by omega) (by decide)).mp g3
        refine lv_aload_n hx hb d_M_readLabels_23 rfl (lv_at hl 2 rfl) ?_
        refine lv_bipush (v := 7) hx hb d_M_readLabels_24 (by decide) ?_
        refine lv_iload_n hx hb d_M_readLabels_26 rfl (lv_at hl 1 rfl) ?_
        refine lv_iload_n hx hb d_M_readLabels_27 rfl (lv_at hl 0 rfl) ?_
        refine lv_bipush (v := 24) hx hb d_M_readLabels_28 (by decide) ?_
        refine lv_icmp_le hx hb d_M_readLabels_30 (tgt := 38) rfl (fun g4 => ?_) (fun g4 => ?_)
        · have g4 := (nI_leI (a := n) (b := 24) (by omega) (by omega)).mp g4
          refine lv_iconst (v := 0) hx hb d_M_readLabels_38 (by decide) ?_
          refine lv_iadd hx hb d_M_readLabels_39 (tpi (y := nI (q)) (nI_add (q) (0)) ?_)
          refine jfI (rnV (As := [.int 7, .int (nI (q))]) (rest := []) hx hb hml hown hE hK (hN _ _ hS) hP hD (k_flaw_0 l D dA H.size h ad (MS.s_labelCount (MS.s_labels x g) c9) 7 (nI (q)) hf) (q0 := 0) rfl rfl w431 w430 w432 w433 w328 rfl rfl ⟨⟨by decide, by decide⟩, rfl⟩ ⟨(Nat.le_of_ble_eq_true rfl), (Nat.le_of_ble_eq_true rfl)⟩ rfl hl.1 rfl (Nat.le_of_ble_eq_true rfl) d_M_readLabels_40 ⟨(Nat.le_of_ble_eq_true rfl), (Nat.le_of_ble_eq_true rfl)⟩) hP hD hS hA (fun r5 u6 H locs hp9 hP hD hS => ?_)
          have hP : va_P D vwCl (MW dA h ad (MS.s_labelCount (MS.s_labels (MS.s_faultPlace (MS.s_faultCode x 7) (nI (q))) g) c9)) H := hP
          have hD : va_D A (MW dA h ad (MS.s_labelCount (MS.s_labels (MS.s_faultPlace (MS.s_faultCode x 7) (nI (q))) g) c9)) := hD
          replace hp9 : bI false = r5 := Eq.symm hp9
          subst hp9
          exact rfZ hx hb hr (bI_nar false) hlk hS (MS.s_labelCount (MS.s_labels (MS.s_faultPlace (MS.s_faultCode x 7) (nI (q))) g) c9) (by exfalso; rw [if_pos g3] at i1; cases i1) hP hD (Nat.le_of_ble_eq_true rfl) (Nat.le_of_ble_eq_true rfl) d_M_readLabels_43
        · have g4 := mt (nI_leI (a := n) (b := 24) (by omega) (by omega)).mpr g4
          refine lv_bipush (v := 24) hx hb d_M_readLabels_33 (by decide) ?_
          refine lv_goto hx hb d_M_readLabels_35 (tgt := 39) rfl ?_
          refine lv_iadd hx hb d_M_readLabels_39 (tpi (y := nI (q + 24)) (nI_add (q) (24)) ?_)
          refine jfI (rnV (As := [.int 7, .int (nI (q + 24))]) (rest := []) hx hb hml hown hE hK (hN _ _ hS) hP hD (k_flaw_0 l D dA H.size h ad (MS.s_labelCount (MS.s_labels x g) c9) 7 (nI (q + 24)) hf) (q0 := 0) rfl rfl w431 w430 w432 w433 w328 rfl rfl ⟨⟨by decide, by decide⟩, rfl⟩ ⟨(Nat.le_of_ble_eq_true rfl), (Nat.le_of_ble_eq_true rfl)⟩ rfl hl.1 rfl (Nat.le_of_ble_eq_true rfl) d_M_readLabels_40 ⟨(Nat.le_of_ble_eq_true rfl), (Nat.le_of_ble_eq_true rfl)⟩) hP hD hS hA (fun r7 u8 H locs hp9 hP hD hS => ?_)
          have hP : va_P D vwCl (MW dA h ad (MS.s_labelCount (MS.s_labels (MS.s_faultPlace (MS.s_faultCode x 7) (nI (q + 24))) g) c9)) H := hP
          have hD : va_D A (MW dA h ad (MS.s_labelCount (MS.s_labels (MS.s_faultPlace (MS.s_faultCode x 7) (nI (q + 24))) g) c9)) := hD
          replace hp9 : bI false = r7 := Eq.symm hp9
          subst hp9
          exact rfZ hx hb hr (bI_nar false) hlk hS (MS.s_labelCount (MS.s_labels (MS.s_faultPlace (MS.s_faultCode x 7) (nI (q + 24))) g) c9) (by exfalso; omega) hP hD (Nat.le_of_ble_eq_true rfl) (Nat.le_of_ble_eq_true rfl) d_M_readLabels_43
      · have g3 := mt (nI_eq (a := n) (b := 0) (by omega) (by decide)).mpr g3
        refine lv_iload_n hx hb d_M_readLabels_17 rfl (lv_at hl 0 rfl) ?_
        refine lv_bipush (v := 24) hx hb d_M_readLabels_18 (by decide) ?_
        refine lv_icmp_le hx hb d_M_readLabels_20 (tgt := 44) rfl (fun g9 => ?_) (fun g9 => ?_)
        · have g9 := (nI_leI (a := n) (b := 24) (by omega) (by omega)).mp g9
          refine lv_iload_n hx hb d_M_readLabels_44 rfl (lv_at hl 1 rfl) ?_
          refine lv_iload_n hx hb d_M_readLabels_45 rfl (lv_at hl 0 rfl) ?_
          refine lv_iadd hx hb d_M_readLabels_46 (tpi (y := nI (q + n)) (nI_add (q) (n)) ?_)
          refine lv_aload_n hx hb d_M_readLabels_47 rfl (lv_at hl 2 rfl) ?_
          refine gF (v := .int (nI x.length)) hx hb hown hE hK hP 0 rfl rfl layM 2 (by decide) w320 rfl d_M_readLabels_48 ?_
          refine lv_icmp_ge hx hb d_M_readLabels_51 (tgt := 67) rfl (fun g10 => ?_) (fun g10 => ?_)
          · have g10 := (nI_leI (a := x.length) (b := q + n) (by omega) (by omega)).mp g10
            refine lv_aload_n hx hb d_M_readLabels_67 rfl (lv_at hl 2 rfl) ?_
            refine lv_bipush (v := 7) hx hb d_M_readLabels_68 (by decide) ?_
            refine lv_iload_n hx hb d_M_readLabels_70 rfl (lv_at hl 1 rfl) ?_
            refine lv_iload_n hx hb d_M_readLabels_71 rfl (lv_at hl 0 rfl) ?_
            refine lv_iadd hx hb d_M_readLabels_72 (tpi (y := nI (q + n)) (nI_add (q) (n)) ?_)
            refine jfI (rnV (As := [.int 7, .int (nI (q + n))]) (rest := []) hx hb hml hown hE hK (hN _ _ hS) hP hD (k_flaw_0 l D dA H.size h ad (MS.s_labelCount (MS.s_labels x g) c9) 7 (nI (q + n)) hf) (q0 := 0) rfl rfl w431 w430 w432 w433 w328 rfl rfl ⟨⟨by decide, by decide⟩, rfl⟩ ⟨(Nat.le_of_ble_eq_true rfl), (Nat.le_of_ble_eq_true rfl)⟩ rfl hl.1 rfl (Nat.le_of_ble_eq_true rfl) d_M_readLabels_73 ⟨(Nat.le_of_ble_eq_true rfl), (Nat.le_of_ble_eq_true rfl)⟩) hP hD hS hA (fun r11 u12 H locs hp9 hP hD hS => ?_)
            have hP : va_P D vwCl (MW dA h ad (MS.s_labelCount (MS.s_labels (MS.s_faultPlace (MS.s_faultCode x 7) (nI (q + n))) g) c9)) H := hP
            have hD : va_D A (MW dA h ad (MS.s_labelCount (MS.s_labels (MS.s_faultPlace (MS.s_faultCode x 7) (nI (q + n))) g) c9)) := hD
            replace hp9 : bI false = r11 := Eq.symm hp9
            subst hp9
            exact rfZ hx hb hr (bI_nar false) hlk hS (MS.s_labelCount (MS.s_labels (MS.s_faultPlace (MS.s_faultCode x 7) (nI (q + n))) g) c9) (by exfalso; rw [if_neg g3, if_neg (show ¬ 24 < n by omega), if_pos g10] at i1; cases i1) hP hD (Nat.le_of_ble_eq_true rfl) (Nat.le_of_ble_eq_true rfl) d_M_readLabels_76
          · have g10 := mt (nI_leI (a := x.length) (b := q + n) (by omega) (by omega)).mpr g10
            refine lv_aload_n hx hb d_M_readLabels_54 rfl (lv_at hl 2 rfl) ?_
            refine gF (v := .ref (ad 1)) hx hb hown hE hK hP 0 rfl rfl layM 1 (by decide) w497 rfl d_M_readLabels_55 ?_
            refine lv_iload_n hx hb d_M_readLabels_58 rfl (lv_at hl 1 rfl) ?_
            refine lv_iload_n hx hb d_M_readLabels_59 rfl (lv_at hl 0 rfl) ?_
            refine lv_iadd hx hb d_M_readLabels_60 (tpi (y := nI (q + n)) (nI_add (q) (n)) ?_)
            refine nbld (f := x.tape) hx hb hK hP 1 0 rfl rfl (q + n) (by omega) (by decide) d_M_readLabels_61 ?_
            refine lv_bipush (v := 61) hx hb d_M_readLabels_62 (by decide) ?_
            refine lv_icmp_eq hx hb d_M_readLabels_64 (tgt := 77) rfl (fun g13 => ?_) (fun g13 => ?_)
            · have g13 := g13
              have J91 : ∀ (tw : Bool) (i6 : decide (c9 = 6) = tw), ∀ (H : Heap) (locs : List Loc) (ls : Array Slot) (hP : va_P D vwCl (MW dA h ad (MS.s_labelCount (MS.s_labels x g) c9)) H) (hD : va_D A (MW dA h ad (MS.s_labelCount (MS.s_labels x g) c9))) (hS : va_S A s.heap H locs) (hl : lv_has ls 6 [(2, .int (nI n)), (1, .int (nI q)), (0, .ref h)]), W p l e ({ frames := 3, cells := 0, slots := 0, locals := 42 } : Room) s m ([.ref h] : List Value).toArray below meth c H locs 0 0 (MQ below (va_Qi (fun (r9 : Int32) (u9 : MS) => r9 = bI true ∧ u9 = (x.s_labels g0).s_labelCount c0) (fun (u9 : MS) t9 => bW D A (MW dA h ad u9) t9) A) ([.ref h] : List Value).toArray s 0 0 A) (F0 m 91 ls [.int (bI tw)]) := by
                intro tw i6 H locs ls hP hD hS hl
                refine lv_istore_n hx hb d_M_readLabels_91 rfl hl (by decide) rfl (fun ls hl => ?_)
                have hl : lv_has ls 6 [(3, .int (bI tw)), (2, .int (nI n)), (1, .int (nI q)), (0, .ref h)] := hl
                have J149 : ∀ (tw : Bool) (i9 : (decide (c9 = 6) || anyB c9 (fun z => decide (cmpT x.tape (g (4 * z)) (g (4 * z + 1)) q n = 0))) = tw), ∀ (H : Heap) (locs : List Loc) (ls : Array Slot) (hP : va_P D vwCl (MW dA h ad (MS.s_labelCount (MS.s_labels x g) c9)) H) (hD : va_D A (MW dA h ad (MS.s_labelCount (MS.s_labels x g) c9))) (hS : va_S A s.heap H locs) (hl : lv_has ls 6 [(3, .int (bI tw)), (2, .int (nI n)), (1, .int (nI q)), (0, .ref h)]), W p l e ({ frames := 3, cells := 0, slots := 0, locals := 42 } : Room) s m ([.ref h] : List Value).toArray below meth c H locs 0 0 (MQ below (va_Qi (fun (r9 : Int32) (u9 : MS) => r9 = bI true ∧ u9 = (x.s_labels g0).s_labelCount c0) (fun (u9 : MS) t9 => bW D A (MW dA h ad u9) t9) A) ([.ref h] : List Value).toArray s 0 0 A) (F0 m 149 ls []) := by
                  intro tw i9 H locs ls hP hD hS hl
                  refine lv_iload_n hx hb d_M_readLabels_149 rfl (lv_at hl 0 rfl) ?_
                  refine lv_if_eq hx hb d_M_readLabels_150 (tgt := 161) rfl (fun g14 => ?_) (fun g14 => ?_)
                  · have g14 := bI_0 g14
                    have c6 : ¬ c9 = 6 := fun z => by rw [decide_eq_true z, Bool.true_or, g14] at i9; cases i9
                    refine lv_iload_n hx hb d_M_readLabels_161 rfl (lv_at hl 2 rfl) ?_
                    refine lv_iload_n hx hb d_M_readLabels_162 rfl (lv_at hl 1 rfl) ?_
                    refine lv_iadd hx hb d_M_readLabels_163 (tpi (y := nI (q + n)) (nI_add (q) (n)) ?_)
                    refine lv_iconst (v := 1) hx hb d_M_readLabels_164 (by decide) ?_
                    refine lv_iadd hx hb d_M_readLabels_165 (tpi (y := nI (q + n + 1)) (nI_add (q + n) (1)) ?_)
                    refine lv_istore hx hb d_M_readLabels_166 hl (by decide) rfl (fun ls hl => ?_)
                    have hl : lv_has ls 6 [(4, .int (nI (q + n + 1))), (3, .int (bI tw)), (2, .int (nI n)), (1, .int (nI q)), (0, .ref h)] := hl
                    refine lv_aload_n hx hb d_M_readLabels_168 rfl (lv_at hl 4 rfl) ?_
                    refine lv_iload hx hb d_M_readLabels_169 (lv_at hl 0 rfl) ?_
                    refine jfI (rnV (As := [.int (nI (q + n + 1))]) (rest := []) hx hb hml hown hE hK (hN _ _ hS) hP hD (k_wordLength l D dA H.size h ad (MS.s_labelCount (MS.s_labels x g) c9) (q + n + 1) (show (q + n + 1) ≤ 131072 from by omega) (show x.length ≤ 65536 from by omega)) (q0 := 0) rfl rfl w427 w426 w428 w429 w328 rfl rfl ⟨⟨by decide, by decide⟩, rfl⟩ ⟨(Nat.le_of_ble_eq_true rfl), (Nat.le_of_ble_eq_true rfl)⟩ rfl hl.1 rfl (Nat.le_of_ble_eq_true rfl) d_M_readLabels_171 ⟨(Nat.le_of_ble_eq_true rfl), (Nat.le_of_ble_eq_true rfl)⟩) hP hD hS hA (fun r15 u16 H locs hp9 hP hD hS => ?_)
                    have hP : va_P D vwCl (MW dA h ad (MS.s_labelCount (MS.s_labels x g) c9)) H := hP
                    have hD : va_D A (MW dA h ad (MS.s_labelCount (MS.s_labels x g) c9)) := hD
                    replace hp9 : nI (wlen x.tape x.length 25 (q + n + 1)) = r15 := Eq.symm hp9
                    subst hp9
                    refine tpi (y := nI v) (congrArg nI hv) ?_
                    refine lv_istore hx hb d_M_readLabels_174 hl (by decide) rfl (fun ls hl => ?_)
                    have hl : lv_has ls 6 [(5, .int (nI v)), (4, .int (nI (q + n + 1))), (3, .int (bI tw)), (2, .int (nI n)), (1, .int (nI q)), (0, .ref h)] := hl
                    refine lv_iload hx hb d_M_readLabels_176 (lv_at hl 0 rfl) ?_
                    refine lv_if_eq hx hb d_M_readLabels_178 (tgt := 188) rfl (fun g17 => ?_) (fun g17 => ?_)
                    · have g17 := (nI_eq (a := v) (b := 0) (by omega) (by decide)).mp g17
                      refine lv_aload_n hx hb d_M_readLabels_188 rfl (lv_at hl 5 rfl) ?_
                      refine lv_bipush (v := 7) hx hb d_M_readLabels_189 (by decide) ?_
                      refine lv_iload hx hb d_M_readLabels_191 (lv_at hl 1 rfl) ?_
                      refine lv_iload hx hb d_M_readLabels_193 (lv_at hl 0 rfl) ?_
                      refine lv_bipush (v := 24) hx hb d_M_readLabels_195 (by decide) ?_
                      refine lv_icmp_le hx hb d_M_readLabels_197 (tgt := 205) rfl (fun g18 => ?_) (fun g18 => ?_)
                      · have g18 := (nI_leI (a := v) (b := 24) (by omega) (by omega)).mp g18
                        refine lv_iconst (v := 0) hx hb d_M_readLabels_205 (by decide) ?_
                        refine lv_iadd hx hb d_M_readLabels_206 (tpi (y := nI (q + n + 1)) (nI_add (q + n + 1) (0)) ?_)
                        refine jfI (rnV (As := [.int 7, .int (nI (q + n + 1))]) (rest := []) hx hb hml hown hE hK (hN _ _ hS) hP hD (k_flaw_0 l D dA H.size h ad (MS.s_labelCount (MS.s_labels x g) c9) 7 (nI (q + n + 1)) hf) (q0 := 0) rfl rfl w431 w430 w432 w433 w328 rfl rfl ⟨⟨by decide, by decide⟩, rfl⟩ ⟨(Nat.le_of_ble_eq_true rfl), (Nat.le_of_ble_eq_true rfl)⟩ rfl hl.1 rfl (Nat.le_of_ble_eq_true rfl) d_M_readLabels_207 ⟨(Nat.le_of_ble_eq_true rfl), (Nat.le_of_ble_eq_true rfl)⟩) hP hD hS hA (fun r19 u20 H locs hp9 hP hD hS => ?_)
                        have hP : va_P D vwCl (MW dA h ad (MS.s_labelCount (MS.s_labels (MS.s_faultPlace (MS.s_faultCode x 7) (nI (q + n + 1))) g) c9)) H := hP
                        have hD : va_D A (MW dA h ad (MS.s_labelCount (MS.s_labels (MS.s_faultPlace (MS.s_faultCode x 7) (nI (q + n + 1))) g) c9)) := hD
                        replace hp9 : bI false = r19 := Eq.symm hp9
                        subst hp9
                        exact rfZ hx hb hr (bI_nar false) hlk hS (MS.s_labelCount (MS.s_labels (MS.s_faultPlace (MS.s_faultCode x 7) (nI (q + n + 1))) g) c9) (by exfalso; rw [if_neg g3, if_neg (show ¬ 24 < n by omega), if_neg g10, if_neg (not_not_intro g13), if_neg (by rw [i9, g14]; decide), if_pos g17] at i1; cases i1) hP hD (Nat.le_of_ble_eq_true rfl) (Nat.le_of_ble_eq_true rfl) d_M_readLabels_210
                      · have g18 := mt (nI_leI (a := v) (b := 24) (by omega) (by omega)).mpr g18
                        refine lv_bipush (v := 24) hx hb d_M_readLabels_200 (by decide) ?_
                        refine lv_goto hx hb d_M_readLabels_202 (tgt := 206) rfl ?_
                        refine lv_iadd hx hb d_M_readLabels_206 (tpi (y := nI (q + n + 1 + 24)) (nI_add (q + n + 1) (24)) ?_)
                        refine jfI (rnV (As := [.int 7, .int (nI (q + n + 1 + 24))]) (rest := []) hx hb hml hown hE hK (hN _ _ hS) hP hD (k_flaw_0 l D dA H.size h ad (MS.s_labelCount (MS.s_labels x g) c9) 7 (nI (q + n + 1 + 24)) hf) (q0 := 0) rfl rfl w431 w430 w432 w433 w328 rfl rfl ⟨⟨by decide, by decide⟩, rfl⟩ ⟨(Nat.le_of_ble_eq_true rfl), (Nat.le_of_ble_eq_true rfl)⟩ rfl hl.1 rfl (Nat.le_of_ble_eq_true rfl) d_M_readLabels_207 ⟨(Nat.le_of_ble_eq_true rfl), (Nat.le_of_ble_eq_true rfl)⟩) hP hD hS hA (fun r21 u22 H locs hp9 hP hD hS => ?_)
                        have hP : va_P D vwCl (MW dA h ad (MS.s_labelCount (MS.s_labels (MS.s_faultPlace (MS.s_faultCode x 7) (nI (q + n + 1 + 24))) g) c9)) H := hP
                        have hD : va_D A (MW dA h ad (MS.s_labelCount (MS.s_labels (MS.s_faultPlace (MS.s_faultCode x 7) (nI (q + n + 1 + 24))) g) c9)) := hD
                        replace hp9 : bI false = r21 := Eq.symm hp9
                        subst hp9
                        exact rfZ hx hb hr (bI_nar false) hlk hS (MS.s_labelCount (MS.s_labels (MS.s_faultPlace (MS.s_faultCode x 7) (nI (q + n + 1 + 24))) g) c9) (by exfalso; omega) hP hD (Nat.le_of_ble_eq_true rfl) (Nat.le_of_ble_eq_true rfl) d_M_readLabels_210
                    · have g17 := mt (nI_eq (a := v) (b := 0) (by omega) (by decide)).mpr g17
                      refine lv_iload hx hb d_M_readLabels_181 (lv_at hl 0 rfl) ?_
                      refine lv_bipush (v := 24) hx hb d_M_readLabels_183 (by decide) ?_
                      refine lv_icmp_le hx hb d_M_readLabels_185 (tgt := 211) rfl (fun g23 => ?_) (fun g23 => ?_)
                      · have g23 := (nI_leI (a := v) (b := 24) (by omega) (by omega)).mp g23
                        refine lv_aload_n hx hb d_M_readLabels_211 rfl (lv_at hl 5 rfl) ?_
                        refine gF (v := .ref (ad 42)) hx hb hown hE hK hP 0 rfl rfl layM 42 (by decide) w517 rfl d_M_readLabels_212 ?_
                        refine lv_iconst (v := 4) hx hb d_M_readLabels_215 (by decide) ?_
                        refine lv_aload_n hx hb d_M_readLabels_216 rfl (lv_at hl 5 rfl) ?_
                        refine gF (v := .int (nI c9)) hx hb hown hE hK hP 0 rfl rfl layM 43 (by decide) w425 rfl d_M_readLabels_217 ?_
                        refine lv_imul hx hb d_M_readLabels_220 (tpi (y := nI (4 * c9)) (pk_mul (4) (c9)) ?_)
                        refine lv_iload_n hx hb d_M_readLabels_221 rfl (lv_at hl 4 rfl) ?_
                        refine nistN (v := q) hx hb hK hP hD hS 20 1 rfl rfl (4 * c9) (by omega) (by decide) d_M_readLabels_222 (fun H locs hP hD hS => ?_)
                        have hP : va_P D vwCl (MW dA h ad (MS.s_labelCount (MS.s_labels x (va_up g (4 * c9) q)) c9)) H := hP
                        have hD : va_D A (MW dA h ad (MS.s_labelCount (MS.s_labels x (va_up g (4 * c9) q)) c9)) := hD
                        refine lv_aload_n hx hb d_M_readLabels_223 rfl (lv_at hl 5 rfl) ?_
                        refine gF (v := .ref (ad 42)) hx hb hown hE hK hP 0 rfl rfl layM 42 (by decide) w517 rfl d_M_readLabels_224 ?_
                        refine lv_iconst (v := 4) hx hb d_M_readLabels_227 (by decide) ?_
                        refine lv_aload_n hx hb d_M_readLabels_228 rfl (lv_at hl 5 rfl) ?_
                        refine gF (v := .int (nI c9)) hx hb hown hE hK hP 0 rfl rfl layM 43 (by decide) w425 rfl d_M_readLabels_229 ?_
                        refine lv_imul hx hb d_M_readLabels_232 (tpi (y := nI (4 * c9)) (pk_mul (4) (c9)) ?_)
                        refine lv_iconst (v := 1) hx hb d_M_readLabels_233 (by decide) ?_
                        refine lv_iadd hx hb d_M_readLabels_234 (tpi (y := nI ((4 * c9) + 1)) (nI_add (4 * c9) (1)) ?_)
                        refine lv_iload_n hx hb d_M_readLabels_235 rfl (lv_at hl 3 rfl) ?_
                        refine nistN (v := n) hx hb hK hP hD hS 20 1 rfl rfl ((4 * c9) + 1) (by omega) (by decide) d_M_readLabels_236 (fun H locs hP hD hS => ?_)
                        have hP : va_P D vwCl (MW dA h ad (MS.s_labelCount (MS.s_labels x (va_up (va_up g (4 * c9) q) ((4 * c9) + 1) n)) c9)) H := hP
                        have hD : va_D A (MW dA h ad (MS.s_labelCount (MS.s_labels x (va_up (va_up g (4 * c9) q) ((4 * c9) + 1) n)) c9)) := hD
                        refine lv_aload_n hx hb d_M_readLabels_237 rfl (lv_at hl 5 rfl) ?_
                        refine gF (v := .ref (ad 42)) hx hb hown hE hK hP 0 rfl rfl layM 42 (by decide) w517 rfl d_M_readLabels_238 ?_
                        refine lv_iconst (v := 4) hx hb d_M_readLabels_241 (by decide) ?_
                        refine lv_aload_n hx hb d_M_readLabels_242 rfl (lv_at hl 5 rfl) ?_
                        refine gF (v := .int (nI c9)) hx hb hown hE hK hP 0 rfl rfl layM 43 (by decide) w425 rfl d_M_readLabels_243 ?_
                        refine lv_imul hx hb d_M_readLabels_246 (tpi (y := nI (4 * c9)) (pk_mul (4) (c9)) ?_)
                        refine lv_iconst (v := 2) hx hb d_M_readLabels_247 (by decide) ?_
                        refine lv_iadd hx hb d_M_readLabels_248 (tpi (y := nI ((4 * c9) + 2)) (nI_add (4 * c9) (2)) ?_)
                        refine lv_iload hx hb d_M_readLabels_249 (lv_at hl 1 rfl) ?_
                        refine nistN (v := q + n + 1) hx hb hK hP hD hS 20 1 rfl rfl ((4 * c9) + 2) (by omega) (by decide) d_M_readLabels_251 (fun H locs hP hD hS => ?_)
                        have hP : va_P D vwCl (MW dA h ad (MS.s_labelCount (MS.s_labels x (va_up (va_up (va_up g (4 * c9) q) ((4 * c9) + 1) n) ((4 * c9) + 2) (q + n + 1))) c9)) H := hP
                        have hD : va_D A (MW dA h ad (MS.s_labelCount (MS.s_labels x (va_up (va_up (va_up g (4 * c9) q) ((4 * c9) + 1) n) ((4 * c9) + 2) (q + n + 1))) c9)) := hD
                        refine lv_aload_n hx hb d_M_readLabels_252 rfl (lv_at hl 5 rfl) ?_
                        refine gF (v := .ref (ad 42)) hx hb hown hE hK hP 0 rfl rfl layM 42 (by decide) w517 rfl d_M_readLabels_253 ?_
                        refine lv_iconst (v := 4) hx hb d_M_readLabels_256 (by decide) ?_
                        refine lv_aload_n hx hb d_M_readLabels_257 rfl (lv_at hl 5 rfl) ?_
                        refine gF (v := .int (nI c9)) hx hb hown hE hK hP 0 rfl rfl layM 43 (by decide) w425 rfl d_M_readLabels_258 ?_
                        refine lv_imul hx hb d_M_readLabels_261 (tpi (y := nI (4 * c9)) (pk_mul (4) (c9)) ?_)
                        refine lv_iconst (v := 3) hx hb d_M_readLabels_262 (by decide) ?_
                        refine lv_iadd hx hb d_M_readLabels_263 (tpi (y := nI ((4 * c9) + 3)) (nI_add (4 * c9) (3)) ?_)
                        refine lv_iload hx hb d_M_readLabels_264 (lv_at hl 0 rfl) ?_
                        refine nistN (v := v) hx hb hK hP hD hS 20 1 rfl rfl ((4 * c9) + 3) (by omega) (by decide) d_M_readLabels_266 (fun H locs hP hD hS => ?_)
                        have hP : va_P D vwCl (MW dA h ad (MS.s_labelCount (MS.s_labels x (va_up (va_up (va_up (va_up g (4 * c9) q) ((4 * c9) + 1) n) ((4 * c9) + 2) (q + n + 1)) ((4 * c9) + 3) v)) c9)) H := hP
                        have hD : va_D A (MW dA h ad (MS.s_labelCount (MS.s_labels x (va_up (va_up (va_up (va_up g (4 * c9) q) ((4 * c9) + 1) n) ((4 * c9) + 2) (q + n + 1)) ((4 * c9) + 3) v)) c9)) := hD
                        refine lv_aload_n hx hb d_M_readLabels_267 rfl (lv_at hl 5 rfl) ?_
                        refine lv_dup hx hb d_M_readLabels_268 rfl ?_
                        refine gF (v := .int (nI c9)) hx hb hown hE hK hP 0 rfl rfl layM 43 (by decide) w425 rfl d_M_readLabels_269 ?_
                        refine lv_iconst (v := 1) hx hb d_M_readLabels_272 (by decide) ?_
                        refine lv_iadd hx hb d_M_readLabels_273 (tpi (y := nI (c9 + 1)) (nI_add (c9) (1)) ?_)
                        refine pF (v := .int (nI (c9 + 1))) hx hb hown hE hK hP hD hS 0 rfl rfl layM tyM tokM nmM 43 (by decide) w425 rfl rfl rfl (Nat.le_of_ble_eq_true rfl) d_M_readLabels_274 (fun H locs hP hD hS => ?_)
                        have hP : va_P D vwCl (MW dA h ad (MS.s_labelCount (MS.s_labels x (va_up (va_up (va_up (va_up g (4 * c9) q) ((4 * c9) + 1) n) ((4 * c9) + 2) (q + n + 1)) ((4 * c9) + 3) v)) (c9 + 1))) H := hP
                        have hD : va_D A (MW dA h ad (MS.s_labelCount (MS.s_labels x (va_up (va_up (va_up (va_up g (4 * c9) q) ((4 * c9) + 1) n) ((4 * c9) + 2) (q + n + 1)) ((4 * c9) + 3) v)) (c9 + 1))) := hD
                        refine lv_iload hx hb d_M_readLabels_277 (lv_at hl 1 rfl) ?_
                        refine lv_iload hx hb d_M_readLabels_279 (lv_at hl 0 rfl) ?_
                        refine lv_iadd hx hb d_M_readLabels_281 (tpi (y := nI (q + n + 1 + v)) (nI_add (q + n + 1) (v)) ?_)
                        refine lv_istore_n hx hb d_M_readLabels_282 rfl hl (by decide) rfl (fun ls hl => ?_)
                        have hl : lv_has ls 6 [(1, .int (nI (q + n + 1 + v))), (5, .int (nI v)), (4, .int (nI (q + n + 1))), (3, .int (bI tw)), (2, .int (nI n)), (0, .ref h)] := hl
                        refine lv_iload_n hx hb d_M_readLabels_283 rfl (lv_at hl 0 rfl) ?_
                        refine lv_aload_n hx hb d_M_readLabels_284 rfl (lv_at hl 5 rfl) ?_
                        refine gF (v := .int (nI x.length)) hx hb hown hE hK hP 0 rfl rfl layM 2 (by decide) w320 rfl d_M_readLabels_285 ?_
                        refine lv_icmp_ne hx hb d_M_readLabels_288 (tgt := 293) rfl (fun g24 => ?_) (fun g24 => ?_)
                        · have g24 := mt (nI_eq (a := q + n + 1 + v) (b := x.length) (by omega) (by omega)).mpr g24
                          refine lv_aload_n hx hb d_M_readLabels_293 rfl (lv_at hl 5 rfl) ?_
                          refine gF (v := .ref (ad 1)) hx hb hown hE hK hP 0 rfl rfl layM 1 (by decide) w497 rfl d_M_readLabels_294 ?_
                          refine lv_iload_n hx hb d_M_readLabels_297 rfl (lv_at hl 0 rfl) ?_
                          refine nbld (f := x.tape) hx hb hK hP 1 0 rfl rfl (q + n + 1 + v) (by omega) (by decide) d_M_readLabels_298 ?_
                          refine lv_bipush (v := 44) hx hb d_M_readLabels_299 (by decide) ?_
                          refine lv_icmp_eq hx hb d_M_readLabels_301 (tgt := 312) rfl (fun g25 => ?_) (fun g25 => ?_)
                          · have g25 := g25
                            refine lv_iinc (k := 0) (v := nI (q + n + 1 + v + 1)) hx hb d_M_readLabels_312 hl rfl (iincN (q + n + 1 + v) 1 1 (by decide)) (by decide) rfl (fun ls hl => ?_)
                            have hl : lv_has ls 6 [(1, .int (nI (q + n + 1 + v + 1))), (5, .int (nI v)), (4, .int (nI (q + n + 1))), (3, .int (bI tw)), (2, .int (nI n)), (0, .ref h)] := hl
                            refine lv_goto hx hb d_M_readLabels_315 (tgt := 7) rfl ?_
                            exact ih7 _ (by omega) w (q + n + 1 + v + 1) (c9 + 1) (va_up (va_up (va_up (va_up g (4 * c9) q) ((4 * c9) + 1) n) ((4 * c9) + 2) (q + n + 1)) ((4 * c9) + 3) v) (by rw [if_neg g3, if_neg (show ¬ 24 < n by omega), if_neg g10, if_neg (not_not_intro g13), if_neg (by rw [i9, g14]; decide), if_neg g17, if_neg (show ¬ 24 < v by omega), if_neg (show ¬ q + n + 1 + v = x.length by omega), if_neg (not_not_intro g25)] at i1; exact i1) (by omega) (by omega) (by omega) (lab_up i4 n2) rfl H _ ls hP hD hS (lv_sub hl [0, 5] rfl)
                          · have g25 := g25
                            refine lv_aload_n hx hb d_M_readLabels_304 rfl (lv_at hl 5 rfl) ?_
                            refine lv_bipush (v := 7) hx hb d_M_readLabels_305 (by decide) ?_
                            refine lv_iload_n hx hb d_M_readLabels_307 rfl (lv_at hl 0 rfl) ?_
                            refine jfI (rnV (As := [.int 7, .int (nI (q + n + 1 + v))]) (rest := []) hx hb hml hown hE hK (hN _ _ hS) hP hD (k_flaw_0 l D dA H.size h ad (MS.s_labelCount (MS.s_labels x (va_up (va_up (va_up (va_up g (4 * c9) q) ((4 * c9) + 1) n) ((4 * c9) + 2) (q + n + 1)) ((4 * c9) + 3) v)) (c9 + 1)) 7 (nI (q + n + 1 + v)) hf) (q0 := 0) rfl rfl w431 w430 w432 w433 w328 rfl rfl ⟨⟨by decide, by decide⟩, rfl⟩ ⟨(Nat.le_of_ble_eq_true rfl), (Nat.le_of_ble_eq_true rfl)⟩ rfl hl.1 rfl (Nat.le_of_ble_eq_true rfl) d_M_readLabels_308 ⟨(Nat.le_of_ble_eq_true rfl), (Nat.le_of_ble_eq_true rfl)⟩) hP hD hS hA (fun r26 u27 H locs hp9 hP hD hS => ?_)
                            have hP : va_P D vwCl (MW dA h ad (MS.s_labelCount (MS.s_labels (MS.s_faultPlace (MS.s_faultCode x 7) (nI (q + n + 1 + v))) (va_up (va_up (va_up (va_up g (4 * c9) q) ((4 * c9) + 1) n) ((4 * c9) + 2) (q + n + 1)) ((4 * c9) + 3) v)) (c9 + 1))) H := hP
                            have hD : va_D A (MW dA h ad (MS.s_labelCount (MS.s_labels (MS.s_faultPlace (MS.s_faultCode x 7) (nI (q + n + 1 + v))) (va_up (va_up (va_up (va_up g (4 * c9) q) ((4 * c9) + 1) n) ((4 * c9) + 2) (q + n + 1)) ((4 * c9) + 3) v)) (c9 + 1))) := hD
                            replace hp9 : bI false = r26 := Eq.symm hp9
                            subst hp9
                            exact rfZ hx hb hr (bI_nar false) hlk hS (MS.s_labelCount (MS.s_labels (MS.s_faultPlace (MS.s_faultCode x 7) (nI (q + n + 1 + v))) (va_up (va_up (va_up (va_up g (4 * c9) q) ((4 * c9) + 1) n) ((4 * c9) + 2) (q + n + 1)) ((4 * c9) + 3) v)) (c9 + 1)) (by exfalso; rw [if_neg g3, if_neg (show ¬ 24 < n by omega), if_neg g10, if_neg (not_not_intro g13), if_neg (by rw [i9, g14]; decide), if_neg g17, if_neg (show ¬ 24 < v by omega), if_neg (show ¬ q + n + 1 + v = x.length by omega), if_pos g25] at i1; cases i1) hP hD (Nat.le_of_ble_eq_true rfl) (Nat.le_of_ble_eq_true rfl) d_M_readLabels_311
                        · have g24 := (nI_eq (a := q + n + 1 + v) (b := x.length) (by omega) (by omega)).mp g24
                          refine lv_iconst (v := 1) hx hb d_M_readLabels_291 (by decide) ?_
                          exact rfZ hx hb hr (bI_nar true) hlk hS (MS.s_labelCount (MS.s_labels x (va_up (va_up (va_up (va_up g (4 * c9) q) ((4 * c9) + 1) n) ((4 * c9) + 2) (q + n + 1)) ((4 * c9) + 3) v)) (c9 + 1)) ⟨rfl, by rw [if_neg g3, if_neg (show ¬ 24 < n by omega), if_neg g10, if_neg (not_not_intro g13), if_neg (by rw [i9, g14]; decide), if_neg g17, if_neg (show ¬ 24 < v by omega), if_pos (show q + n + 1 + v = x.length by omega)] at i1; cases i1; rfl⟩ hP hD (Nat.le_of_ble_eq_true rfl) (Nat.le_of_ble_eq_true rfl) d_M_readLabels_292
                      · have g23 := mt (nI_leI (a := v) (b := 24) (by omega) (by omega)).mpr g23
                        refine lv_aload_n hx hb d_M_readLabels_188 rfl (lv_at hl 5 rfl) ?_
                        refine lv_bipush (v := 7) hx hb d_M_readLabels_189 (by decide) ?_
                        refine lv_iload hx hb d_M_readLabels_191 (lv_at hl 1 rfl) ?_
                        refine lv_iload hx hb d_M_readLabels_193 (lv_at hl 0 rfl) ?_
                        refine lv_bipush (v := 24) hx hb d_M_readLabels_195 (by decide) ?_
                        refine lv_icmp_le hx hb d_M_readLabels_197 (tgt := 205) rfl (fun h9 => absurd h9 (mt (nI_leI (a := v) (b := 24) (by omega) (by omega)).mp g23)) (fun _ => ?_)
                        refine lv_bipush (v := 24) hx hb d_M_readLabels_200 (by decide) ?_
                        refine lv_goto hx hb d_M_readLabels_202 (tgt := 206) rfl ?_
                        refine lv_iadd hx hb d_M_readLabels_206 (tpi (y := nI (q + n + 1 + 24)) (nI_add (q + n + 1) (24)) ?_)
                        refine jfI (rnV (As := [.int 7, .int (nI (q + n + 1 + 24))]) (rest := []) hx hb hml hown hE hK (hN _ _ hS) hP hD (k_flaw_0 l D dA H.size h ad (MS.s_labelCount (MS.s_labels x g) c9) 7 (nI (q + n + 1 + 24)) hf) (q0 := 0) rfl rfl w431 w430 w432 w433 w328 rfl rfl ⟨⟨by decide, by decide⟩, rfl⟩ ⟨(Nat.le_of_ble_eq_true rfl), (Nat.le_of_ble_eq_true rfl)⟩ rfl hl.1 rfl (Nat.le_of_ble_eq_true rfl) d_M_readLabels_207 ⟨(Nat.le_of_ble_eq_true rfl), (Nat.le_of_ble_eq_true rfl)⟩) hP hD hS hA (fun r28 u29 H locs hp9 hP hD hS => ?_)
                        have hP : va_P D vwCl (MW dA h ad (MS.s_labelCount (MS.s_labels (MS.s_faultPlace (MS.s_faultCode x 7) (nI (q + n + 1 + 24))) g) c9)) H := hP
                        have hD : va_D A (MW dA h ad (MS.s_labelCount (MS.s_labels (MS.s_faultPlace (MS.s_faultCode x 7) (nI (q + n + 1 + 24))) g) c9)) := hD
                        replace hp9 : bI false = r28 := Eq.symm hp9
                        subst hp9
                        exact rfZ hx hb hr (bI_nar false) hlk hS (MS.s_labelCount (MS.s_labels (MS.s_faultPlace (MS.s_faultCode x 7) (nI (q + n + 1 + 24))) g) c9) (by exfalso; rw [if_neg g3, if_neg (show ¬ 24 < n by omega), if_neg g10, if_neg (not_not_intro g13), if_neg (by rw [i9, g14]; decide), if_neg g17, if_pos (show 24 < v by omega)] at i1; cases i1) hP hD (Nat.le_of_ble_eq_true rfl) (Nat.le_of_ble_eq_true rfl) d_M_readLabels_210
                  · have g14 := bI_n0 g14
                    refine lv_aload_n hx hb d_M_readLabels_153 rfl (lv_at hl 3 rfl) ?_
                    refine lv_bipush (v := 8) hx hb d_M_readLabels_154 (by decide) ?_
                    refine lv_iload_n hx hb d_M_readLabels_156 rfl (lv_at hl 2 rfl) ?_
                    refine jfI (rnV (As := [.int 8, .int (nI q)]) (rest := []) hx hb hml hown hE hK (hN _ _ hS) hP hD (k_flaw_0 l D dA H.size h ad (MS.s_labelCount (MS.s_labels x g) c9) 8 (nI q) hf) (q0 := 0) rfl rfl w431 w430 w432 w433 w328 rfl rfl ⟨⟨by decide, by decide⟩, rfl⟩ ⟨(Nat.le_of_ble_eq_true rfl), (Nat.le_of_ble_eq_true rfl)⟩ rfl hl.1 rfl (Nat.le_of_ble_eq_true rfl) d_M_readLabels_157 ⟨(Nat.le_of_ble_eq_true rfl), (Nat.le_of_ble_eq_true rfl)⟩) hP hD hS hA (fun r30 u31 H locs hp9 hP hD hS => ?_)
                    have hP : va_P D vwCl (MW dA h ad (MS.s_labelCount (MS.s_labels (MS.s_faultPlace (MS.s_faultCode x 8) (nI q)) g) c9)) H := hP
                    have hD : va_D A (MW dA h ad (MS.s_labelCount (MS.s_labels (MS.s_faultPlace (MS.s_faultCode x 8) (nI q)) g) c9)) := hD
                    replace hp9 : bI false = r30 := Eq.symm hp9
                    subst hp9
                    exact rfZ hx hb hr (bI_nar false) hlk hS (MS.s_labelCount (MS.s_labels (MS.s_faultPlace (MS.s_faultCode x 8) (nI q)) g) c9) (by exfalso; rw [if_neg g3, if_neg (show ¬ 24 < n by omega), if_neg g10, if_neg (not_not_intro g13), if_pos (i9.trans g14)] at i1; cases i1) hP hD (Nat.le_of_ble_eq_true rfl) (Nat.le_of_ble_eq_true rfl) d_M_readLabels_160
                refine lv_iconst (v := 0) hx hb d_M_readLabels_92 (by decide) ?_
                refine lv_istore hx hb d_M_readLabels_93 hl (by decide) rfl (fun ls hl => ?_)
                have hl : lv_has ls 6 [(4, .int 0), (3, .int (bI tw)), (2, .int (nI n)), (1, .int (nI q)), (0, .ref h)] := hl
                have L95 : ∀ (k9 : Nat) (k : Nat) (tw : Bool) (i8 : k ≤ c9) (i7 : (decide (c9 = 6) || anyB k (twB x.tape g q n)) = tw) (hk9 : c9 - k = k9), ∀ (H : Heap) (locs : List Loc) (ls : Array Slot) (hP : va_P D vwCl (MW dA h ad (MS.s_labelCount (MS.s_labels x g) c9)) H) (hD : va_D A (MW dA h ad (MS.s_labelCount (MS.s_labels x g) c9))) (hS : va_S A s.heap H locs) (hl : lv_has ls 6 [(4, .int (nI k)), (3, .int (bI tw)), (2, .int (nI n)), (1, .int (nI q)), (0, .ref h)]), W p l e ({ frames := 3, cells := 0, slots := 0, locals := 42 } : Room) s m ([.ref h] : List Value).toArray below meth c H locs 0 0 (MQ below (va_Qi (fun (r9 : Int32) (u9 : MS) => r9 = bI true ∧ u9 = (x.s_labels g0).s_labelCount c0) (fun (u9 : MS) t9 => bW D A (MW dA h ad u9) t9) A) ([.ref h] : List Value).toArray s 0 0 A) (F0 m 95 ls []) := by
                  intro k9
                  induction k9 using Nat.strongRecOn with
                  | ind k9 ih95 =>
                    intro k tw i8 i7 hk9 H locs ls hP hD hS hl
                    refine lv_iload hx hb d_M_readLabels_95 (lv_at hl 0 rfl) ?_
                    refine lv_aload_n hx hb d_M_readLabels_97 rfl (lv_at hl 4 rfl) ?_
                    refine gF (v := .int (nI c9)) hx hb hown hE hK hP 0 rfl rfl layM 43 (by decide) w425 rfl d_M_readLabels_98 ?_
                    refine lv_icmp_ge hx hb d_M_readLabels_101 (tgt := 149) rfl (fun g32 => ?_) (fun g32 => ?_)
                    · have g32 := (nI_leI (a := c9) (b := k) (by omega) (by omega)).mp g32
                      exact J149 tw (by rw [show k = c9 by omega] at i7; exact i7) H _ ls hP hD hS (lv_sub hl [1, 2, 3, 4] rfl)
                    · have g32 := mt (nI_leI (a := c9) (b := k) (by omega) (by omega)).mpr g32
                      refine lv_iload_n hx hb d_M_readLabels_104 rfl (lv_at hl 1 rfl) ?_
                      refine lv_if_ne hx hb d_M_readLabels_105 (tgt := 137) rfl (fun g33 => ?_) (fun g33 => ?_)
                      · have g33 := bI_n0 g33
                        refine lv_iconst (v := 1) hx hb d_M_readLabels_137 (by decide) ?_
                        refine lv_goto hx hb d_M_readLabels_138 (tgt := 142) rfl ?_
                        refine lv_istore_n hx hb d_M_readLabels_142 rfl hl (by decide) rfl (fun ls hl => ?_)
                        have hl : lv_has ls 6 [(3, .int 1), (4, .int (nI k)), (2, .int (nI n)), (1, .int (nI q)), (0, .ref h)] := hl
                        refine lv_iinc (k := 1) (v := nI (k + 1)) hx hb d_M_readLabels_143 hl rfl (iincN (k) 1 1 (by decide)) (by decide) rfl (fun ls hl => ?_)
                        have hl : lv_has ls 6 [(4, .int (nI (k + 1))), (3, .int 1), (2, .int (nI n)), (1, .int (nI q)), (0, .ref h)] := hl
                        refine lv_goto hx hb d_M_readLabels_146 (tgt := 95) rfl ?_
                        exact ih95 _ (by omega) (k + 1) true (by omega) (by rw [anyB_s, ← Bool.or_assoc, i7, g33]; rfl) rfl H _ ls hP hD hS (lv_sub hl [0, 1, 2, 3, 4] rfl)
                      · have g33 := bI_0 g33
                        refine lv_aload_n hx hb d_M_readLabels_108 rfl (lv_at hl 4 rfl) ?_
                        refine lv_aload_n hx hb d_M_readLabels_109 rfl (lv_at hl 4 rfl) ?_
                        refine gF (v := .ref (ad 42)) hx hb hown hE hK hP 0 rfl rfl layM 42 (by decide) w517 rfl d_M_readLabels_110 ?_
                        refine lv_iconst (v := 4) hx hb d_M_readLabels_113 (by decide) ?_
                        refine lv_iload hx hb d_M_readLabels_114 (lv_at hl 0 rfl) ?_
                        refine lv_imul hx hb d_M_readLabels_116 (tpi (y := nI (4 * k)) (pk_mul (4) (k)) ?_)
                        refine nild (f := (fun z9 => nI (g z9))) hx hb hK hP 20 1 rfl rfl (4 * k) (by omega) (by decide) d_M_readLabels_117 ?_
                        refine lv_aload_n hx hb d_M_readLabels_118 rfl (lv_at hl 4 rfl) ?_
                        refine gF (v := .ref (ad 42)) hx hb hown hE hK hP 0 rfl rfl layM 42 (by decide) w517 rfl d_M_readLabels_119 ?_
                        refine lv_iconst (v := 4) hx hb d_M_readLabels_122 (by decide) ?_
                        refine lv_iload hx hb d_M_readLabels_123 (lv_at hl 0 rfl) ?_
                        refine lv_imul hx hb d_M_readLabels_125 (tpi (y := nI (4 * k)) (pk_mul (4) (k)) ?_)
                        refine lv_iconst (v := 1) hx hb d_M_readLabels_126 (by decide) ?_
                        refine lv_iadd hx hb d_M_readLabels_127 (tpi (y := nI ((4 * k) + 1)) (nI_add (4 * k) (1)) ?_)
                        refine nild (f := (fun z9 => nI (g z9))) hx hb hK hP 20 1 rfl rfl ((4 * k) + 1) (by omega) (by decide) d_M_readLabels_128 ?_
                        refine lv_iload_n hx hb d_M_readLabels_129 rfl (lv_at hl 3 rfl) ?_
                        refine lv_iload_n hx hb d_M_readLabels_130 rfl (lv_at hl 2 rfl) ?_
                        refine jfI (rnV (As := [.int (nI (g (4 * k))), .int (nI (g ((4 * k) + 1))), .int (nI q), .int (nI n)]) (rest := []) hx hb hml hown hE hK (hN _ _ hS) hP hD (k_compare l D dA H.size h ad (MS.s_labelCount (MS.s_labels x g) c9) (g (4 * k)) (g ((4 * k) + 1)) q n (by have := i4 k (by omega); omega) (show q + n ≤ 65536 from by omega)) (q0 := 0) rfl rfl w939 w938 w940 w941 w328 rfl rfl ⟨⟨by decide, by decide⟩, rfl⟩ ⟨(Nat.le_of_ble_eq_true rfl), (Nat.le_of_ble_eq_true rfl)⟩ rfl hl.1 rfl (Nat.le_of_ble_eq_true rfl) d_M_readLabels_131 ⟨(Nat.le_of_ble_eq_true rfl), (Nat.le_of_ble_eq_true rfl)⟩) hP hD hS hA (fun r34 u35 H locs hp9 hP hD hS => ?_)
                        have hP : va_P D vwCl (MW dA h ad (MS.s_labelCount (MS.s_labels x g) c9)) H := hP
                        have hD : va_D A (MW dA h ad (MS.s_labelCount (MS.s_labels x g) c9)) := hD
                        replace hp9 : cmpT x.tape (g (4 * k)) (g ((4 * k) + 1)) q n = r34 := Eq.symm hp9
                        subst hp9
                        refine lv_if_ne hx hb d_M_readLabels_134 (tgt := 141) rfl (fun g36 => ?_) (fun g36 => ?_)
                        · have g36 := g36
                          refine lv_iconst (v := 0) hx hb d_M_readLabels_141 (by decide) ?_
                          refine lv_istore_n hx hb d_M_readLabels_142 rfl hl (by decide) rfl (fun ls hl => ?_)
                          have hl : lv_has ls 6 [(3, .int 0), (4, .int (nI k)), (2, .int (nI n)), (1, .int (nI q)), (0, .ref h)] := hl
                          refine lv_iinc (k := 1) (v := nI (k + 1)) hx hb d_M_readLabels_143 hl rfl (iincN (k) 1 1 (by decide)) (by decide) rfl (fun ls hl => ?_)
                          have hl : lv_has ls 6 [(4, .int (nI (k + 1))), (3, .int 0), (2, .int (nI n)), (1, .int (nI q)), (0, .ref h)] := hl
                          refine lv_goto hx hb d_M_readLabels_146 (tgt := 95) rfl ?_
                          exact ih95 _ (by omega) (k + 1) false (by omega) (by rw [anyB_s, ← Bool.or_assoc, i7, g33]; show (false || decide _) = false; rw [decide_eq_false g36]; rfl) rfl H _ ls hP hD hS (lv_sub hl [0, 1, 2, 3, 4] rfl)
                        · have g36 := g36
                          refine lv_iconst (v := 1) hx hb d_M_readLabels_137 (by decide) ?_
                          refine lv_goto hx hb d_M_readLabels_138 (tgt := 142) rfl ?_
                          refine lv_istore_n hx hb d_M_readLabels_142 rfl hl (by decide) rfl (fun ls hl => ?_)
                          have hl : lv_has ls 6 [(3, .int 1), (4, .int (nI k)), (2, .int (nI n)), (1, .int (nI q)), (0, .ref h)] := hl
                          refine lv_iinc (k := 1) (v := nI (k + 1)) hx hb d_M_readLabels_143 hl rfl (iincN (k) 1 1 (by decide)) (by decide) rfl (fun ls hl => ?_)
                          have hl : lv_has ls 6 [(4, .int (nI (k + 1))), (3, .int 1), (2, .int (nI n)), (1, .int (nI q)), (0, .ref h)] := hl
                          refine lv_goto hx hb d_M_readLabels_146 (tgt := 95) rfl ?_
                          exact ih95 _ (by omega) (k + 1) true (by omega) (by rw [anyB_s, ← Bool.or_assoc, i7, g33]; show (false || decide _) = true; rw [decide_eq_true g36]; rfl) rfl H _ ls hP hD hS (lv_sub hl [0, 1, 2, 3, 4] rfl)
                exact L95 _ 0 tw (Nat.zero_le _) (by rw [i6]; exact Bool.or_false _) rfl H _ ls hP hD hS (lv_sub hl [0, 1, 2, 3, 4] rfl)
              refine lv_aload_n hx hb d_M_readLabels_77 rfl (lv_at hl 2 rfl) ?_
              refine gF (v := .int (nI c9)) hx hb hown hE hK hP 0 rfl rfl layM 43 (by decide) w425 rfl d_M_readLabels_78 ?_
              refine lv_bipush (v := 6) hx hb d_M_readLabels_81 (by decide) ?_
              refine lv_icmp_ne hx hb d_M_readLabels_83 (tgt := 90) rfl (fun g37 => ?_) (fun g37 => ?_)
              · have g37 := mt (nI_eq (a := c9) (b := 6) (by omega) (by omega)).mpr g37
                refine lv_iconst (v := 0) hx hb d_M_readLabels_90 (by decide) ?_
                exact J91 false (by simp [*]) H _ ls hP hD hS (lv_sub hl [0, 1, 2] rfl)
              · have g37 := (nI_eq (a := c9) (b := 6) (by omega) (by omega)).mp g37
                refine lv_iconst (v := 1) hx hb d_M_readLabels_86 (by decide) ?_
                refine lv_goto hx hb d_M_readLabels_87 (tgt := 91) rfl ?_
                exact J91 true (by simp [*]) H _ ls hP hD hS (lv_sub hl [0, 1, 2] rfl)
            · have g13 := g13
              refine lv_aload_n hx hb d_M_readLabels_67 rfl (lv_at hl 2 rfl) ?_
              refine lv_bipush (v := 7) hx hb d_M_readLabels_68 (by decide) ?_
              refine lv_iload_n hx hb d_M_readLabels_70 rfl (lv_at hl 1 rfl) ?_
              refine lv_iload_n hx hb d_M_readLabels_71 rfl (lv_at hl 0 rfl) ?_
              refine lv_iadd hx hb d_M_readLabels_72 (tpi (y := nI (q + n)) (nI_add (q) (n)) ?_)
              refine jfI (rnV (As := [.int 7, .int (nI (q + n))]) (rest := []) hx hb hml hown hE hK (hN _ _ hS) hP hD (k_flaw_0 l D dA H.size h ad (MS.s_labelCount (MS.s_labels x g) c9) 7 (nI (q + n)) hf) (q0 := 0) rfl rfl w431 w430 w432 w433 w328 rfl rfl ⟨⟨by decide, by decide⟩, rfl⟩ ⟨(Nat.le_of_ble_eq_true rfl), (Nat.le_of_ble_eq_true rfl)⟩ rfl hl.1 rfl (Nat.le_of_ble_eq_true rfl) d_M_readLabels_73 ⟨(Nat.le_of_ble_eq_true rfl), (Nat.le_of_ble_eq_true rfl)⟩) hP hD hS hA (fun r38 u39 H locs hp9 hP hD hS => ?_)
              have hP : va_P D vwCl (MW dA h ad (MS.s_labelCount (MS.s_labels (MS.s_faultPlace (MS.s_faultCode x 7) (nI (q + n))) g) c9)) H := hP
              have hD : va_D A (MW dA h ad (MS.s_labelCount (MS.s_labels (MS.s_faultPlace (MS.s_faultCode x 7) (nI (q + n))) g) c9)) := hD
              replace hp9 : bI false = r38 := Eq.symm hp9
              subst hp9
              exact rfZ hx hb hr (bI_nar false) hlk hS (MS.s_labelCount (MS.s_labels (MS.s_faultPlace (MS.s_faultCode x 7) (nI (q + n))) g) c9) (by exfalso; rw [if_neg g3, if_neg (show ¬ 24 < n by omega), if_neg g10, if_pos g13] at i1; cases i1) hP hD (Nat.le_of_ble_eq_true rfl) (Nat.le_of_ble_eq_true rfl) d_M_readLabels_76
        · have g9 := mt (nI_leI (a := n) (b := 24) (by omega) (by omega)).mpr g9
          refine lv_aload_n hx hb d_M_readLabels_23 rfl (lv_at hl 2 rfl) ?_
          refine lv_bipush (v := 7) hx hb d_M_readLabels_24 (by decide) ?_
          refine lv_iload_n hx hb d_M_readLabels_26 rfl (lv_at hl 1 rfl) ?_
          refine lv_iload_n hx hb d_M_readLabels_27 rfl (lv_at hl 0 rfl) ?_
          refine lv_bipush (v := 24) hx hb d_M_readLabels_28 (by decide) ?_
          refine lv_icmp_le hx hb d_M_readLabels_30 (tgt := 38) rfl (fun h9 => absurd h9 (mt (nI_leI (a := n) (b := 24) (by omega) (by omega)).mp g9)) (fun _ => ?_)
          refine lv_bipush (v := 24) hx hb d_M_readLabels_33 (by decide) ?_
          refine lv_goto hx hb d_M_readLabels_35 (tgt := 39) rfl ?_
          refine lv_iadd hx hb d_M_readLabels_39 (tpi (y := nI (q + 24)) (nI_add (q) (24)) ?_)
          refine jfI (rnV (As := [.int 7, .int (nI (q + 24))]) (rest := []) hx hb hml hown hE hK (hN _ _ hS) hP hD (k_flaw_0 l D dA H.size h ad (MS.s_labelCount (MS.s_labels x g) c9) 7 (nI (q + 24)) hf) (q0 := 0) rfl rfl w431 w430 w432 w433 w328 rfl rfl ⟨⟨by decide, by decide⟩, rfl⟩ ⟨(Nat.le_of_ble_eq_true rfl), (Nat.le_of_ble_eq_true rfl)⟩ rfl hl.1 rfl (Nat.le_of_ble_eq_true rfl) d_M_readLabels_40 ⟨(Nat.le_of_ble_eq_true rfl), (Nat.le_of_ble_eq_true rfl)⟩) hP hD hS hA (fun r40 u41 H locs hp9 hP hD hS => ?_)
          have hP : va_P D vwCl (MW dA h ad (MS.s_labelCount (MS.s_labels (MS.s_faultPlace (MS.s_faultCode x 7) (nI (q + 24))) g) c9)) H := hP
          have hD : va_D A (MW dA h ad (MS.s_labelCount (MS.s_labels (MS.s_faultPlace (MS.s_faultCode x 7) (nI (q + 24))) g) c9)) := hD
          replace hp9 : bI false = r40 := Eq.symm hp9
          subst hp9
          exact rfZ hx hb hr (bI_nar false) hlk hS (MS.s_labelCount (MS.s_labels (MS.s_faultPlace (MS.s_faultCode x 7) (nI (q + 24))) g) c9) (by exfalso; rw [if_neg g3, if_pos (show 24 < n by omega)] at i1; cases i1) hP hD (Nat.le_of_ble_eq_true rfl) (Nat.le_of_ble_eq_true rfl) d_M_readLabels_43
  exact L7 _ 7 0 0 x.labels hrd rfl (by decide) (Nat.zero_le _) (fun k hk => absurd hk (Nat.not_lt_zero k)) rfl H _ ls hP hD hS (lv_sub hl [0, 1] rfl)
set_option maxHeartbeats 4000000 in
set_option maxRecDepth 100000 in
theorem k_readLabels_x (l : Launch) (D : va_G) (dA : Nat → ClassId) (sz : Nat) (h : Nat) (ad : Nat → Nat) (x : MS) (kf : Int32) (pf : Nat) (hl1 : x.length ≤ 65536) (hf : x.faultCode = 0) (hrd : rdM x.tape x.length 7 0 0 x.labels = .inl (kf, pf)) : Met l ⟨"SeriesVaultModel", "readLabels", "()Z"⟩ [Cond.code ⟨"SeriesVaultModel", "readLabels", "()Z"⟩ prog_14_method_24_code 6 (some FieldType.boolean)] { frames := 3, cells := 0, slots := 0, locals := 42 } (pC D dA [.ref h] (MW dA h ad x) sz) (va_Qi (fun (r9 : Int32) (u9 : MS) => r9 = bI false ∧ ∃ (a1 : Nat → Nat) (a2 : Nat), u9 = (((x.s_faultCode kf).s_faultPlace (nI pf)).s_labels a1).s_labelCount a2) (fun (u9 : MS) t9 => bW D (va_A (MW dA h ad x) sz) (MW dA h ad u9) t9) (va_A (MW dA h ad x) sz)) 0 0 (va_A (MW dA h ad x) sz) := by
  refine mkC (y := ⟨"SeriesVaultModel", "readLabels", "()Z"⟩) (cc := prog_14_method_24_code) (maxL := 6) (av := [.ref h]) (ws := MW dA h ad x) (sz := sz) (Qc := fun A => va_Qi (fun (r9 : Int32) (u9 : MS) => r9 = bI false ∧ ∃ (a1 : Nat → Nat) (a2 : Nat), u9 = (((x.s_faultCode kf).s_faultPlace (nI pf)).s_labels a1).s_labelCount a2) (fun (u9 : MS) t9 => bW D A (MW dA h ad u9) t9) A) (by decide) (Nat.le_of_ble_eq_true rfl) ?_
  intro A p e s m below meth c ls hsz hB
  obtain ⟨hx, hb, hr, hml, hown, hin, hlk, hE, hK, hP, hD, hS, hA, hN, hl⟩ := hB
  have hown : s.vm.findClass "SeriesVaultModel" = some m.cls := hown
  have hl : lv_has ls 6 [(0, .ref h)] := hl
  obtain ⟨H, hH⟩ : ∃ z, z = s.heap := ⟨_, rfl⟩
  have hP : va_P D vwCl (MW dA h ad x) H := by rw [hH]; exact hP
  have hS : va_S A s.heap H [] := by rw [hH]; exact hS
  rw [← hH]
  refine lv_aload_n hx hb d_M_readLabels_0 rfl (lv_at hl 0 rfl) ?_
  refine lv_iconst (v := 0) hx hb d_M_readLabels_1 (by decide) ?_
  refine pF (v := .int (nI 0)) hx hb hown hE hK hP hD hS 0 rfl rfl layM tyM tokM nmM 43 (by decide) w425 rfl rfl rfl (Nat.le_of_ble_eq_true rfl) d_M_readLabels_2 (fun H locs hP hD hS => ?_)
  have hP : va_P D vwCl (MW dA h ad (MS.s_labelCount x 0)) H := hP
  have hD : va_D A (MW dA h ad (MS.s_labelCount x 0)) := hD
  refine lv_iconst (v := 0) hx hb d_M_readLabels_5 (by decide) ?_
  refine lv_istore_n hx hb d_M_readLabels_6 rfl hl (by decide) rfl (fun ls hl => ?_)
  have hl : lv_has ls 6 [(1, .int 0), (0, .ref h)] := hl
  have L7 : ∀ (k9 : Nat) (w : Nat) (q : Nat) (c9 : Nat) (g : Nat → Nat) (i1 : rdM x.tape x.length w q c9 g = .inl (kf, pf)) (i2 : c9 + w = 7) (i5 : c9 ≤ 6) (i3 : q ≤ x.length) (i4 : ∀ k, k < c9 → g (4 * k) + g (4 * k + 1) ≤ x.length) (hk9 : w = k9), ∀ (H : Heap) (locs : List Loc) (ls : Array Slot) (hP : va_P D vwCl (MW dA h ad (MS.s_labelCount (MS.s_labels x g) c9)) H) (hD : va_D A (MW dA h ad (MS.s_labelCount (MS.s_labels x g) c9))) (hS : va_S A s.heap H locs) (hl : lv_has ls 6 [(1, .int (nI q)), (0, .ref h)]), W p l e ({ frames := 3, cells := 0, slots := 0, locals := 42 } : Room) s m ([.ref h] : List Value).toArray below meth c H locs 0 0 (MQ below (va_Qi (fun (r9 : Int32) (u9 : MS) => r9 = bI false ∧ ∃ (a1 : Nat → Nat) (a2 : Nat), u9 = (((x.s_faultCode kf).s_faultPlace (nI pf)).s_labels a1).s_labelCount a2) (fun (u9 : MS) t9 => bW D A (MW dA h ad u9) t9) A) ([.ref h] : List Value).toArray s 0 0 A) (F0 m 7 ls []) := by
    intro k9
    induction k9 using Nat.strongRecOn with
    | ind k9 ih7 =>
      intro w q c9 g i1 i2 i5 i3 i4 hk9 H locs ls hP hD hS hl
      obtain ⟨n, hn⟩ : ∃ n, wlen x.tape x.length 25 q = n := ⟨_, rfl⟩
      obtain ⟨v, hv⟩ : ∃ v, wlen x.tape x.length 25 (q + n + 1) = v := ⟨_, rfl⟩
      have n1 : n ≤ 25 := by rw [← hn]; exact wlen_le _ _ _ _
      have n2 : q + n ≤ x.length := by rw [← hn]; exact wlen_in i3
      have v1 : v ≤ 25 := by rw [← hv]; exact wlen_le _ _ _ _
      have v2 : q + n + 1 ≤ x.length → q + n + 1 + v ≤ x.length := fun z => by rw [← hv]; exact wlen_in z
      obtain ⟨w, rfl⟩ : ∃ z, w = z + 1 := ⟨w - 1, by omega⟩
      rw [rdM_s hn hv] at i1
      refine lv_aload_n hx hb d_M_readLabels_7 rfl (lv_at hl 1 rfl) ?_
      refine lv_iload_n hx hb d_M_readLabels_8 rfl (lv_at hl 0 rfl) ?_
      refine jfI (rnV (As := [.int (nI q)]) (rest := []) hx hb hml hown hE hK (hN _ _ hS) hP hD (k_wordLength l D dA H.size h ad (MS.s_labelCount (MS.s_labels x g) c9) q (show q ≤ 131072 from by omega) (show x.length ≤ 65536 from by omega)) (q0 := 0) rfl rfl w427 w426 w428 w429 w328 rfl rfl ⟨⟨by decide, by decide⟩, rfl⟩ ⟨(Nat.le_of_ble_eq_true rfl), (Nat.le_of_ble_eq_true rfl)⟩ rfl hl.1 rfl (Nat.le_of_ble_eq_true rfl) d_M_readLabels_9 ⟨(Nat.le_of_ble_eq_true rfl), (Nat.le_of_ble_eq_true rfl)⟩) hP hD hS hA (fun r1 u2 H locs hp9 hP hD hS => ?_)
      have hP : va_P D vwCl (MW dA h ad (MS.s_labelCount (MS.s_labels x g) c9)) H := hP
      have hD : va_D A (MW dA h ad (MS.s_labelCount (MS.s_labels x g) c9)) := hD
      replace hp9 : nI (wlen x.tape x.length 25 q) = r1 := Eq.symm hp9
      subst hp9
      refine tpi (y := nI n) (congrArg nI hn) ?_
      refine lv_istore_n hx hb d_M_readLabels_12 rfl hl (by decide) rfl (fun ls hl => ?_)
      have hl : lv_has ls 6 [(2, .int (nI n)), (1, .int (nI q)), (0, .ref h)] := hl
      refine lv_iload_n hx hb d_M_readLabels_13 rfl (lv_at hl 0 rfl) ?_
      refine lv_if_eq hx hb d_M_readLabels_14 (tgt := 23) rfl (fun g3 => ?_) (fun g3 => ?_)
      · have g3 := (nI_eq (a := n) (b := 0) (by omega) (by decide)).mp g3
        refine lv_aload_n hx hb d_M_readLabels_23 rfl (lv_at hl 2 rfl) ?_
        refine lv_bipush (v := 7) hx hb d_M_readLabels_24 (by decide) ?_
        refine lv_iload_n hx hb d_M_readLabels_26 rfl (lv_at hl 1 rfl) ?_
        refine lv_iload_n hx hb d_M_readLabels_27 rfl (lv_at hl 0 rfl) ?_
        refine lv_bipush (v := 24) hx hb d_M_readLabels_28 (by decide) ?_
        refine lv_icmp_le hx hb d_M_readLabels_30 (tgt := 38) rfl (fun g4 => ?_) (fun g4 => ?_)
        · have g4 := (nI_leI (a := n) (b := 24) (by omega) (by omega)).mp g4
          refine lv_iconst (v := 0) hx hb d_M_readLabels_38 (by decide) ?_
          refine lv_iadd hx hb d_M_readLabels_39 (tpi (y := nI (q)) (nI_add (q) (0)) ?_)
          refine jfI (rnV (As := [.int 7, .int (nI (q))]) (rest := []) hx hb hml hown hE hK (hN _ _ hS) hP hD (k_flaw_0 l D dA H.size h ad (MS.s_labelCount (MS.s_labels x g) c9) 7 (nI (q)) hf) (q0 := 0) rfl rfl w431 w430 w432 w433 w328 rfl rfl ⟨⟨by decide, by decide⟩, rfl⟩ ⟨(Nat.le_of_ble_eq_true rfl), (Nat.le_of_ble_eq_true rfl)⟩ rfl hl.1 rfl (Nat.le_of_ble_eq_true rfl) d_M_readLabels_40 ⟨(Nat.le_of_ble_eq_true rfl), (Nat.le_of_ble_eq_true rfl)⟩) hP hD hS hA (fun r5 u6 H locs hp9 hP hD hS => ?_)
          have hP : va_P D vwCl (MW dA h ad (MS.s_labelCount (MS.s_labels (MS.s_faultPlace (MS.s_faultCode x 7) (nI (q))) g) c9)) H := hP
          have hD : va_D A (MW dA h ad (MS.s_labelCount (MS.s_labels (MS.s_faultPlace (MS.s_faultCode x 7) (nI (q))) g) c9)) := hD
          replace hp9 : bI false = r5 := Eq.symm hp9
          subst hp9
          exact rfZ hx hb hr (bI_nar false) hlk hS (MS.s_labelCount (MS.s_labels (MS.s_faultPlace (MS.s_faultCode x 7) (nI (q))) g) c9) ⟨rfl, by rw [if_pos g3] at i1; cases i1; exact ⟨_, _, rfl⟩⟩ hP hD (Nat.le_of_ble_eq_true rfl) (Nat.le_of_ble_eq_true rfl) d_M_readLabels_43
        · have g4 := mt (nI_leI (a := n) (b := 24) (by omega) (by omega)).mpr g4
          refine lv_bipush (v := 24) hx hb d_M_readLabels_33 (by decide) ?_
          refine lv_goto hx hb d_M_readLabels_35 (tgt := 39) rfl ?_
          refine lv_iadd hx hb d_M_readLabels_39 (tpi (y := nI (q + 24)) (nI_add (q) (24)) ?_)
          refine jfI (rnV (As := [.int 7, .int (nI (q + 24))]) (rest := []) hx hb hml hown hE hK (hN _ _ hS) hP hD (k_flaw_0 l D dA H.size h ad (MS.s_labelCount (MS.s_labels x g) c9) 7 (nI (q + 24)) hf) (q0 := 0) rfl rfl w431 w430 w432 w433 w328 rfl rfl ⟨⟨by decide, by decide⟩, rfl⟩ ⟨(Nat.le_of_ble_eq_true rfl), (Nat.le_of_ble_eq_true rfl)⟩ rfl hl.1 rfl (Nat.le_of_ble_eq_true rfl) d_M_readLabels_40 ⟨(Nat.le_of_ble_eq_true rfl), (Nat.le_of_ble_eq_true rfl)⟩) hP hD hS hA (fun r7 u8 H locs hp9 hP hD hS => ?_)
          have hP : va_P D vwCl (MW dA h ad (MS.s_labelCount (MS.s_labels (MS.s_faultPlace (MS.s_faultCode x 7) (nI (q + 24))) g) c9)) H := hP
          have hD : va_D A (MW dA h ad (MS.s_labelCount (MS.s_labels (MS.s_faultPlace (MS.s_faultCode x 7) (nI (q + 24))) g) c9)) := hD
          replace hp9 : bI false = r7 := Eq.symm hp9
          subst hp9
          exact rfZ hx hb hr (bI_nar false) hlk hS (MS.s_labelCount (MS.s_labels (MS.s_faultPlace (MS.s_faultCode x 7) (nI (q + 24))) g) c9) (by exfalso; omega) hP hD (Nat.le_of_ble_eq_true rfl) (Nat.le_of_ble_eq_true rfl) d_M_readLabels_43
      · have g3 := mt (nI_eq (a := n) (b := 0) (by omega) (by decide)).mpr g3
        refine lv_iload_n hx hb d_M_readLabels_17 rfl (lv_at hl 0 rfl) ?_
        refine lv_bipush (v := 24) hx hb d_M_readLabels_18 (by decide) ?_
        refine lv_icmp_le hx hb d_M_readLabels_20 (tgt := 44) rfl (fun g9 => ?_) (fun g9 => ?_)
        · have g9 := (nI_leI (a := n) (b := 24) (by omega) (by omega)).mp g9
          refine lv_iload_n hx hb d_M_readLabels_44 rfl (lv_at hl 1 rfl) ?_
          refine lv_iload_n hx hb d_M_readLabels_45 rfl (lv_at hl 0 rfl) ?_
          refine lv_iadd hx hb d_M_readLabels_46 (tpi (y := nI (q + n)) (nI_add (q) (n)) ?_)
          refine lv_aload_n hx hb d_M_readLabels_47 rfl (lv_at hl 2 rfl) ?_
          refine gF (v := .int (nI x.length)) hx hb hown hE hK hP 0 rfl rfl layM 2 (by decide) w320 rfl d_M_readLabels_48 ?_
          refine lv_icmp_ge hx hb d_M_readLabels_51 (tgt := 67) rfl (fun g10 => ?_) (fun g10 => ?_)
          · have g10 := (nI_leI (a := x.length) (b := q + n) (by omega) (by omega)).mp g10
            refine lv_aload_n hx hb d_M_readLabels_67 rfl (lv_at hl 2 rfl) ?_
            refine lv_bipush (v := 7) hx hb d_M_readLabels_68 (by decide) ?_
            refine lv_iload_n hx hb d_M_readLabels_70 rfl (lv_at hl 1 rfl) ?_
            refine lv_iload_n hx hb d_M_readLabels_71 rfl (lv_at hl 0 rfl) ?_
            refine lv_iadd hx hb d_M_readLabels_72 (tpi (y := nI (q + n)) (nI_add (q) (n)) ?_)
            refine jfI (rnV (As := [.int 7, .int (nI (q + n))]) (rest := []) hx hb hml hown hE hK (hN _ _ hS) hP hD (k_flaw_0 l D dA H.size h ad (MS.s_labelCount (MS.s_labels x g) c9) 7 (nI (q + n)) hf) (q0 := 0) rfl rfl w431 w430 w432 w433 w328 rfl rfl ⟨⟨by decide, by decide⟩, rfl⟩ ⟨(Nat.le_of_ble_eq_true rfl), (Nat.le_of_ble_eq_true rfl)⟩ rfl hl.1 rfl (Nat.le_of_ble_eq_true rfl) d_M_readLabels_73 ⟨(Nat.le_of_ble_eq_true rfl), (Nat.le_of_ble_eq_true rfl)⟩) hP hD hS hA (fun r11 u12 H locs hp9 hP hD hS => ?_)
            have hP : va_P D vwCl (MW dA h ad (MS.s_labelCount (MS.s_labels (MS.s_faultPlace (MS.s_faultCode x 7) (nI (q + n))) g) c9)) H := hP
            have hD : va_D A (MW dA h ad (MS.s_labelCount (MS.s_labels (MS.s_faultPlace (MS.s_faultCode x 7) (nI (q + n))) g) c9)) := hD
            replace hp9 : bI false = r11 := Eq.symm hp9
            subst hp9
            exact rfZ hx hb hr (bI_nar false) hlk hS (MS.s_labelCount (MS.s_labels (MS.s_faultPlace (MS.s_faultCode x 7) (nI (q + n))) g) c9) ⟨rfl, by rw [if_neg g3, if_neg (show ¬ 24 < n by omega), if_pos g10] at i1; cases i1; exact ⟨_, _, rfl⟩⟩ hP hD (Nat.le_of_ble_eq_true rfl) (Nat.le_of_ble_eq_true rfl) d_M_readLabels_76
          · have g10 := mt (nI_leI (a := x.length) (b := q + n) (by omega) (by omega)).mpr g10
            refine lv_aload_n hx hb d_M_readLabels_54 rfl (lv_at hl 2 rfl) ?_
            refine gF (v := .ref (ad 1)) hx hb hown hE hK hP 0 rfl rfl layM 1 (by decide) w497 rfl d_M_readLabels_55 ?_
            refine lv_iload_n hx hb d_M_readLabels_58 rfl (lv_at hl 1 rfl) ?_
            refine lv_iload_n hx hb d_M_readLabels_59 rfl (lv_at hl 0 rfl) ?_
            refine lv_iadd hx hb d_M_readLabels_60 (tpi (y := nI (q + n)) (nI_add (q) (n)) ?_)
            refine nbld (f := x.tape) hx hb hK hP 1 0 rfl rfl (q + n) (by omega) (by decide) d_M_readLabels_61 ?_
            refine lv_bipush (v := 61) hx hb d_M_readLabels_62 (by decide) ?_
            refine lv_icmp_eq hx hb d_M_readLabels_64 (tgt := 77) rfl (fun g13 => ?_) (fun g13 => ?_)
            · have g13 := g13
              have J91 : ∀ (tw : Bool) (i6 : decide (c9 = 6) = tw), ∀ (H : Heap) (locs : List Loc) (ls : Array Slot) (hP : va_P D vwCl (MW dA h ad (MS.s_labelCount (MS.s_labels x g) c9)) H) (hD : va_D A (MW dA h ad (MS.s_labelCount (MS.s_labels x g) c9))) (hS : va_S A s.heap H locs) (hl : lv_has ls 6 [(2, .int (nI n)), (1, .int (nI q)), (0, .ref h)]), W p l e ({ frames := 3, cells := 0, slots := 0, locals := 42 } : Room) s m ([.ref h] : List Value).toArray below meth c H locs 0 0 (MQ below (va_Qi (fun (r9 : Int32) (u9 : MS) => r9 = bI false ∧ ∃ (a1 : Nat → Nat) (a2 : Nat), u9 = (((x.s_faultCode kf).s_faultPlace (nI pf)).s_labels a1).s_labelCount a2) (fun (u9 : MS) t9 => bW D A (MW dA h ad u9) t9) A) ([.ref h] : List Value).toArray s 0 0 A) (F0 m 91 ls [.int (bI tw)]) := by
                intro tw i6 H locs ls hP hD hS hl
                refine lv_istore_n hx hb d_M_readLabels_91 rfl hl (by decide) rfl (fun ls hl => ?_)
                have hl : lv_has ls 6 [(3, .int (bI tw)), (2, .int (nI n)), (1, .int (nI q)), (0, .ref h)] := hl
                have J149 : ∀ (tw : Bool) (i9 : (decide (c9 = 6) || anyB c9 (fun z => decide (cmpT x.tape (g (4 * z)) (g (4 * z + 1)) q n = 0))) = tw), ∀ (H : Heap) (locs : List Loc) (ls : Array Slot) (hP : va_P D vwCl (MW dA h ad (MS.s_labelCount (MS.s_labels x g) c9)) H) (hD : va_D A (MW dA h ad (MS.s_labelCount (MS.s_labels x g) c9))) (hS : va_S A s.heap H locs) (hl : lv_has ls 6 [(3, .int (bI tw)), (2, .int (nI n)), (1, .int (nI q)), (0, .ref h)]), W p l e ({ frames := 3, cells := 0, slots := 0, locals := 42 } : Room) s m ([.ref h] : List Value).toArray below meth c H locs 0 0 (MQ below (va_Qi (fun (r9 : Int32) (u9 : MS) => r9 = bI false ∧ ∃ (a1 : Nat → Nat) (a2 : Nat), u9 = (((x.s_faultCode kf).s_faultPlace (nI pf)).s_labels a1).s_labelCount a2) (fun (u9 : MS) t9 => bW D A (MW dA h ad u9) t9) A) ([.ref h] : List Value).toArray s 0 0 A) (F0 m 149 ls []) := by
                  intro tw i9 H locs ls hP hD hS hl
                  refine lv_iload_n hx hb d_M_readLabels_149 rfl (lv_at hl 0 rfl) ?_
                  refine lv_if_eq hx hb d_M_readLabels_150 (tgt := 161) rfl (fun g14 => ?_) (fun g14 => ?_)
                  · have g14 := bI_0 g14
                    have c6 : ¬ c9 = 6 := fun z => by rw [decide_eq_true z, Bool.true_or, g14] at i9; cases i9
                    refine lv_iload_n hx hb d_M_readLabels_161 rfl (lv_at hl 2 rfl) ?_
                    refine lv_iload_n hx hb d_M_readLabels_162 rfl (lv_at hl 1 rfl) ?_
                    refine lv_iadd hx hb d_M_readLabels_163 (tpi (y := nI (q + n)) (nI_add (q) (n)) ?_)
                    refine lv_iconst (v := 1) hx hb d_M_readLabels_164 (by decide) ?_
                    refine lv_iadd hx hb d_M_readLabels_165 (tpi (y := nI (q + n + 1)) (nI_add (q + n) (1)) ?_)
                    refine lv_istore hx hb d_M_readLabels_166 hl (by decide) rfl (fun ls hl => ?_)
                    have hl : lv_has ls 6 [(4, .int (nI (q + n + 1))), (3, .int (bI tw)), (2, .int (nI n)), (1, .int (nI q)), (0, .ref h)] := hl
                    refine lv_aload_n hx hb d_M_readLabels_168 rfl (lv_at hl 4 rfl) ?_
                    refine lv_iload hx hb d_M_readLabels_169 (lv_at hl 0 rfl) ?_
                    refine jfI (rnV (As := [.int (nI (q + n + 1))]) (rest := []) hx hb hml hown hE hK (hN _ _ hS) hP hD (k_wordLength l D dA H.size h ad (MS.s_labelCount (MS.s_labels x g) c9) (q + n + 1) (show (q + n + 1) ≤ 131072 from by omega) (show x.length ≤ 65536 from by omega)) (q0 := 0) rfl rfl w427 w426 w428 w429 w328 rfl rfl ⟨⟨by decide, by decide⟩, rfl⟩ ⟨(Nat.le_of_ble_eq_true rfl), (Nat.le_of_ble_eq_true rfl)⟩ rfl hl.1 rfl (Nat.le_of_ble_eq_true rfl) d_M_readLabels_171 ⟨(Nat.le_of_ble_eq_true rfl), (Nat.le_of_ble_eq_true rfl)⟩) hP hD hS hA (fun r15 u16 H locs hp9 hP hD hS => ?_)
                    have hP : va_P D vwCl (MW dA h ad (MS.s_labelCount (MS.s_labels x g) c9)) H := hP
                    have hD : va_D A (MW dA h ad (MS.s_labelCount (MS.s_labels x g) c9)) := hD
                    replace hp9 : nI (wlen x.tape x.length 25 (q + n + 1)) = r15 := Eq.symm hp9
                    subst hp9
                    refine tpi (y := nI v) (congrArg nI hv) ?_
                    refine lv_istore hx hb d_M_readLabels_174 hl (by decide) rfl (fun ls hl => ?_)
                    have hl : lv_has ls 6 [(5, .int (nI v)), (4, .int (nI (q + n + 1))), (3, .int (bI tw)), (2, .int (nI n)), (1, .int (nI q)), (0, .ref h)] := hl
                    refine lv_iload hx hb d_M_readLabels_176 (lv_at hl 0 rfl) ?_
                    refine lv_if_eq hx hb d_M_readLabels_178 (tgt := 188) rfl (fun g17 => ?_) (fun g17 => ?_)
                    · have g17 := (nI_eq (a := v) (b := 0) (by omega) (by decide)).mp g17
                      refine lv_aload_n hx hb d_M_readLabels_188 rfl (lv_at hl 5 rfl) ?_
                      refine lv_bipush (v := 7) hx hb d_M_readLabels_189 (by decide) ?_
                      refine lv_iload hx hb d_M_readLabels_191 (lv_at hl 1 rfl) ?_
                      refine lv_iload hx hb d_M_readLabels_193 (lv_at hl 0 rfl) ?_
                      refine lv_bipush (v := 24) hx hb d_M_readLabels_195 (by decide) ?_
                      refine lv_icmp_le hx hb d_M_readLabels_197 (tgt := 205) rfl (fun g18 => ?_) (fun g18 => ?_)
                      · have g18 := (nI_leI (a := v) (b := 24) (by omega) (by omega)).mp g18
                        refine lv_iconst (v := 0) hx hb d_M_readLabels_205 (by decide) ?_
                        refine lv_iadd hx hb d_M_readLabels_206 (tpi (y := nI (q + n + 1)) (nI_add (q + n + 1) (0)) ?_)
                        refine jfI (rnV (As := [.int 7, .int (nI (q + n + 1))]) (rest := []) hx hb hml hown hE hK (hN _ _ hS) hP hD (k_flaw_0 l D dA H.size h ad (MS.s_labelCount (MS.s_labels x g) c9) 7 (nI (q + n + 1)) hf) (q0 := 0) rfl rfl w431 w430 w432 w433 w328 rfl rfl ⟨⟨by decide, by decide⟩, rfl⟩ ⟨(Nat.le_of_ble_eq_true rfl), (Nat.le_of_ble_eq_true rfl)⟩ rfl hl.1 rfl (Nat.le_of_ble_eq_true rfl) d_M_readLabels_207 ⟨(Nat.le_of_ble_eq_true rfl), (Nat.le_of_ble_eq_true rfl)⟩) hP hD hS hA (fun r19 u20 H locs hp9 hP hD hS => ?_)
                        have hP : va_P D vwCl (MW dA h ad (MS.s_labelCount (MS.s_labels (MS.s_faultPlace (MS.s_faultCode x 7) (nI (q + n + 1))) g) c9)) H := hP
                        have hD : va_D A (MW dA h ad (MS.s_labelCount (MS.s_labels (MS.s_faultPlace (MS.s_faultCode x 7) (nI (q + n + 1))) g) c9)) := hD
                        replace hp9 : bI false = r19 := Eq.symm hp9
                        subst hp9
                        exact rfZ hx hb hr (bI_nar false) hlk hS (MS.s_labelCount (MS.s_labels (MS.s_faultPlace (MS.s_faultCode x 7) (nI (q + n + 1))) g) c9) ⟨rfl, by rw [if_neg g3, if_neg (show ¬ 24 < n by omega), if_neg g10, if_neg (not_not_intro g13), if_neg (by rw [i9, g14]; decide), if_pos g17] at i1; cases i1; exact ⟨_, _, rfl⟩⟩ hP hD (Nat.le_of_ble_eq_true rfl) (Nat.le_of_ble_eq_true rfl) d_M_readLabels_210
                      · have g18 := mt (nI_leI (a := v) (b := 24) (by omega) (by omega)).mpr g18
                        refine lv_bipush (v := 24) hx hb d_M_readLabels_200 (by decide) ?_
                        refine lv_goto hx hb d_M_readLabels_202 (tgt := 206) rfl ?_
                        refine lv_iadd hx hb d_M_readLabels_206 (tpi (y := nI (q + n + 1 + 24)) (nI_add (q + n + 1) (24)) ?_)
                        refine jfI (rnV (As := [.int 7, .int (nI (q + n + 1 + 24))]) (rest := []) hx hb hml hown hE hK (hN _ _ hS) hP hD (k_flaw_0 l D dA H.size h ad (MS.s_labelCount (MS.s_labels x g) c9) 7 (nI (q + n + 1 + 24)) hf) (q0 := 0) rfl rfl w431 w430 w432 w433 w328 rfl rfl ⟨⟨by decide, by decide⟩, rfl⟩ ⟨(Nat.le_of_ble_eq_true rfl), (Nat.le_of_ble_eq_true rfl)⟩ rfl hl.1 rfl (Nat.le_of_ble_eq_true rfl) d_M_readLabels_207 ⟨(Nat.le_of_ble_eq_true rfl), (Nat.le_of_ble_eq_true rfl)⟩) hP hD hS hA (fun r21 u22 H locs hp9 hP hD hS => ?_)
                        have hP : va_P D vwCl (MW dA h ad (MS.s_labelCount (MS.s_labels (MS.s_faultPlace (MS.s_faultCode x 7) (nI (q + n + 1 + 24))) g) c9)) H := hP
                        have hD : va_D A (MW dA h ad (MS.s_labelCount (MS.s_labels (MS.s_faultPlace (MS.s_faultCode x 7) (nI (q + n + 1 + 24))) g) c9)) := hD
                        replace hp9 : bI false = r21 := Eq.symm hp9
                        subst hp9
                        exact rfZ hx hb hr (bI_nar false) hlk hS (MS.s_labelCount (MS.s_labels (MS.s_faultPlace (MS.s_faultCode x 7) (nI (q + n + 1 + 24))) g) c9) (by exfalso; omega) hP hD (Nat.le_of_ble_eq_true rfl) (Nat.le_of_ble_eq_true rfl) d_M_readLabels_210
                    · have g17 := mt (nI_eq (a := v) (b := 0) (by omega) (by decide)).mpr g17
                      refine lv_iload hx hb d_M_readLabels_181 (lv_at hl 0 rfl) ?_
                      refine lv_bipush (v := 24) hx hb d_M_readLabels_183 (by decide) ?_
                      refine lv_icmp_le hx hb d_M_readLabels_185 (tgt := 211) rfl (fun g23 => ?_) (fun g23 => ?_)
                      · have g23 := (nI_leI (a := v) (b := 24) (by omega) (by omega)).mp g23
                        refine lv_aload_n hx hb d_M_readLabels_211 rfl (lv_at hl 5 rfl) ?_
                        refine gF (v := .ref (ad 42)) hx hb hown hE hK hP 0 rfl rfl layM 42 (by decide) w517 rfl d_M_readLabels_212 ?_
                        refine lv_iconst (v := 4) hx hb d_M_readLabels_215 (by decide) ?_
                        refine lv_aload_n hx hb d_M_readLabels_216 rfl (lv_at hl 5 rfl) ?_
                        refine gF (v := .int (nI c9)) hx hb hown hE hK hP 0 rfl rfl layM 43 (by decide) w425 rfl d_M_readLabels_217 ?_
                        refine lv_imul hx hb d_M_readLabels_220 (tpi (y := nI (4 * c9)) (pk_mul (4) (c9)) ?_)
                        refine lv_iload_n hx hb d_M_readLabels_221 rfl (lv_at hl 4 rfl) ?_
                        refine nistN (v := q) hx hb hK hP hD hS 20 1 rfl rfl (4 * c9) (by omega) (by decide) d_M_readLabels_222 (fun H locs hP hD hS => ?_)
                        have hP : va_P D vwCl (MW dA h ad (MS.s_labelCount (MS.s_labels x (va_up g (4 * c9) q)) c9)) H := hP
                        have hD : va_D A (MW dA h ad (MS.s_labelCount (MS.s_labels x (va_up g (4 * c9) q)) c9)) := hD
                        refine lv_aload_n hx hb d_M_readLabels_223 rfl (lv_at hl 5 rfl) ?_
                        refine gF (v := .ref (ad 42)) hx hb hown hE hK hP 0 rfl rfl layM 42 (by decide) w517 rfl d_M_readLabels_224 ?_
                        refine lv_iconst (v := 4) hx hb d_M_readLabels_227 (by decide) ?_
                        refine lv_aload_n hx hb d_M_readLabels_228 rfl (lv_at hl 5 rfl) ?_
                        refine gF (v := .int (nI c9)) hx hb hown hE hK hP 0 rfl rfl layM 43 (by decide) w425 rfl d_M_readLabels_229 ?_
                        refine lv_imul hx hb d_M_readLabels_232 (tpi (y := nI (4 * c9)) (pk_mul (4) (c9)) ?_)
                        refine lv_iconst (v := 1) hx hb d_M_readLabels_233 (by decide) ?_
                        refine lv_iadd hx hb d_M_readLabels_234 (tpi (y := nI ((4 * c9) + 1)) (nI_add (4 * c9) (1)) ?_)
                        refine lv_iload_n hx hb d_M_readLabels_235 rfl (lv_at hl 3 rfl) ?_
                        refine nistN (v := n) hx hb hK hP hD hS 20 1 rfl rfl ((4 * c9) + 1) (by omega) (by decide) d_M_readLabels_236 (fun H locs hP hD hS => ?_)
                        have hP : va_P D vwCl (MW dA h ad (MS.s_labelCount (MS.s_labels x (va_up (va_up g (4 * c9) q) ((4 * c9) + 1) n)) c9)) H := hP
                        have hD : va_D A (MW dA h ad (MS.s_labelCount (MS.s_labels x (va_up (va_up g (4 * c9) q) ((4 * c9) + 1) n)) c9)) := hD
                        refine lv_aload_n hx hb d_M_readLabels_237 rfl (lv_at hl 5 rfl) ?_
                        refine gF (v := .ref (ad 42)) hx hb hown hE hK hP 0 rfl rfl layM 42 (by decide) w517 rfl d_M_readLabels_238 ?_
                        refine lv_iconst (v := 4) hx hb d_M_readLabels_241 (by decide) ?_
                        refine lv_aload_n hx hb d_M_readLabels_242 rfl (lv_at hl 5 rfl) ?_
                        refine gF (v := .int (nI c9)) hx hb hown hE hK hP 0 rfl rfl layM 43 (by decide) w425 rfl d_M_readLabels_243 ?_
                        refine lv_imul hx hb d_M_readLabels_246 (tpi (y := nI (4 * c9)) (pk_mul (4) (c9)) ?_)
                        refine lv_iconst (v := 2) hx hb d_M_readLabels_247 (by decide) ?_
                        refine lv_iadd hx hb d_M_readLabels_248 (tpi (y := nI ((4 * c9) + 2)) (nI_add (4 * c9) (2)) ?_)
                        refine lv_iload hx hb d_M_readLabels_249 (lv_at hl 1 rfl) ?_
                        refine nistN (v := q + n + 1) hx hb hK hP hD hS 20 1 rfl rfl ((4 * c9) + 2) (by omega) (by decide) d_M_readLabels_251 (fun H locs hP hD hS => ?_)
                        have hP : va_P D vwCl (MW dA h ad (MS.s_labelCount (MS.s_labels x (va_up (va_up (va_up g (4 * c9) q) ((4 * c9) + 1) n) ((4 * c9) + 2) (q + n + 1))) c9)) H := hP
                        have hD : va_D A (MW dA h ad (MS.s_labelCount (MS.s_labels x (va_up (va_up (va_up g (4 * c9) q) ((4 * c9) + 1) n) ((4 * c9) + 2) (q + n + 1))) c9)) := hD
                        refine lv_aload_n hx hb d_M_readLabels_252 rfl (lv_at hl 5 rfl) ?_
                        refine gF (v := .ref (ad 42)) hx hb hown hE hK hP 0 rfl rfl layM 42 (by decide) w517 rfl d_M_readLabels_253 ?_
                        refine lv_iconst (v := 4) hx hb d_M_readLabels_256 (by decide) ?_
                        refine lv_aload_n hx hb d_M_readLabels_257 rfl (lv_at hl 5 rfl) ?_
                        refine gF (v := .int (nI c9)) hx hb hown hE hK hP 0 rfl rfl layM 43 (by decide) w425 rfl d_M_readLabels_258 ?_
                        refine lv_imul hx hb d_M_readLabels_261 (tpi (y := nI (4 * c9)) (pk_mul (4) (c9)) ?_)
                        refine lv_iconst (v := 3) hx hb d_M_readLabels_262 (by decide) ?_
                        refine lv_iadd hx hb d_M_readLabels_263 (tpi (y := nI ((4 * c9) + 3)) (nI_add (4 * c9) (3)) ?_)
                        refine lv_iload hx hb d_M_readLabels_264 (lv_at hl 0 rfl) ?_
                        refine nistN (v := v) hx hb hK hP hD hS 20 1 rfl rfl ((4 * c9) + 3) (by omega) (by decide) d_M_readLabels_266 (fun H locs hP hD hS => ?_)
                        have hP : va_P D vwCl (MW dA h ad (MS.s_labelCount (MS.s_labels x (va_up (va_up (va_up (va_up g (4 * c9) q) ((4 * c9) + 1) n) ((4 * c9) + 2) (q + n + 1)) ((4 * c9) + 3) v)) c9)) H := hP
                        have hD : va_D A (MW dA h ad (MS.s_labelCount (MS.s_labels x (va_up (va_up (va_up (va_up g (4 * c9) q) ((4 * c9) + 1) n) ((4 * c9) + 2) (q + n + 1)) ((4 * c9) + 3) v)) c9)) := hD
                        refine lv_aload_n hx hb d_M_readLabels_267 rfl (lv_at hl 5 rfl) ?_
                        refine lv_dup hx hb d_M_readLabels_268 rfl ?_
                        refine gF (v := .int (nI c9)) hx hb hown hE hK hP 0 rfl rfl layM 43 (by decide) w425 rfl d_M_readLabels_269 ?_
                        refine lv_iconst (v := 1) hx hb d_M_readLabels_272 (by decide) ?_
                        refine lv_iadd hx hb d_M_readLabels_273 (tpi (y := nI (c9 + 1)) (nI_add (c9) (1)) ?_)
                        refine pF (v := .int (nI (c9 + 1))) hx hb hown hE hK hP hD hS 0 rfl rfl layM tyM tokM nmM 43 (by decide) w425 rfl rfl rfl (Nat.le_of_ble_eq_true rfl) d_M_readLabels_274 (fun H locs hP hD hS => ?_)
                        have hP : va_P D vwCl (MW dA h ad (MS.s_labelCount (MS.s_labels x (va_up (va_up (va_up (va_up g (4 * c9) q) ((4 * c9) + 1) n) ((4 * c9) + 2) (q + n + 1)) ((4 * c9) + 3) v)) (c9 + 1))) H := hP
                        have hD : va_D A (MW dA h ad (MS.s_labelCount (MS.s_labels x (va_up (va_up (va_up (va_up g (4 * c9) q) ((4 * c9) + 1) n) ((4 * c9) + 2) (q + n + 1)) ((4 * c9) + 3) v)) (c9 + 1))) := hD
                        refine lv_iload hx hb d_M_readLabels_277 (lv_at hl 1 rfl) ?_
                        refine lv_iload hx hb d_M_readLabels_279 (lv_at hl 0 rfl) ?_
                        refine lv_iadd hx hb d_M_readLabels_281 (tpi (y := nI (q + n + 1 + v)) (nI_add (q + n + 1) (v)) ?_)
                        refine lv_istore_n hx hb d_M_readLabels_282 rfl hl (by decide) rfl (fun ls hl => ?_)
                        have hl : lv_has ls 6 [(1, .int (nI (q + n + 1 + v))), (5, .int (nI v)), (4, .int (nI (q + n + 1))), (3, .int (bI tw)), (2, .int (nI n)), (0, .ref h)] := hl
                        refine lv_iload_n hx hb d_M_readLabels_283 rfl (lv_at hl 0 rfl) ?_
                        refine lv_aload_n hx hb d_M_readLabels_284 rfl (lv_at hl 5 rfl) ?_
                        refine gF (v := .int (nI x.length)) hx hb hown hE hK hP 0 rfl rfl layM 2 (by decide) w320 rfl d_M_readLabels_285 ?_
                        refine lv_icmp_ne hx hb d_M_readLabels_288 (tgt := 293) rfl (fun g24 => ?_) (fun g24 => ?_)
                        · have g24 := mt (nI_eq (a := q + n + 1 + v) (b := x.length) (by omega) (by omega)).mpr g24
                          refine lv_aload_n hx hb d_M_readLabels_293 rfl (lv_at hl 5 rfl) ?_
                          refine gF (v := .ref (ad 1)) hx hb hown hE hK hP 0 rfl rfl layM 1 (by decide) w497 rfl d_M_readLabels_294 ?_
                          refine lv_iload_n hx hb d_M_readLabels_297 rfl (lv_at hl 0 rfl) ?_
                          refine nbld (f := x.tape) hx hb hK hP 1 0 rfl rfl (q + n + 1 + v) (by omega) (by decide) d_M_readLabels_298 ?_
                          refine lv_bipush (v := 44) hx hb d_M_readLabels_299 (by decide) ?_
                          refine lv_icmp_eq hx hb d_M_readLabels_301 (tgt := 312) rfl (fun g25 => ?_) (fun g25 => ?_)
                          · have g25 := g25
                            refine lv_iinc (k := 0) (v := nI (q + n + 1 + v + 1)) hx hb d_M_readLabels_312 hl rfl (iincN (q + n + 1 + v) 1 1 (by decide)) (by decide) rfl (fun ls hl => ?_)
                            have hl : lv_has ls 6 [(1, .int (nI (q + n + 1 + v + 1))), (5, .int (nI v)), (4, .int (nI (q + n + 1))), (3, .int (bI tw)), (2, .int (nI n)), (0, .ref h)] := hl
                            refine lv_goto hx hb d_M_readLabels_315 (tgt := 7) rfl ?_
                            exact ih7 _ (by omega) w (q + n + 1 + v + 1) (c9 + 1) (va_up (va_up (va_up (va_up g (4 * c9) q) ((4 * c9) + 1) n) ((4 * c9) + 2) (q + n + 1)) ((4 * c9) + 3) v) (by rw [if_neg g3, if_neg (show ¬ 24 < n by omega), if_neg g10, if_neg (not_not_intro g13), if_neg (by rw [i9, g14]; decide), if_neg g17, if_neg (show ¬ 24 < v by omega), if_neg (show ¬ q + n + 1 + v = x.length by omega), if_neg (not_not_intro g25)] at i1; exact i1) (by omega) (by omega) (by omega) (lab_up i4 n2) rfl H _ ls hP hD hS (lv_sub hl [0, 5] rfl)
                          · have g25 := g25
                            refine lv_aload_n hx hb d_M_readLabels_304 rfl (lv_at hl 5 rfl) ?_
                            refine lv_bipush (v := 7) hx hb d_M_readLabels_305 (by decide) ?_
                            refine lv_iload_n hx hb d_M_readLabels_307 rfl (lv_at hl 0 rfl) ?_
                            refine jfI (rnV (As := [.int 7, .int (nI (q + n + 1 + v))]) (rest := []) hx hb hml hown hE hK (hN _ _ hS) hP hD (k_flaw_0 l D dA H.size h ad (MS.s_labelCount (MS.s_labels x (va_up (va_up (va_up (va_up g (4 * c9) q) ((4 * c9) + 1) n) ((4 * c9) + 2) (q + n + 1)) ((4 * c9) + 3) v)) (c9 + 1)) 7 (nI (q + n + 1 + v)) hf) (q0 := 0) rfl rfl w431 w430 w432 w433 w328 rfl rfl ⟨⟨by decide, by decide⟩, rfl⟩ ⟨(Nat.le_of_ble_eq_true rfl), (Nat.le_of_ble_eq_true rfl)⟩ rfl hl.1 rfl (Nat.le_of_ble_eq_true rfl) d_M_readLabels_308 ⟨(Nat.le_of_ble_eq_true rfl), (Nat.le_of_ble_eq_true rfl)⟩) hP hD hS hA (fun r26 u27 H locs hp9 hP hD hS => ?_)
                            have hP : va_P D vwCl (MW dA h ad (MS.s_labelCount (MS.s_labels (MS.s_faultPlace (MS.s_faultCode x 7) (nI (q + n + 1 + v))) (va_up (va_up (va_up (va_up g (4 * c9) q) ((4 * c9) + 1) n) ((4 * c9) + 2) (q + n + 1)) ((4 * c9) + 3) v)) (c9 + 1))) H := hP
                            have hD : va_D A (MW dA h ad (MS.s_labelCount (MS.s_labels (MS.s_faultPlace (MS.s_faultCode x 7) (nI (q + n + 1 + v))) (va_up (va_up (va_up (va_up g (4 * c9) q) ((4 * c9) + 1) n) ((4 * c9) + 2) (q + n + 1)) ((4 * c9) + 3) v)) (c9 + 1))) := hD
                            replace hp9 : bI false = r26 := Eq.symm hp9
                            subst hp9
                            exact rfZ hx hb hr (bI_nar false) hlk hS (MS.s_labelCount (MS.s_labels (MS.s_faultPlace (MS.s_faultCode x 7) (nI (q + n + 1 + v))) (va_up (va_up (va_up (va_up g (4 * c9) q) ((4 * c9) + 1) n) ((4 * c9) + 2) (q + n + 1)) ((4 * c9) + 3) v)) (c9 + 1)) ⟨rfl, by rw [if_neg g3, if_neg (show ¬ 24 < n by omega), if_neg g10, if_neg (not_not_intro g13), if_neg (by rw [i9, g14]; decide), if_neg g17, if_neg (show ¬ 24 < v by omega), if_neg (show ¬ q + n + 1 + v = x.length by omega), if_pos g25] at i1; cases i1; exact ⟨_, _, rfl⟩⟩ hP hD (Nat.le_of_ble_eq_true rfl) (Nat.le_of_ble_eq_true rfl) d_M_readLabels_311
                        · have g24 := (nI_eq (a := q + n + 1 + v) (b := x.length) (by omega) (by omega)).mp g24
                          refine lv_iconst (v := 1) hx hb d_M_readLabels_291 (by decide) ?_
                          exact rfZ hx hb hr (bI_nar true) hlk hS (MS.s_labelCount (MS.s_labels x (va_up (va_up (va_up (va_up g (4 * c9) q) ((4 * c9) + 1) n) ((4 * c9) + 2) (q + n + 1)) ((4 * c9) + 3) v)) (c9 + 1)) (by exfalso; rw [if_neg g3, if_neg (show ¬ 24 < n by omega), if_neg g10, if_neg (not_not_intro g13), if_neg (by rw [i9, g14]; decide), if_neg g17, if_neg (show ¬ 24 < v by omega), if_pos (show q + n + 1 + v = x.length by omega)] at i1; cases i1) hP hD (Nat.le_of_ble_eq_true rfl) (Nat.le_of_ble_eq_true rfl) d_M_readLabels_292
                      · have g23 := mt (nI_leI (a := v) (b := 24) (by omega) (by omega)).mpr g23
                        refine lv_aload_n hx hb d_M_readLabels_188 rfl (lv_at hl 5 rfl) ?_
                        refine lv_bipush (v := 7) hx hb d_M_readLabels_189 (by decide) ?_
                        refine lv_iload hx hb d_M_readLabels_191 (lv_at hl 1 rfl) ?_
                        refine lv_iload hx hb d_M_readLabels_193 (lv_at hl 0 rfl) ?_
                        refine lv_bipush (v := 24) hx hb d_M_readLabels_195 (by decide) ?_
                        refine lv_icmp_le hx hb d_M_readLabels_197 (tgt := 205) rfl (fun h9 => absurd h9 (mt (nI_leI (a := v) (b := 24) (by omega) (by omega)).mp g23)) (fun _ => ?_)
                        refine lv_bipush (v := 24) hx hb d_M_readLabels_200 (by decide) ?_
                        refine lv_goto hx hb d_M_readLabels_202 (tgt := 206) rfl ?_
                        refine lv_iadd hx hb d_M_readLabels_206 (tpi (y := nI (q + n + 1 + 24)) (nI_add (q + n + 1) (24)) ?_)
                        refine jfI (rnV (As := [.int 7, .int (nI (q + n + 1 + 24))]) (rest := []) hx hb hml hown hE hK (hN _ _ hS) hP hD (k_flaw_0 l D dA H.size h ad (MS.s_labelCount (MS.s_labels x g) c9) 7 (nI (q + n + 1 + 24)) hf) (q0 := 0) rfl rfl w431 w430 w432 w433 w328 rfl rfl ⟨⟨by decide, by decide⟩, rfl⟩ ⟨(Nat.le_of_ble_eq_true rfl), (Nat.le_of_ble_eq_true rfl)⟩ rfl hl.1 rfl (Nat.le_of_ble_eq_true rfl) d_M_readLabels_207 ⟨(Nat.le_of_ble_eq_true rfl), (Nat.le_of_ble_eq_true rfl)⟩) hP hD hS hA (fun r28 u29 H locs hp9 hP hD hS => ?_)
                        have hP : va_P D vwCl (MW dA h ad (MS.s_labelCount (MS.s_labels (MS.s_faultPlace (MS.s_faultCode x 7) (nI (q + n + 1 + 24))) g) c9)) H := hP
                        have hD : va_D A (MW dA h ad (MS.s_labelCount (MS.s_labels (MS.s_faultPlace (MS.s_faultCode x 7) (nI (q + n + 1 + 24))) g) c9)) := hD
                        replace hp9 : bI false = r28 := Eq.symm hp9
                        subst hp9
                        exact rfZ hx hb hr (bI_nar false) hlk hS (MS.s_labelCount (MS.s_labels (MS.s_faultPlace (MS.s_faultCode x 7) (nI (q + n + 1 + 24))) g) c9) ⟨rfl, by rw [if_neg g3, if_neg (show ¬ 24 < n by omega), if_neg g10, if_neg (not_not_intro g13), if_neg (by rw [i9, g14]; decide), if_neg g17, if_pos (show 24 < v by omega)] at i1; cases i1; exact ⟨_, _, rfl⟩⟩ hP hD (Nat.le_of_ble_eq_true rfl) (Nat.le_of_ble_eq_true rfl) d_M_readLabels_210
                  · have g14 := bI_n0 g14
                    refine lv_aload_n hx hb d_M_readLabels_153 rfl (lv_at hl 3 rfl) ?_
                    refine lv_bipush (v := 8) hx hb d_M_readLabels_154 (by decide) ?_
                    refine lv_iload_n hx hb d_M_readLabels_156 rfl (lv_at hl 2 rfl) ?_
                    refine jfI (rnV (As := [.int 8, .int (nI q)]) (rest := []) hx hb hml hown hE hK (hN _ _ hS) hP hD (k_flaw_0 l D dA H.size h ad (MS.s_labelCount (MS.s_labels x g) c9) 8 (nI q) hf) (q0 := 0) rfl rfl w431 w430 w432 w433 w328 rfl rfl ⟨⟨by decide, by decide⟩, rfl⟩ ⟨(Nat.le_of_ble_eq_true rfl), (Nat.le_of_ble_eq_true rfl)⟩ rfl hl.1 rfl (Nat.le_of_ble_eq_true rfl) d_M_readLabels_157 ⟨(Nat.le_of_ble_eq_true rfl), (Nat.le_of_ble_eq_true rfl)⟩) hP hD hS hA (fun r30 u31 H locs hp9 hP hD hS => ?_)
                    have hP : va_P D vwCl (MW dA h ad (MS.s_labelCount (MS.s_labels (MS.s_faultPlace (MS.s_faultCode x 8) (nI q)) g) c9)) H := hP
                    have hD : va_D A (MW dA h ad (MS.s_labelCount (MS.s_labels (MS.s_faultPlace (MS.s_faultCode x 8) (nI q)) g) c9)) := hD
                    replace hp9 : bI false = r30 := Eq.symm hp9
                    subst hp9
                    exact rfZ hx hb hr (bI_nar false) hlk hS (MS.s_labelCount (MS.s_labels (MS.s_faultPlace (MS.s_faultCode x 8) (nI q)) g) c9) ⟨rfl, by rw [if_neg g3, if_neg (show ¬ 24 < n by omega), if_neg g10, if_neg (not_not_intro g13), if_pos (i9.trans g14)] at i1; cases i1; exact ⟨_, _, rfl⟩⟩ hP hD (Nat.le_of_ble_eq_true rfl) (Nat.le_of_ble_eq_true rfl) d_M_readLabels_160
                refine lv_iconst (v := 0) hx hb d_M_readLabels_92 (by decide) ?_
                refine lv_istore hx hb d_M_readLabels_93 hl (by decide) rfl (fun ls hl => ?_)
                have hl : lv_has ls 6 [(4, .int 0), (3, .int (bI tw)), (2, .int (nI n)), (1, .int (nI q)), (0, .ref h)] := hl
                have L95 : ∀ (k9 : Nat) (k : Nat) (tw : Bool) (i8 : k ≤ c9) (i7 : (decide (c9 = 6) || anyB k (twB x.tape g q n)) = tw) (hk9 : c9 - k = k9), ∀ (H : Heap) (locs : List Loc) (ls : Array Slot) (hP : va_P D vwCl (MW dA h ad (MS.s_labelCount (MS.s_labels x g) c9)) H) (hD : va_D A (MW dA h ad (MS.s_labelCount (MS.s_labels x g) c9))) (hS : va_S A s.heap H locs) (hl : lv_has ls 6 [(4, .int (nI k)), (3, .int (bI tw)), (2, .int (nI n)), (1, .int (nI q)), (0, .ref h)]), W p l e ({ frames := 3, cells := 0, slots := 0, locals := 42 } : Room) s m ([.ref h] : List Value).toArray below meth c H locs 0 0 (MQ below (va_Qi (fun (r9 : Int32) (u9 : MS) => r9 = bI false ∧ ∃ (a1 : Nat → Nat) (a2 : Nat), u9 = (((x.s_faultCode kf).s_faultPlace (nI pf)).s_labels a1).s_labelCount a2) (fun (u9 : MS) t9 => bW D A (MW dA h ad u9) t9) A) ([.ref h] : List Value).toArray s 0 0 A) (F0 m 95 ls []) := by
                  intro k9
                  induction k9 using Nat.strongRecOn with
                  | ind k9 ih95 =>
                    intro k tw i8 i7 hk9 H locs ls hP hD hS hl
                    refine lv_iload hx hb d_M_readLabels_95 (lv_at hl 0 rfl) ?_
                    refine lv_aload_n hx hb d_M_readLabels_97 rfl (lv_at hl 4 rfl) ?_
                    refine gF (v := .int (nI c9)) hx hb hown hE hK hP 0 rfl rfl layM 43 (by decide) w425 rfl d_M_readLabels_98 ?_
                    refine lv_icmp_ge hx hb d_M_readLabels_101 (tgt := 149) rfl (fun g32 => ?_) (fun g32 => ?_)
                    · have g32 := (nI_leI (a := c9) (b := k) (by omega) (by omega)).mp g32
                      exact J149 tw (by rw [show k = c9 by omega] at i7; exact i7) H _ ls hP hD hS (lv_sub hl [1, 2, 3, 4] rfl)
                    · have g32 := mt (nI_leI (a := c9) (b := k) (by omega) (by omega)).mpr g32
                      refine lv_iload_n hx hb d_M_readLabels_104 rfl (lv_at hl 1 rfl) ?_
                      refine lv_if_ne hx hb d_M_readLabels_105 (tgt := 137) rfl (fun g33 => ?_) (fun g33 => ?_)
                      · have g33 := bI_n0 g33
                        refine lv_iconst (v := 1) hx hb d_M_readLabels_137 (by decide) ?_
                        refine lv_goto hx hb d_M_readLabels_138 (tgt := 142) rfl ?_
                        refine lv_istore_n hx hb d_M_readLabels_142 rfl hl (by decide) rfl (fun ls hl => ?_)
                        have hl : lv_has ls 6 [(3, .int 1), (4, .int (nI k)), (2, .int (nI n)), (1, .int (nI q)), (0, .ref h)] := hl
                        refine lv_iinc (k := 1) (v := nI (k + 1)) hx hb d_M_readLabels_143 hl rfl (iincN (k) 1 1 (by decide)) (by decide) rfl (fun ls hl => ?_)
                        have hl : lv_has ls 6 [(4, .int (nI (k + 1))), (3, .int 1), (2, .int (nI n)), (1, .int (nI q)), (0, .ref h)] := hl
                        refine lv_goto hx hb d_M_readLabels_146 (tgt := 95) rfl ?_
                        exact ih95 _ (by omega) (k + 1) true (by omega) (by rw [anyB_s, ← Bool.or_assoc, i7, g33]; rfl) rfl H _ ls hP hD hS (lv_sub hl [0, 1, 2, 3, 4] rfl)
                      · have g33 := bI_0 g33
                        refine lv_aload_n hx hb d_M_readLabels_108 rfl (lv_at hl 4 rfl) ?_
                        refine lv_aload_n hx hb d_M_readLabels_109 rfl (lv_at hl 4 rfl) ?_
                        refine gF (v := .ref (ad 42)) hx hb hown hE hK hP 0 rfl rfl layM 42 (by decide) w517 rfl d_M_readLabels_110 ?_
                        refine lv_iconst (v := 4) hx hb d_M_readLabels_113 (by decide) ?_
                        refine lv_iload hx hb d_M_readLabels_114 (lv_at hl 0 rfl) ?_
                        refine lv_imul hx hb d_M_readLabels_116 (tpi (y := nI (4 * k)) (pk_mul (4) (k)) ?_)
                        refine nild (f := (fun z9 => nI (g z9))) hx hb hK hP 20 1 rfl rfl (4 * k) (by omega) (by decide) d_M_readLabels_117 ?_
                        refine lv_aload_n hx hb d_M_readLabels_118 rfl (lv_at hl 4 rfl) ?_
                        refine gF (v := .ref (ad 42)) hx hb hown hE hK hP 0 rfl rfl layM 42 (by decide) w517 rfl d_M_readLabels_119 ?_
                        refine lv_iconst (v := 4) hx hb d_M_readLabels_122 (by decide) ?_
                        refine lv_iload hx hb d_M_readLabels_123 (lv_at hl 0 rfl) ?_
                        refine lv_imul hx hb d_M_readLabels_125 (tpi (y := nI (4 * k)) (pk_mul (4) (k)) ?_)
                        refine lv_iconst (v := 1) hx hb d_M_readLabels_126 (by decide) ?_
                        refine lv_iadd hx hb d_M_readLabels_127 (tpi (y := nI ((4 * k) + 1)) (nI_add (4 * k) (1)) ?_)
                        refine nild (f := (fun z9 => nI (g z9))) hx hb hK hP 20 1 rfl rfl ((4 * k) + 1) (by omega) (by decide) d_M_readLabels_128 ?_
                        refine lv_iload_n hx hb d_M_readLabels_129 rfl (lv_at hl 3 rfl) ?_
                        refine lv_iload_n hx hb d_M_readLabels_130 rfl (lv_at hl 2 rfl) ?_
                        refine jfI (rnV (As := [.int (nI (g (4 * k))), .int (nI (g ((4 * k) + 1))), .int (nI q), .int (nI n)]) (rest := []) hx hb hml hown hE hK (hN _ _ hS) hP hD (k_compare l D dA H.size h ad (MS.s_labelCount (MS.s_labels x g) c9) (g (4 * k)) (g ((4 * k) + 1)) q n (by have := i4 k (by omega); omega) (show q + n ≤ 65536 from by omega)) (q0 := 0) rfl rfl w939 w938 w940 w941 w328 rfl rfl ⟨⟨by decide, by decide⟩, rfl⟩ ⟨(Nat.le_of_ble_eq_true rfl), (Nat.le_of_ble_eq_true rfl)⟩ rfl hl.1 rfl (Nat.le_of_ble_eq_true rfl) d_M_readLabels_131 ⟨(Nat.le_of_ble_eq_true rfl), (Nat.le_of_ble_eq_true rfl)⟩) hP hD hS hA (fun r34 u35 H locs hp9 hP hD hS => ?_)
                        have hP : va_P D vwCl (MW dA h ad (MS.s_labelCount (MS.s_labels x g) c9)) H := hP
                        have hD : va_D A (MW dA h ad (MS.s_labelCount (MS.s_labels x g) c9)) := hD
                        replace hp9 : cmpT x.tape (g (4 * k)) (g ((4 * k) + 1)) q n = r34 := Eq.symm hp9
                        subst hp9
                        refine lv_if_ne hx hb d_M_readLabels_134 (tgt := 141) rfl (fun g36 => ?_) (fun g36 => ?_)
                        · have g36 := g36
                          refine lv_iconst (v := 0) hx hb d_M_readLabels_141 (by decide) ?_
                          refine lv_istore_n hx hb d_M_readLabels_142 rfl hl (by decide) rfl (fun ls hl => ?_)
                          have hl : lv_has ls 6 [(3, .int 0), (4, .int (nI k)), (2, .int (nI n)), (1, .int (nI q)), (0, .ref h)] := hl
                          refine lv_iinc (k := 1) (v := nI (k + 1)) hx hb d_M_readLabels_143 hl rfl (iincN (k) 1 1 (by decide)) (by decide) rfl (fun ls hl => ?_)
                          have hl : lv_has ls 6 [(4, .int (nI (k + 1))), (3, .int 0), (2, .int (nI n)), (1, .int (nI q)), (0, .ref h)] := hl
                          refine lv_goto hx hb d_M_readLabels_146 (tgt := 95) rfl ?_
                          exact ih95 _ (by omega) (k + 1) false (by omega) (by rw [anyB_s, ← Bool.or_assoc, i7, g33]; show (false || decide _) = false; rw [decide_eq_false g36]; rfl) rfl H _ ls hP hD hS (lv_sub hl [0, 1, 2, 3, 4] rfl)
                        · have g36 := g36
                          refine lv_iconst (v := 1) hx hb d_M_readLabels_137 (by decide) ?_
                          refine lv_goto hx hb d_M_readLabels_138 (tgt := 142) rfl ?_
                          refine lv_istore_n hx hb d_M_readLabels_142 rfl hl (by decide) rfl (fun ls hl => ?_)
                          have hl : lv_has ls 6 [(3, .int 1), (4, .int (nI k)), (2, .int (nI n)), (1, .int (nI q)), (0, .ref h)] := hl
                          refine lv_iinc (k := 1) (v := nI (k + 1)) hx hb d_M_readLabels_143 hl rfl (iincN (k) 1 1 (by decide)) (by decide) rfl (fun ls hl => ?_)
                          have hl : lv_has ls 6 [(4, .int (nI (k + 1))), (3, .int 1), (2, .int (nI n)), (1, .int (nI q)), (0, .ref h)] := hl
                          refine lv_goto hx hb d_M_readLabels_146 (tgt := 95) rfl ?_
                          exact ih95 _ (by omega) (k + 1) true (by omega) (by rw [anyB_s, ← Bool.or_assoc, i7, g33]; show (false || decide _) = true; rw [decide_eq_true g36]; rfl) rfl H _ ls hP hD hS (lv_sub hl [0, 1, 2, 3, 4] rfl)
                exact L95 _ 0 tw (Nat.zero_le _) (by rw [i6]; exact Bool.or_false _) rfl H _ ls hP hD hS (lv_sub hl [0, 1, 2, 3, 4] rfl)
              refine lv_aload_n hx hb d_M_readLabels_77 rfl (lv_at hl 2 rfl) ?_
              refine gF (v := .int (nI c9)) hx hb hown hE hK hP 0 rfl rfl layM 43 (by decide) w425 rfl d_M_readLabels_78 ?_
              refine lv_bipush (v := 6) hx hb d_M_readLabels_81 (by decide) ?_
              refine lv_icmp_ne hx hb d_M_readLabels_83 (tgt := 90) rfl (fun g37 => ?_) (fun g37 => ?_)
              · have g37 := mt (nI_eq (a := c9) (b := 6) (by omega) (by omega)).mpr g37
                refine lv_iconst (v := 0) hx hb d_M_readLabels_90 (by decide) ?_
                exact J91 false (by simp [*]) H _ ls hP hD hS (lv_sub hl [0, 1, 2] rfl)
              · have g37 := (nI_eq (a := c9) (b := 6) (by omega) (by omega)).mp g37
                refine lv_iconst (v := 1) hx hb d_M_readLabels_86 (by decide) ?_
                refine lv_goto hx hb d_M_readLabels_87 (tgt := 91) rfl ?_
                exact J91 true (by simp [*]) H _ ls hP hD hS (lv_sub hl [0, 1, 2] rfl)
            · have g13 := g13
              refine lv_aload_n hx hb d_M_readLabels_67 rfl (lv_at hl 2 rfl) ?_
              refine lv_bipush (v := 7) hx hb d_M_readLabels_68 (by decide) ?_
              refine lv_iload_n hx hb d_M_readLabels_70 rfl (lv_at hl 1 rfl) ?_
              refine lv_iload_n hx hb d_M_readLabels_71 rfl (lv_at hl 0 rfl) ?_
              refine lv_iadd hx hb d_M_readLabels_72 (tpi (y := nI (q + n)) (nI_add (q) (n)) ?_)
              refine jfI (rnV (As := [.int 7, .int (nI (q + n))]) (rest := []) hx hb hml hown hE hK (hN _ _ hS) hP hD (k_flaw_0 l D dA H.size h ad (MS.s_labelCount (MS.s_labels x g) c9) 7 (nI (q + n)) hf) (q0 := 0) rfl rfl w431 w430 w432 w433 w328 rfl rfl ⟨⟨by decide, by decide⟩, rfl⟩ ⟨(Nat.le_of_ble_eq_true rfl), (Nat.le_of_ble_eq_true rfl)⟩ rfl hl.1 rfl (Nat.le_of_ble_eq_true rfl) d_M_readLabels_73 ⟨(Nat.le_of_ble_eq_true rfl), (Nat.le_of_ble_eq_true rfl)⟩) hP hD hS hA (fun r38 u39 H locs hp9 hP hD hS => ?_)
              have hP : va_P D vwCl (MW dA h ad (MS.s_labelCount (MS.s_labels (MS.s_faultPlace (MS.s_faultCode x 7) (nI (q + n))) g) c9)) H := hP
              have hD : va_D A (MW dA h ad (MS.s_labelCount (MS.s_labels (MS.s_faultPlace (MS.s_faultCode x 7) (nI (q + n))) g) c9)) := hD
              replace hp9 : bI false = r38 := Eq.symm hp9
              subst hp9
              exact rfZ hx hb hr (bI_nar false) hlk hS (MS.s_labelCount (MS.s_labels (MS.s_faultPlace (MS.s_faultCode x 7) (nI (q + n))) g) c9) ⟨rfl, by rw [if_neg g3, if_neg (show ¬ 24 < n by omega), if_neg g10, if_pos g13] at i1; cases i1; exact ⟨_, _, rfl⟩⟩ hP hD (Nat.le_of_ble_eq_true rfl) (Nat.le_of_ble_eq_true rfl) d_M_readLabels_76
        · have g9 := mt (nI_leI (a := n) (b := 24) (by omega) (by omega)).mpr g9
          refine lv_aload_n hx hb d_M_readLabels_23 rfl (lv_at hl 2 rfl) ?_
          refine lv_bipush (v := 7) hx hb d_M_readLabels_24 (by decide) ?_
          refine lv_iload_n hx hb d_M_readLabels_26 rfl (lv_at hl 1 rfl) ?_
          refine lv_iload_n hx hb d_M_readLabels_27 rfl (lv_at hl 0 rfl) ?_
          refine lv_bipush (v := 24) hx hb d_M_readLabels_28 (by decide) ?_
          refine lv_icmp_le hx hb d_M_readLabels_30 (tgt := 38) rfl (fun h9 => absurd h9 (mt (nI_leI (a := n) (b := 24) (by omega) (by omega)).mp g9)) (fun _ => ?_)
          refine lv_bipush (v := 24) hx hb d_M_readLabels_33 (by decide) ?_
          refine lv_goto hx hb d_M_readLabels_35 (tgt := 39) rfl ?_
          refine lv_iadd hx hb d_M_readLabels_39 (tpi (y := nI (q + 24)) (nI_add (q) (24)) ?_)
          refine jfI (rnV (As := [.int 7, .int (nI (q + 24))]) (rest := []) hx hb hml hown hE hK (hN _ _ hS) hP hD (k_flaw_0 l D dA H.size h ad (MS.s_labelCount (MS.s_labels x g) c9) 7 (nI (q + 24)) hf) (q0 := 0) rfl rfl w431 w430 w432 w433 w328 rfl rfl ⟨⟨by decide, by decide⟩, rfl⟩ ⟨(Nat.le_of_ble_eq_true rfl), (Nat.le_of_ble_eq_true rfl)⟩ rfl hl.1 rfl (Nat.le_of_ble_eq_true rfl) d_M_readLabels_40 ⟨(Nat.le_of_ble_eq_true rfl), (Nat.le_of_ble_eq_true rfl)⟩) hP hD hS hA (fun r40 u41 H locs hp9 hP hD hS => ?_)
          have hP : va_P D vwCl (MW dA h ad (MS.s_labelCount (MS.s_labels (MS.s_faultPlace (MS.s_faultCode x 7) (nI (q + 24))) g) c9)) H := hP
          have hD : va_D A (MW dA h ad (MS.s_labelCount (MS.s_labels (MS.s_faultPlace (MS.s_faultCode x 7) (nI (q + 24))) g) c9)) := hD
          replace hp9 : bI false = r40 := Eq.symm hp9
          subst hp9
          exact rfZ hx hb hr (bI_nar false) hlk hS (MS.s_labelCount (MS.s_labels (MS.s_faultPlace (MS.s_faultCode x 7) (nI (q + 24))) g) c9) ⟨rfl, by rw [if_neg g3, if_pos (show 24 < n by omega)] at i1; cases i1; exact ⟨_, _, rfl⟩⟩ hP hD (Nat.le_of_ble_eq_true rfl) (Nat.le_of_ble_eq_true rfl) d_M_readLabels_43
  exact L7 _ 7 0 0 x.labels hrd rfl (by decide) (Nat.zero_le _) (fun k hk => absurd hk (Nat.not_lt_zero k)) rfl H _ ls hP hD hS (lv_sub hl [0, 1] rfl)
def MS.txE (x : MS) (w y : Nat) : Bool := decide (x.texts (304 * w + y) = x.texts (304 * x.seriesCount + y))
def MS.txS (x : MS) (n w : Nat) : Bool := decide (x.textLengths w = n) && allB n (x.txE w)
/-- the first series with the text that was laid, from number w on -/
def MS.fndG (x : MS) (n : Nat) : Nat → Nat → Int32
  | 0, _ => -1
  | j + 1, w => if x.txS n w = true then nI w else x.fndG n j (w + 1)
def MS.fnd (x : MS) (n : Nat) : Int32 := x.fndG n x.seriesCount 0
theorem fnd_t {x : MS} {n j w : Nat} (hj : 0 < j) (h : x.txS n w = true) : x.fndG n j w = nI w := by
  obtain ⟨i, rfl⟩ : ∃ i, j = i + 1 := ⟨j - 1, by omega⟩
  exact if_pos h
theorem fnd_f {x : MS} {n j w : Nat} (hj : 0 < j) (h : x.txS n w = false) : x.fndG n j w = x.fndG n (j - 1) (w + 1) := by
  obtain ⟨i, rfl⟩ : ∃ i, j = i + 1 := ⟨j - 1, by omega⟩
  exact if_neg (by rw [h]; decide)
theorem txS_e {x : MS} {n w r : Nat} {v : Bool} (h1 : r ≤ n) (h2 : (decide (x.textLengths w = n) && allB r (x.txE w)) = v) (h3 : n ≤ r ∨ v = false) : x.txS n w = v := by
  unfold MS.txS
  rcases h3 with h | h
  · rw [show r = n by omega] at h2
    exact h2
  · subst h
    cases e : allB r (x.txE w) with
    | false => rw [allB_f e h1, Bool.and_false]
    | true => rw [e, Bool.and_true] at h2
              rw [h2, Bool.false_and]
theorem d_M_find_0 : decode prog_14_method_26_code 0 = .ok (.iconst 0, 1) := by decide +kernel
theorem d_M_find_1 : decode prog_14_method_26_code 1 = .ok (.istore_n 2, 1) := by decide +kernel
theorem d_M_find_2 : decode prog_14_method_26_code 2 = .ok (.iload_n 2, 1) := by decide +kernel
theorem d_M_find_3 : decode prog_14_method_26_code 3 = .ok (.aload_n 0, 1) := by decide +kernel
theorem d_M_find_4 : decode prog_14_method_26_code 4 = .ok (.getfield 160, 3) := by decide +kernel
theorem d_M_find_7 : decode prog_14_method_26_code 7 = .ok (.if_icmp .ge 88, 3) := by decide +kernel
theorem d_M_find_95 : decode prog_14_method_26_code 95 = .ok (.iconst (-1), 1) := by decide +kernel
theorem d_M_find_96 : decode prog_14_method_26_code 96 = .ok (.ireturn, 1) := by decide +kernel
theorem d_M_find_25 : decode prog_14_method_26_code 25 = .ok (.istore_n 3, 1) := by decide +kernel
theorem d_M_find_83 : decode prog_14_method_26_code 83 = .ok (.iload_n 3, 1) := by decide +kernel
theorem d_M_find_84 : decode prog_14_method_26_code 84 = .ok (.ifCond .eq 5, 3) := by decide +kernel
theorem d_M_find_89 : decode prog_14_method_26_code 89 = .ok (.iinc 2 1, 3) := by decide +kernel
theorem d_M_find_92 : decode prog_14_method_26_code 92 = .ok (.goto (-90), 3) := by decide +kernel
theorem d_M_find_87 : decode prog_14_method_26_code 87 = .ok (.iload_n 2, 1) := by decide +kernel
theorem d_M_find_88 : decode prog_14_method_26_code 88 = .ok (.ireturn, 1) := by decide +kernel
theorem d_M_find_26 : decode prog_14_method_26_code 26 = .ok (.iconst 0, 1) := by decide +kernel
theorem d_M_find_27 : decode prog_14_method_26_code 27 = .ok (.istore 4, 2) := by decide +kernel
theorem d_M_find_29 : decode prog_14_method_26_code 29 = .ok (.iload 4, 2) := by decide +kernel
theorem d_M_find_31 : decode prog_14_method_26_code 31 = .ok (.iload_n 1, 1) := by decide +kernel
theorem d_M_find_32 : decode prog_14_method_26_code 32 = .ok (.if_icmp .ge 51, 3) := by decide +kernel
theorem d_M_find_35 : decode prog_14_method_26_code 35 = .ok (.iload_n 3, 1) := by decide +kernel
theorem d_M_find_36 : decode prog_14_method_26_code 36 = .ok (.ifCond .eq 47, 3) := by decide +kernel
theorem d_M_find_39 : decode prog_14_method_26_code 39 = .ok (.aload_n 0, 1) := by decide +kernel
theorem d_M_find_40 : decode prog_14_method_26_code 40 = .ok (.getfield 29, 3) := by decide +kernel
theorem d_M_find_43 : decode prog_14_method_26_code 43 = .ok (.sipush 304, 3) := by decide +kernel
theorem d_M_find_46 : decode prog_14_method_26_code 46 = .ok (.iload_n 2, 1) := by decide +kernel
theorem d_M_find_47 : decode prog_14_method_26_code 47 = .ok (.imul, 1) := by decide +kernel
theorem d_M_find_48 : decode prog_14_method_26_code 48 = .ok (.iload 4, 2) := by decide +kernel
theorem d_M_find_50 : decode prog_14_method_26_code 50 = .ok (.iadd, 1) := by decide +kernel
theorem d_M_find_51 : decode prog_14_method_26_code 51 = .ok (.baload, 1) := by decide +kernel
theorem d_M_find_52 : decode prog_14_method_26_code 52 = .ok (.aload_n 0, 1) := by decide +kernel
theorem d_M_find_53 : decode prog_14_method_26_code 53 = .ok (.getfield 29, 3) := by decide +kernel
theorem d_M_find_56 : decode prog_14_method_26_code 56 = .ok (.sipush 304, 3) := by decide +kernel
theorem d_M_find_59 : decode prog_14_method_26_code 59 = .ok (.aload_n 0, 1) := by decide +kernel
theorem d_M_find_60 : decode prog_14_method_26_code 60 = .ok (.getfield 160, 3) := by decide +kernel
theorem d_M_find_63 : decode prog_14_method_26_code 63 = .ok (.imul, 1) := by decide +kernel
theorem d_M_find_64 : decode prog_14_method_26_code 64 = .ok (.iload 4, 2) := by decide +kernel
theorem d_M_find_66 : decode prog_14_method_26_code 66 = .ok (.iadd, 1) := by decide +kernel
theorem d_M_find_67 : decode prog_14_method_26_code 67 = .ok (.baload, 1) := by decide +kernel
theorem d_M_find_68 : decode prog_14_method_26_code 68 = .ok (.if_icmp .ne 7, 3) := by decide +kernel
theorem d_M_find_75 : decode prog_14_method_26_code 75 = .ok (.iconst 0, 1) := by decide +kernel
theorem d_M_find_76 : decode prog_14_method_26_code 76 = .ok (.istore_n 3, 1) := by decide +kernel
theorem d_M_find_77 : decode prog_14_method_26_code 77 = .ok (.iinc 4 1, 3) := by decide +kernel
theorem d_M_find_80 : decode prog_14_method_26_code 80 = .ok (.goto (-51), 3) := by decide +kernel
theorem d_M_find_71 : decode prog_14_method_26_code 71 = .ok (.iconst 1, 1) := by decide +kernel
theorem d_M_find_72 : decode prog_14_method_26_code 72 = .ok (.goto 4, 3) := by decide +kernel
theorem d_M_find_10 : decode prog_14_method_26_code 10 = .ok (.aload_n 0, 1) := by decide +kernel
theorem d_M_find_11 : decode prog_14_method_26_code 11 = .ok (.getfield 32, 3) := by decide +kernel
theorem d_M_find_14 : decode prog_14_method_26_code 14 = .ok (.iload_n 2, 1) := by decide +kernel
theorem d_M_find_15 : decode prog_14_method_26_code 15 = .ok (.iaload, 1) := by decide +kernel
theorem d_M_find_16 : decode prog_14_method_26_code 16 = .ok (.iload_n 1, 1) := by decide +kernel
theorem d_M_find_17 : decode prog_14_method_26_code 17 = .ok (.if_icmp .ne 7, 3) := by decide +kernel
theorem d_M_find_24 : decode prog_14_method_26_code 24 = .ok (.iconst 0, 1) := by decide +kernel
theorem d_M_find_20 : decode prog_14_method_26_code 20 = .ok (.iconst 1, 1) := by decide +kernel
theorem d_M_find_21 : decode prog_14_method_26_code 21 = .ok (.goto 4, 3) := by decide +kernel
set_option maxHeartbeats 4000000 in
set_option maxRecDepth 100000 in
theorem k_find (l : Launch) (D : va_G) (dA : Nat → ClassId) (sz : Nat) (h : Nat) (ad : Nat → Nat) (x : MS) (n : Nat) (h1 : x.seriesCount ≤ 256) (h2 : n ≤ 304) (h3 : ∀ q : Nat, q < x.seriesCount → x.textLengths q ≤ 304) : Met l ⟨"SeriesVaultModel", "find", "(I)I"⟩ [Cond.code ⟨"SeriesVaultModel", "find", "(I)I"⟩ prog_14_method_26_code 5 (some FieldType.int)] { frames := 1, cells := 0, slots := 0, locals := 0 } (pC D dA [.ref h, .int (nI n)] (MW dA h ad x) sz) (va_Qi (fun (r9 : Int32) (u9 : Unit) => r9 = x.fnd n) (fun (u9 : Unit) t9 => bW D (va_A (MW dA h ad x) sz) (MW dA h ad x) t9) (va_A (MW dA h ad x) sz)) 0 0 (va_A (MW dA h ad x) sz) := by
  refine mkC (y := ⟨"SeriesVaultModel", "find", "(I)I"⟩) (cc := prog_14_method_26_code) (maxL := 5) (av := [.ref h, .int (nI n)]) (ws := MW dA h ad x) (sz := sz) (Qc := fun A => va_Qi (fun (r9 : Int32) (u9 : Unit) => r9 = x.fnd n) (fun (u9 : Unit) t9 => bW D A (MW dA h ad x) t9) A) (by decide) (Nat.le_of_ble_eq_true rfl) ?_
  intro A p e s m below meth c ls hsz hB
  obtain ⟨hx, hb, hr, hml, hown, hin, hlk, hE, hK, hP, hD, hS, hA, hN, hl⟩ := hB
  have hown : s.vm.findClass "SeriesVaultModel" = some m.cls := hown
  have hl : lv_has ls 5 [(0, .ref h), (1, .int (nI n))] := hl
  obtain ⟨H, hH⟩ : ∃ z, z = s.heap := ⟨_, rfl⟩
  have hP : va_P D vwCl (MW dA h ad x) H := by rw [hH]; exact hP
  have hS : va_S A s.heap H [] := by rw [hH]; exact hS
  rw [← hH]
  refine lv_iconst (v := 0) hx hb d_M_find_0 (by decide) ?_
  refine lv_istore_n hx hb d_M_find_1 rfl hl (by decide) rfl (fun ls hl => ?_)
  have hl : lv_has ls 5 [(2, .int 0), (0, .ref h), (1, .int (nI n))] := hl
  have L2 : ∀ (k9 : Nat) (w : Nat) (i1 : w ≤ x.seriesCount) (i2 : x.fndG n (x.seriesCount - w) w = x.fnd n) (hk9 : x.seriesCount - w = k9), ∀ (H : Heap) (locs : List Loc) (ls : Array Slot) (hP : va_P D vwCl (MW dA h ad x) H) (hD : va_D A (MW dA h ad x)) (hS : va_S A s.heap H locs) (hl : lv_has ls 5 [(2, .int (nI w)), (1, .int (nI n)), (0, .ref h)]), W p l e ({ frames := 1, cells := 0, slots := 0, locals := 0 } : Room) s m ([.ref h, .int (nI n)] : List Value).toArray below meth c H locs 0 0 (MQ below (va_Qi (fun (r9 : Int32) (u9 : Unit) => r9 = x.fnd n) (fun (u9 : Unit) t9 => bW D A (MW dA h ad x) t9) A) ([.ref h, .int (nI n)] : List Value).toArray s 0 0 A) (F0 m 2 ls []) := by
    intro k9
    induction k9 using Nat.strongRecOn with
    | ind k9 ih2 =>
      intro w i1 i2 hk9 H locs ls hP hD hS hl
      refine lv_iload_n hx hb d_M_find_2 rfl (lv_at hl 0 rfl) ?_
      refine lv_aload_n hx hb d_M_find_3 rfl (lv_at hl 2 rfl) ?_
      refine gF (v := .int (nI x.seriesCount)) hx hb hown hE hK hP 0 rfl rfl layM 12 (by decide) w332 rfl d_M_find_4 ?_
      refine lv_icmp_ge hx hb d_M_find_7 (tgt := 95) rfl (fun g1 => ?_) (fun g1 => ?_)
      · have g1 := (nI_leI (a := x.seriesCount) (b := w) (by omega) (by omega)).mp g1
        refine lv_iconst (v := (-1)) hx hb d_M_find_95 (by decide) ?_
        exact rfI hx hb hr hlk hS () (by rw [← i2, show x.seriesCount - w = 0 by omega]; rfl) hP hD (Nat.le_of_ble_eq_true rfl) (Nat.le_of_ble_eq_true rfl) d_M_find_96
      · have g1 := mt (nI_leI (a := x.seriesCount) (b := w) (by omega) (by omega)).mpr g1
        have J25 : ∀ (v : Bool) (j0 : decide (x.textLengths w = n) = v), ∀ (H : Heap) (locs : List Loc) (ls : Array Slot) (hP : va_P D vwCl (MW dA h ad x) H) (hD : va_D A (MW dA h ad x)) (hS : va_S A s.heap H locs) (hl : lv_has ls 5 [(2, .int (nI w)), (1, .int (nI n)), (0, .ref h)]), W p l e ({ frames := 1, cells := 0, slots := 0, locals := 0 } : Room) s m ([.ref h, .int (nI n)] : List Value).toArray below meth c H locs 0 0 (MQ below (va_Qi (fun (r9 : Int32) (u9 : Unit) => r9 = x.fnd n) (fun (u9 : Unit) t9 => bW D A (MW dA h ad x) t9) A) ([.ref h, .int (nI n)] : List Value).toArray s 0 0 A) (F0 m 25 ls [.int (bI v)]) := by
          intro v j0 H locs ls hP hD hS hl
          refine lv_istore_n hx hb d_M_find_25 rfl hl (by decide) rfl (fun ls hl => ?_)
          have hl : lv_has ls 5 [(3, .int (bI v)), (2, .int (nI w)), (1, .int (nI n)), (0, .ref h)] := hl
          have J83 : ∀ (v : Bool) (j3 : x.txS n w = v), ∀ (H : Heap) (locs : List Loc) (ls : Array Slot) (hP : va_P D vwCl (MW dA h ad x) H) (hD : va_D A (MW dA h ad x)) (hS : va_S A s.heap H locs) (hl : lv_has ls 5 [(3, .int (bI v)), (2, .int (nI w)), (1, .int (nI n)), (0, .ref h)]), W p l e ({ frames := 1, cells := 0, slots := 0, locals := 0 } : Room) s m ([.ref h, .int (nI n)] : List Value).toArray below meth c H locs 0 0 (MQ below (va_Qi (fun (r9 : Int32) (u9 : Unit) => r9 = x.fnd n) (fun (u9 : Unit) t9 => bW D A (MW dA h ad x) t9) A) ([.ref h, .int (nI n)] : List Value).toArray s 0 0 A) (F0 m 83 ls []) := by
            intro v j3 H locs ls hP hD hS hl
            refine lv_iload_n hx hb d_M_find_83 rfl (lv_at hl 0 rfl) ?_
            refine lv_if_eq hx hb d_M_find_84 (tgt := 89) rfl (fun g2 => ?_) (fun g2 => ?_)
            · have g2 := bI_0 g2
              refine lv_iinc (k := 1) (v := nI (w + 1)) hx hb d_M_find_89 hl rfl (iincN (w) 1 1 (by decide)) (by decide) rfl (fun ls hl => ?_)
              have hl : lv_has ls 5 [(2, .int (nI (w + 1))), (3, .int (bI v)), (1, .int (nI n)), (0, .ref h)] := hl
              refine lv_goto hx hb d_M_find_92 (tgt := 2) rfl ?_
              exact ih2 _ (by omega) (w + 1) (by omega) (by rw [← i2, fnd_f (j := x.seriesCount - w) (by omega) (j3.trans g2), show x.seriesCount - w - 1 = x.seriesCount - (w + 1) by omega]) rfl H _ ls hP hD hS (lv_sub hl [0, 2, 3] rfl)
            · have g2 := bI_n0 g2
              refine lv_iload_n hx hb d_M_find_87 rfl (lv_at hl 1 rfl) ?_
              exact rfI hx hb hr hlk hS () (by rw [← i2, fnd_t (by omega) (j3.trans g2)]) hP hD (Nat.le_of_ble_eq_true rfl) (Nat.le_of_ble_eq_true rfl) d_M_find_88
          refine lv_iconst (v := 0) hx hb d_M_find_26 (by decide) ?_
          refine lv_istore hx hb d_M_find_27 hl (by decide) rfl (fun ls hl => ?_)
          have hl : lv_has ls 5 [(4, .int 0), (3, .int (bI v)), (2, .int (nI w)), (1, .int (nI n)), (0, .ref h)] := hl
          have L29 : ∀ (k9 : Nat) (r : Nat) (v : Bool) (j1 : r ≤ n) (j2 : (decide (x.textLengths w = n) && allB r (x.txE w)) = v) (hk9 : n - r = k9), ∀ (H : Heap) (locs : List Loc) (ls : Array Slot) (hP : va_P D vwCl (MW dA h ad x) H) (hD : va_D A (MW dA h ad x)) (hS : va_S A s.heap H locs) (hl : lv_has ls 5 [(4, .int (nI r)), (3, .int (bI v)), (2, .int (nI w)), (1, .int (nI n)), (0, .ref h)]), W p l e ({ frames := 1, cells := 0, slots := 0, locals := 0 } : Room) s m ([.ref h, .int (nI n)] : List Value).toArray below meth c H locs 0 0 (MQ below (va_Qi (fun (r9 : Int32) (u9 : Unit) => r9 = x.fnd n) (fun (u9 : Unit) t9 => bW D A (MW dA h ad x) t9) A) ([.ref h, .int (nI n)] : List Value).toArray s 0 0 A) (F0 m 29 ls []) := by
            intro k9
            induction k9 using Nat.strongRecOn with
            | ind k9 ih29 =>
              intro r v j1 j2 hk9 H locs ls hP hD hS hl
              refine lv_iload hx hb d_M_find_29 (lv_at hl 0 rfl) ?_
              refine lv_iload_n hx hb d_M_find_31 rfl (lv_at hl 3 rfl) ?_
              refine lv_icmp_ge hx hb d_M_find_32 (tgt := 83) rfl (fun g3 => ?_) (fun g3 => ?_)
              · have g3 := (nI_leI (a := n) (b := r) (by omega) (by omega)).mp g3
                exact J83 v (txS_e j1 j2 (Or.inl (by omega))) H _ ls hP hD hS (lv_sub hl [1, 2, 3, 4] rfl)
              · have g3 := mt (nI_leI (a := n) (b := r) (by omega) (by omega)).mpr g3
                refine lv_iload_n hx hb d_M_find_35 rfl (lv_at hl 1 rfl) ?_
                refine lv_if_eq hx hb d_M_find_36 (tgt := 83) rfl (fun g4 => ?_) (fun g4 => ?_)
                · have g4 := bI_0 g4
                  exact J83 v (txS_e j1 j2 (Or.inr g4)) H _ ls hP hD hS (lv_sub hl [1, 2, 3, 4] rfl)
                · have g4 := bI_n0 g4
                  refine lv_aload_n hx hb d_M_find_39 rfl (lv_at hl 4 rfl) ?_
                  refine gF (v := .ref (ad 10)) hx hb hown hE hK hP 0 rfl rfl layM 10 (by decide) w499 rfl d_M_find_40 ?_
                  refine lv_sipush (v := 304) hx hb d_M_find_43 (by decide) ?_
                  refine lv_iload_n hx hb d_M_find_46 rfl (lv_at hl 2 rfl) ?_
                  refine lv_imul hx hb d_M_find_47 (tpi (y := nI (304 * w)) (pk_mul (304) (w)) ?_)
                  refine lv_iload hx hb d_M_find_48 (lv_at hl 0 rfl) ?_
                  refine lv_iadd hx hb d_M_find_50 (tpi (y := nI ((304 * w) + r)) (nI_add (304 * w) (r)) ?_)
                  refine nbld (f := x.texts) hx hb hK hP 2 0 rfl rfl ((304 * w) + r) (by omega) (by decide) d_M_find_51 ?_
                  refine lv_aload_n hx hb d_M_find_52 rfl (lv_at hl 4 rfl) ?_
                  refine gF (v := .ref (ad 10)) hx hb hown hE hK hP 0 rfl rfl layM 10 (by decide) w499 rfl d_M_find_53 ?_
                  refine lv_sipush (v := 304) hx hb d_M_find_56 (by decide) ?_
                  refine lv_aload_n hx hb d_M_find_59 rfl (lv_at hl 4 rfl) ?_
                  refine gF (v := .int (nI x.seriesCount)) hx hb hown hE hK hP 0 rfl rfl layM 12 (by decide) w332 rfl d_M_find_60 ?_
                  refine lv_imul hx hb d_M_find_63 (tpi (y := nI (304 * x.seriesCount)) (pk_mul (304) (x.seriesCount)) ?_)
                  refine lv_iload hx hb d_M_find_64 (lv_at hl 0 rfl) ?_
                  refine lv_iadd hx hb d_M_find_66 (tpi (y := nI ((304 * x.seriesCount) + r)) (nI_add (304 * x.seriesCount) (r)) ?_)
                  refine nbld (f := x.texts) hx hb hK hP 2 0 rfl rfl ((304 * x.seriesCount) + r) (by omega) (by decide) d_M_find_67 ?_
                  refine lv_icmp_ne hx hb d_M_find_68 (tgt := 75) rfl (fun g5 => ?_) (fun g5 => ?_)
                  · have g5 := g5
                    refine lv_iconst (v := 0) hx hb d_M_find_75 (by decide) ?_
                    refine lv_istore_n hx hb d_M_find_76 rfl hl (by decide) rfl (fun ls hl => ?_)
                    have hl : lv_has ls 5 [(3, .int 0), (4, .int (nI r)), (2, .int (nI w)), (1, .int (nI n)), (0, .ref h)] := hl
                    refine lv_iinc (k := 1) (v := nI (r + 1)) hx hb d_M_find_77 hl rfl (iincN (r) 1 1 (by decide)) (by decide) rfl (fun ls hl => ?_)
                    have hl : lv_has ls 5 [(4, .int (nI (r + 1))), (3, .int 0), (2, .int (nI w)), (1, .int (nI n)), (0, .ref h)] := hl
                    refine lv_goto hx hb d_M_find_80 (tgt := 29) rfl ?_
                    exact ih29 _ (by omega) (r + 1) false (by omega) (by rw [allB_s, ← Bool.and_assoc, j2, g4]; exact decide_eq_false g5) rfl H _ ls hP hD hS (lv_sub hl [0, 1, 2, 3, 4] rfl)
                  · have g5 := g5
                    refine lv_iconst (v := 1) hx hb d_M_find_71 (by decide) ?_
                    refine lv_goto hx hb d_M_find_72 (tgt := 76) rfl ?_
                    refine lv_istore_n hx hb d_M_find_76 rfl hl (by decide) rfl (fun ls hl => ?_)
                    have hl : lv_has ls 5 [(3, .int 1), (4, .int (nI r)), (2, .int (nI w)), (1, .int (nI n)), (0, .ref h)] := hl
                    refine lv_iinc (k := 1) (v := nI (r + 1)) hx hb d_M_find_77 hl rfl (iincN (r) 1 1 (by decide)) (by decide) rfl (fun ls hl => ?_)
                    have hl : lv_has ls 5 [(4, .int (nI (r + 1))), (3, .int 1), (2, .int (nI w)), (1, .int (nI n)), (0, .ref h)] := hl
                    refine lv_goto hx hb d_M_find_80 (tgt := 29) rfl ?_
                    exact ih29 _ (by omega) (r + 1) true (by omega) (by rw [allB_s, ← Bool.and_assoc, j2, g4]; exact decide_eq_true g5) rfl H _ ls hP hD hS (lv_sub hl [0, 1, 2, 3, 4] rfl)
          exact L29 _ 0 v (Nat.zero_le _) (by rw [j0]; exact Bool.and_true _) rfl H _ ls hP hD hS (lv_sub hl [0, 1, 2, 3, 4] rfl)
        refine lv_aload_n hx hb d_M_find_10 rfl (lv_at hl 2 rfl) ?_
        refine gF (v := .ref (ad 11)) hx hb hown hE hK hP 0 rfl rfl layM 11 (by decide) w500 rfl d_M_find_11 ?_
        refine lv_iload_n hx hb d_M_find_14 rfl (lv_at hl 0 rfl) ?_
        refine nild (f := (fun z9 => nI (x.textLengths z9))) hx hb hK hP 3 1 rfl rfl (w) (by omega) (by decide) d_M_find_15 ?_
        refine lv_iload_n hx hb d_M_find_16 rfl (lv_at hl 1 rfl) ?_
        have b1 := h3 w (by omega)
        refine lv_icmp_ne hx hb d_M_find_17 (tgt := 24) rfl (fun g6 => ?_) (fun g6 => ?_)
        · have g6 := mt (nI_eq (a := x.textLengths w) (b := n) (by omega) (by omega)).mpr g6
          refine lv_iconst (v := 0) hx hb d_M_find_24 (by decide) ?_
          exact J25 false (by simp [*]) H _ ls hP hD hS (lv_sub hl [0, 1, 2] rfl)
        · have g6 := (nI_eq (a := x.textLengths w) (b := n) (by omega) (by omega)).mp g6
          refine lv_iconst (v := 1) hx hb d_M_find_20 (by decide) ?_
          refine lv_goto hx hb d_M_find_21 (tgt := 25) rfl ?_
          exact J25 true (by simp [*]) H _ ls hP hD hS (lv_sub hl [0, 1, 2] rfl)
  exact L2 _ 0 (Nat.zero_le _) rfl rfl H _ ls hP hD hS (lv_sub hl [0, 2, 1] rfl)
