theorem va_uu {α : Type} (f : Nat → α) (k : Nat) (a b : α) : va_up (va_up f k a) k b = va_up f k b := by
  funext q
  show (if q = k then b else if q = k then a else f q) = if q = k then b else f q
  split <;> rfl
theorem va_us {α : Type} (f : Nat → α) (k : Nat) (a : α) : va_up f k a k = a := if_pos rfl
/-- the row of series s among n rows of table t: its place, the last length -/
def MS.fr (x : MS) (t s : Nat) (rs : Nat → Nat) (n : Nat) : Nat → Nat → Nat → Nat × Nat
  | 0, r, v => (r, v)
  | w + 1, r, v => if n ≤ r then (r, v) else if ((MS.s_valueLength x v).cr t (rs (256 * t + r)) s).1 < 0 then x.fr t s rs n w (r + 1) ((MS.s_valueLength x v).cr t (rs (256 * t + r)) s).2 else (r, ((MS.s_valueLength x v).cr t (rs (256 * t + r)) s).2)
theorem fr_e {x : MS} {t s n w r v : Nat} {rs : Nat → Nat} (h : n ≤ r) : x.fr t s rs n w r v = (r, v) := by
  cases w with
  | zero => rfl
  | succ w => exact if_pos h
theorem fr_l {x : MS} {t s n w r v : Nat} {rs : Nat → Nat} (hw : 0 < w) (h : ¬ n ≤ r) (h2 : ((MS.s_valueLength x v).cr t (rs (256 * t + r)) s).1 < 0) : x.fr t s rs n w r v = x.fr t s rs n (w - 1) (r + 1) ((MS.s_valueLength x v).cr t (rs (256 * t + r)) s).2 := by
  obtain ⟨d, rfl⟩ : ∃ d, w = d + 1 := ⟨w - 1, by omega⟩
  show (if n ≤ r then (r, v) else if ((MS.s_valueLength x v).cr t (rs (256 * t + r)) s).1 < 0 then _ else _) = _
  rw [if_neg h, if_pos h2]
  rfl
theorem fr_g {x : MS} {t s n w r v : Nat} {rs : Nat → Nat} (hw : 0 < w) (h : ¬ n ≤ r) (h2 : ¬ ((MS.s_valueLength x v).cr t (rs (256 * t + r)) s).1 < 0) : x.fr t s rs n w r v = (r, ((MS.s_valueLength x v).cr t (rs (256 * t + r)) s).2) := by
  obtain ⟨d, rfl⟩ : ∃ d, w = d + 1 := ⟨w - 1, by omega⟩
  show (if n ≤ r then (r, v) else if ((MS.s_valueLength x v).cr t (rs (256 * t + r)) s).1 < 0 then _ else _) = _
  rw [if_neg h, if_neg h2]
/-- is a new row wanted there -/
def MS.gi (x : MS) (t s : Nat) (rs : Nat → Nat) (n r v : Nat) : Bool × Nat :=
  if n = r then (true, v) else (!decide (((MS.s_valueLength x v).cr t (rs (256 * t + r)) s).1 ≤ 0), ((MS.s_valueLength x v).cr t (rs (256 * t + r)) s).2)
/-- rows moved up, j of them from the last on -/
def shR (rs : Nat → Nat) (b n : Nat) : Nat → Nat → Nat
  | 0 => rs
  | j + 1 => va_up (shR rs b n j) (b + (n - j)) (shR rs b n j (b + (n - j) - 1))
theorem shR_at (rs : Nat → Nat) (b n : Nat) : ∀ j, j ≤ n → ∀ q, shR rs b n j q = if b + (n - j) < q ∧ q ≤ b + n then rs (q - 1) else rs q
  | 0, _, q => by
    rw [if_neg (by omega)]
    rfl
  | j + 1, hj, q => by
    have ih := shR_at rs b n j (by omega)
    show (if q = b + (n - j) then shR rs b n j (b + (n - j) - 1) else shR rs b n j q) = _
    by_cases e : q = b + (n - j)
    · rw [if_pos e, ih, if_neg (by omega), if_pos (by omega), e]
    · rw [if_neg e, ih]
      by_cases e2 : b + (n - j) < q ∧ q ≤ b + n
      · rw [if_pos e2, if_pos (by omega)]
      · rw [if_neg e2, if_neg (by omega)]
def bmF (ro : Nat → Int32) (r k : Nat) : Bool := !decide (ro k < nI r)
def bmG (ro : Nat → Int32) (k : Nat) : Int32 := ro k + 1
abbrev grT : Type := Nat × (Nat → Nat) × (Nat → Int32) × (Nat → Bool) × Nat
/-- a series put into its row -/
def MS.gr2 (x : MS) (t s : Nat) (n : Nat) (rs : Nat → Nat) (ro : Nat → Int32) (hb : Nat → Bool) (r v : Nat) : grT :=
  if (x.gi t s rs n r v).1 = true then (n + 1, va_up (shR rs (256 * t) n (n - r)) (256 * t + r) s, va_up (mapT s (bmF ro r) (bmG ro) ro) s (nI r), hb, (x.gi t s rs n r v).2) else (n, rs, va_up ro s (nI r), hb, (x.gi t s rs n r v).2)
def MS.gr1 (x : MS) (t p s : Nat) (g : grT) : grT :=
  if ((MS.s_valueLength x g.2.2.2.2).mt s p).1 = false then (g.1, g.2.1, va_up g.2.2.1 s (-1), va_up g.2.2.2.1 s false, ((MS.s_valueLength x g.2.2.2.2).mt s p).2)
  else x.gr2 t s g.1 g.2.1 (va_up g.2.2.1 s (-1)) (va_up g.2.2.2.1 s false) (x.fr t s g.2.1 g.1 (g.1 + 1) 0 ((MS.s_valueLength x g.2.2.2.2).mt s p).2).1 (x.fr t s g.2.1 g.1 (g.1 + 1) 0 ((MS.s_valueLength x g.2.2.2.2).mt s p).2).2
/-- k series put into the rows of table t -/
def MS.grG (x : MS) (t p : Nat) : Nat → grT
  | 0 => (0, x.rowSeries, x.rowOf, x.hasBefore, x.valueLength)
  | s + 1 => x.gr1 t p s (x.grG t p s)
theorem gr_no {x : MS} {t p k n v : Nat} {rs : Nat → Nat} {ro : Nat → Int32} {hb : Nat → Bool} (h : x.grG t p k = (n, rs, ro, hb, v)) (h1 : ((MS.s_valueLength x v).mt k p).1 = false) : x.grG t p (k + 1) = (n, rs, va_up ro k (-1), va_up hb k false, ((MS.s_valueLength x v).mt k p).2) := by
  show x.gr1 t p k (x.grG t p k) = _
  rw [h]
  exact if_pos h1
theorem gr_y {x : MS} {t p k n v v2 r v3 : Nat} {rs : Nat → Nat} {ro : Nat → Int32} {hb : Nat → Bool} (h : x.grG t p k = (n, rs, ro, hb, v)) (h1 : (MS.s_valueLength x v).mt k p = (true, v2)) (h2 : x.fr t k rs n (n + 1) 0 v2 = (r, v3)) : x.grG t p (k + 1) = x.gr2 t k n rs (va_up ro k (-1)) (va_up hb k false) r v3 := by
  show x.gr1 t p k (x.grG t p k) = _
  rw [h]
  unfold MS.gr1
  rw [if_neg (by rw [h1]; exact fun z => Bool.noConfusion z)]
  show x.gr2 t k n rs (va_up ro k (-1)) (va_up hb k false) (x.fr t k rs n (n + 1) 0 ((MS.s_valueLength x v).mt k p).2).1 (x.fr t k rs n (n + 1) 0 ((MS.s_valueLength x v).mt k p).2).2 = _
  rw [h1, h2]
theorem grN_new {x : MS} {t k n r v3 v4 : Nat} {rs : Nat → Nat} {ro : Nat → Int32} {hb : Nat → Bool} (h : x.gi t k rs n r v3 = (true, v4)) : x.gr2 t k n rs ro hb r v3 = (n + 1, va_up (shR rs (256 * t) n (n - r)) (256 * t + r) k, va_up (mapT k (bmF ro r) (bmG ro) ro) k (nI r), hb, v4) := by
  unfold MS.gr2
  rw [h]
  rfl
theorem gr_old {x : MS} {t k n r v3 v4 : Nat} {rs : Nat → Nat} {ro : Nat → Int32} {hb : Nat → Bool} (h : x.gi t k rs n r v3 = (false, v4)) : x.gr2 t k n rs ro hb r v3 = (n, rs, va_up ro k (nI r), hb, v4) := by
  unfold MS.gr2
  rw [h]
  rfl
theorem sh_lt {rs : Nat → Nat} {t n r k : Nat} (h : ∀ q : Nat, q < n → rs (256 * t + q) < k) (hr : r ≤ n) : ∀ q : Nat, q < n + 1 → va_up (shR rs (256 * t) n (n - r)) (256 * t + r) k (256 * t + q) < k + 1 := by
  intro q hq
  show (if 256 * t + q = 256 * t + r then k else shR rs (256 * t) n (n - r) (256 * t + q)) < k + 1
  by_cases e : 256 * t + q = 256 * t + r
  · rw [if_pos e]
    omega
  · rw [if_neg e, shR_at rs (256 * t) n (n - r) (by omega)]
    by_cases e2 : 256 * t + (n - (n - r)) < 256 * t + q ∧ 256 * t + q ≤ 256 * t + n
    · rw [if_pos e2]
      have := h (q - 1) (by omega)
      rw [show 256 * t + q - 1 = 256 * t + (q - 1) by omega]
      omega
    · rw [if_neg e2]
      have := h q (by omega)
      omega
theorem rs_sc {rs : Nat → Nat} {t n k : Nat} (h : ∀ q : Nat, q < n → rs (256 * t + q) < k) : ∀ q : Nat, q < n → rs (256 * t + q) < k + 1 := fun q hq => Nat.lt_succ_of_lt (h q hq)
theorem gr_le' {x : MS} {t p : Nat} : ∀ k, (x.grG t p k).1 ≤ k
  | 0 => Nat.le_refl 0
  | k + 1 => by
    have ih := gr_le' (x := x) (t := t) (p := p) k
    show (x.gr1 t p k (x.grG t p k)).1 ≤ k + 1
    unfold MS.gr1
    split
    · exact Nat.le_succ_of_le ih
    · unfold MS.gr2
      split
      · exact Nat.succ_le_succ ih
      · exact Nat.le_succ_of_le ih
theorem gr_le {x : MS} {t p k n v : Nat} {rs : Nat → Nat} {ro : Nat → Int32} {hb : Nat → Bool} (hk : k ≤ 256) (h : x.grG t p k = (n, rs, ro, hb, v)) : n ≤ 256 := by
  have := gr_le' (x := x) (t := t) (p := p) k
  rw [h] at this
  exact Nat.le_trans this hk
theorem fr_le {x : MS} {t s : Nat} {rs : Nat → Nat} {n : Nat} : ∀ w r v, r ≤ n → (x.fr t s rs n w r v).1 ≤ n
  | 0, r, v, h => h
  | w + 1, r, v, h => by
    unfold MS.fr
    split
    · exact h
    · split
      · exact fr_le w (r + 1) _ (by omega)
      · exact h
theorem d_M_group_0 : decode prog_14_method_68_code 0 = .ok (.aload_n 0, 1) := by decide +kernel
theorem d_M_group_1 : decode prog_14_method_68_code 1 = .ok (.getfield 97, 3) := by decide +kernel
theorem d_M_group_4 : decode prog_14_method_68_code 4 = .ok (.iload_n 1, 1) := by decide +kernel
theorem d_M_group_5 : decode prog_14_method_68_code 5 = .ok (.iconst 0, 1) := by decide +kernel
theorem d_M_group_6 : decode prog_14_method_68_code 6 = .ok (.iastore, 1) := by decide +kernel
theorem d_M_group_258 : decode prog_14_method_68_code 258 = .ok (.iconst 0, 1) := by decide +kernel
theorem d_M_group_259 : decode prog_14_method_68_code 259 = .ok (.istore_n 3, 1) := by decide +kernel
theorem d_M_group_260 : decode prog_14_method_68_code 260 = .ok (.iload_n 3, 1) := by decide +kernel
theorem d_M_group_261 : decode prog_14_method_68_code 261 = .ok (.aload_n 0, 1) := by decide +kernel
theorem d_M_group_262 : decode prog_14_method_68_code 262 = .ok (.getfield 97, 3) := by decide +kernel
theorem d_M_group_265 : decode prog_14_method_68_code 265 = .ok (.iload_n 1, 1) := by decide +kernel
theorem d_M_group_266 : decode prog_14_method_68_code 266 = .ok (.iaload, 1) := by decide +kernel
theorem d_M_group_267 : decode prog_14_method_68_code 267 = .ok (.bipush 64, 2) := by decide +kernel
theorem d_M_group_269 : decode prog_14_method_68_code 269 = .ok (.imul, 1) := by decide +kernel
theorem d_M_group_270 : decode prog_14_method_68_code 270 = .ok (.if_icmp .ge 41, 3) := by decide +kernel
theorem d_M_group_311 : decode prog_14_method_68_code 311 = .ok (.return_, 1) := by decide +kernel
theorem d_M_group_273 : decode prog_14_method_68_code 273 = .ok (.aload_n 0, 1) := by decide +kernel
theorem d_M_group_274 : decode prog_14_method_68_code 274 = .ok (.getfield 107, 3) := by decide +kernel
theorem d_M_group_277 : decode prog_14_method_68_code 277 = .ok (.iload_n 1, 1) := by decide +kernel
theorem d_M_group_278 : decode prog_14_method_68_code 278 = .ok (.sipush 256, 3) := by decide +kernel
theorem d_M_group_281 : decode prog_14_method_68_code 281 = .ok (.imul, 1) := by decide +kernel
theorem d_M_group_282 : decode prog_14_method_68_code 282 = .ok (.bipush 64, 2) := by decide +kernel
theorem d_M_group_284 : decode prog_14_method_68_code 284 = .ok (.imul, 1) := by decide +kernel
theorem d_M_group_285 : decode prog_14_method_68_code 285 = .ok (.iload_n 3, 1) := by decide +kernel
theorem d_M_group_286 : decode prog_14_method_68_code 286 = .ok (.iadd, 1) := by decide +kernel
theorem d_M_group_287 : decode prog_14_method_68_code 287 = .ok (.iconst 0, 1) := by decide +kernel
theorem d_M_group_288 : decode prog_14_method_68_code 288 = .ok (.bastore, 1) := by decide +kernel
theorem d_M_group_289 : decode prog_14_method_68_code 289 = .ok (.aload_n 0, 1) := by decide +kernel
theorem d_M_group_290 : decode prog_14_method_68_code 290 = .ok (.getfield 104, 3) := by decide +kernel
theorem d_M_group_293 : decode prog_14_method_68_code 293 = .ok (.iload_n 1, 1) := by decide +kernel
theorem d_M_group_294 : decode prog_14_method_68_code 294 = .ok (.sipush 256, 3) := by decide +kernel
theorem d_M_group_297 : decode prog_14_method_68_code 297 = .ok (.imul, 1) := by decide +kernel
theorem d_M_group_298 : decode prog_14_method_68_code 298 = .ok (.bipush 64, 2) := by decide +kernel
theorem d_M_group_300 : decode prog_14_method_68_code 300 = .ok (.imul, 1) := by decide +kernel
theorem d_M_group_301 : decode prog_14_method_68_code 301 = .ok (.iload_n 3, 1) := by decide +kernel
theorem d_M_group_302 : decode prog_14_method_68_code 302 = .ok (.iadd, 1) := by decide +kernel
theorem d_M_group_303 : decode prog_14_method_68_code 303 = .ok (.lconst 0, 1) := by decide +kernel
theorem d_M_group_304 : decode prog_14_method_68_code 304 = .ok (.lastore, 1) := by decide +kernel
theorem d_M_group_305 : decode prog_14_method_68_code 305 = .ok (.iinc 3 1, 3) := by decide +kernel
theorem d_M_group_308 : decode prog_14_method_68_code 308 = .ok (.goto (-48), 3) := by decide +kernel
theorem d_M_group_7 : decode prog_14_method_68_code 7 = .ok (.iconst 0, 1) := by decide +kernel
theorem d_M_group_8 : decode prog_14_method_68_code 8 = .ok (.istore_n 3, 1) := by decide +kernel
theorem d_M_group_9 : decode prog_14_method_68_code 9 = .ok (.iload_n 3, 1) := by decide +kernel
theorem d_M_group_10 : decode prog_14_method_68_code 10 = .ok (.aload_n 0, 1) := by decide +kernel
theorem d_M_group_11 : decode prog_14_method_68_code 11 = .ok (.getfield 160, 3) := by decide +kernel
theorem d_M_group_14 : decode prog_14_method_68_code 14 = .ok (.if_icmp .ge 244, 3) := by decide +kernel
theorem d_M_group_17 : decode prog_14_method_68_code 17 = .ok (.aload_n 0, 1) := by decide +kernel
theorem d_M_group_18 : decode prog_14_method_68_code 18 = .ok (.getfield 111, 3) := by decide +kernel
theorem d_M_group_21 : decode prog_14_method_68_code 21 = .ok (.iload_n 3, 1) := by decide +kernel
theorem d_M_group_22 : decode prog_14_method_68_code 22 = .ok (.iconst (-1), 1) := by decide +kernel
theorem d_M_group_23 : decode prog_14_method_68_code 23 = .ok (.iastore, 1) := by decide +kernel
theorem d_M_group_24 : decode prog_14_method_68_code 24 = .ok (.aload_n 0, 1) := by decide +kernel
theorem d_M_group_25 : decode prog_14_method_68_code 25 = .ok (.getfield 123, 3) := by decide +kernel
theorem d_M_group_28 : decode prog_14_method_68_code 28 = .ok (.iload_n 3, 1) := by decide +kernel
theorem d_M_group_29 : decode prog_14_method_68_code 29 = .ok (.iconst 0, 1) := by decide +kernel
theorem d_M_group_30 : decode prog_14_method_68_code 30 = .ok (.bastore, 1) := by decide +kernel
theorem d_M_group_167 : decode prog_14_method_68_code 167 = .ok (.iconst 0, 1) := by decide +kernel
theorem d_M_group_168 : decode prog_14_method_68_code 168 = .ok (.istore 5, 2) := by decide +kernel
theorem d_M_group_170 : decode prog_14_method_68_code 170 = .ok (.iload 5, 2) := by decide +kernel
theorem d_M_group_172 : decode prog_14_method_68_code 172 = .ok (.iload_n 3, 1) := by decide +kernel
theorem d_M_group_173 : decode prog_14_method_68_code 173 = .ok (.if_icmp .ge 47, 3) := by decide +kernel
theorem d_M_group_220 : decode prog_14_method_68_code 220 = .ok (.aload_n 0, 1) := by decide +kernel
theorem d_M_group_221 : decode prog_14_method_68_code 221 = .ok (.getfield 100, 3) := by decide +kernel
theorem d_M_group_224 : decode prog_14_method_68_code 224 = .ok (.sipush 256, 3) := by decide +kernel
theorem d_M_group_227 : decode prog_14_method_68_code 227 = .ok (.iload_n 1, 1) := by decide +kernel
theorem d_M_group_228 : decode prog_14_method_68_code 228 = .ok (.imul, 1) := by decide +kernel
theorem d_M_group_229 : decode prog_14_method_68_code 229 = .ok (.iload 4, 2) := by decide +kernel
theorem d_M_group_231 : decode prog_14_method_68_code 231 = .ok (.iadd, 1) := by decide +kernel
theorem d_M_group_232 : decode prog_14_method_68_code 232 = .ok (.iload_n 3, 1) := by decide +kernel
theorem d_M_group_233 : decode prog_14_method_68_code 233 = .ok (.iastore, 1) := by decide +kernel
theorem d_M_group_234 : decode prog_14_method_68_code 234 = .ok (.aload_n 0, 1) := by decide +kernel
theorem d_M_group_235 : decode prog_14_method_68_code 235 = .ok (.getfield 97, 3) := by decide +kernel
theorem d_M_group_238 : decode prog_14_method_68_code 238 = .ok (.iload_n 1, 1) := by decide +kernel
theorem d_M_group_239 : decode prog_14_method_68_code 239 = .ok (.dup2, 1) := by decide +kernel
theorem d_M_group_240 : decode prog_14_method_68_code 240 = .ok (.iaload, 1) := by decide +kernel
theorem d_M_group_241 : decode prog_14_method_68_code 241 = .ok (.iconst 1, 1) := by decide +kernel
theorem d_M_group_242 : decode prog_14_method_68_code 242 = .ok (.iadd, 1) := by decide +kernel
theorem d_M_group_243 : decode prog_14_method_68_code 243 = .ok (.iastore, 1) := by decide +kernel
theorem d_M_group_244 : decode prog_14_method_68_code 244 = .ok (.aload_n 0, 1) := by decide +kernel
theorem d_M_group_245 : decode prog_14_method_68_code 245 = .ok (.getfield 111, 3) := by decide +kernel
theorem d_M_group_248 : decode prog_14_method_68_code 248 = .ok (.iload_n 3, 1) := by decide +kernel
theorem d_M_group_249 : decode prog_14_method_68_code 249 = .ok (.iload 4, 2) := by decide +kernel
theorem d_M_group_251 : decode prog_14_method_68_code 251 = .ok (.iastore, 1) := by decide +kernel
theorem d_M_group_252 : decode prog_14_method_68_code 252 = .ok (.iinc 3 1, 3) := by decide +kernel
theorem d_M_group_255 : decode prog_14_method_68_code 255 = .ok (.goto (-246), 3) := by decide +kernel
theorem d_M_group_176 : decode prog_14_method_68_code 176 = .ok (.aload_n 0, 1) := by decide +kernel
theorem d_M_group_177 : decode prog_14_method_68_code 177 = .ok (.getfield 111, 3) := by decide +kernel
theorem d_M_group_180 : decode prog_14_method_68_code 180 = .ok (.iload 5, 2) := by decide +kernel
theorem d_M_group_182 : decode prog_14_method_68_code 182 = .ok (.aload_n 0, 1) := by decide +kernel
theorem d_M_group_183 : decode prog_14_method_68_code 183 = .ok (.getfield 111, 3) := by decide +kernel
theorem d_M_group_186 : decode prog_14_method_68_code 186 = .ok (.iload 5, 2) := by decide +kernel
theorem d_M_group_188 : decode prog_14_method_68_code 188 = .ok (.iaload, 1) := by decide +kernel
theorem d_M_group_189 : decode prog_14_method_68_code 189 = .ok (.iload 4, 2) := by decide +kernel
theorem d_M_group_191 : decode prog_14_method_68_code 191 = .ok (.if_icmp .lt 15, 3) := by decide +kernel
theorem d_M_group_206 : decode prog_14_method_68_code 206 = .ok (.aload_n 0, 1) := by decide +kernel
theorem d_M_group_207 : decode prog_14_method_68_code 207 = .ok (.getfield 111, 3) := by decide +kernel
theorem d_M_group_210 : decode prog_14_method_68_code 210 = .ok (.iload 5, 2) := by decide +kernel
theorem d_M_group_212 : decode prog_14_method_68_code 212 = .ok (.iaload, 1) := by decide +kernel
theorem d_M_group_213 : decode prog_14_method_68_code 213 = .ok (.iastore, 1) := by decide +kernel
theorem d_M_group_214 : decode prog_14_method_68_code 214 = .ok (.iinc 5 1, 3) := by decide +kernel
theorem d_M_group_217 : decode prog_14_method_68_code 217 = .ok (.goto (-47), 3) := by decide +kernel
theorem d_M_group_194 : decode prog_14_method_68_code 194 = .ok (.aload_n 0, 1) := by decide +kernel
theorem d_M_group_195 : decode prog_14_method_68_code 195 = .ok (.getfield 111, 3) := by decide +kernel
theorem d_M_group_198 : decode prog_14_method_68_code 198 = .ok (.iload 5, 2) := by decide +kernel
theorem d_M_group_200 : decode prog_14_method_68_code 200 = .ok (.iaload, 1) := by decide +kernel
theorem d_M_group_201 : decode prog_14_method_68_code 201 = .ok (.iconst 1, 1) := by decide +kernel
theorem d_M_group_202 : decode prog_14_method_68_code 202 = .ok (.iadd, 1) := by decide +kernel
theorem d_M_group_203 : decode prog_14_method_68_code 203 = .ok (.goto 10, 3) := by decide +kernel
theorem d_M_group_118 : decode prog_14_method_68_code 118 = .ok (.aload_n 0, 1) := by decide +kernel
theorem d_M_group_119 : decode prog_14_method_68_code 119 = .ok (.getfield 97, 3) := by decide +kernel
theorem d_M_group_122 : decode prog_14_method_68_code 122 = .ok (.iload_n 1, 1) := by decide +kernel
theorem d_M_group_123 : decode prog_14_method_68_code 123 = .ok (.iaload, 1) := by decide +kernel
theorem d_M_group_124 : decode prog_14_method_68_code 124 = .ok (.istore 5, 2) := by decide +kernel
theorem d_M_group_126 : decode prog_14_method_68_code 126 = .ok (.iload 5, 2) := by decide +kernel
theorem d_M_group_128 : decode prog_14_method_68_code 128 = .ok (.iload 4, 2) := by decide +kernel
theorem d_M_group_130 : decode prog_14_method_68_code 130 = .ok (.if_icmp .le 37, 3) := by decide +kernel
theorem d_M_group_133 : decode prog_14_method_68_code 133 = .ok (.aload_n 0, 1) := by decide +kernel
theorem d_M_group_134 : decode prog_14_method_68_code 134 = .ok (.getfield 100, 3) := by decide +kernel
theorem d_M_group_137 : decode prog_14_method_68_code 137 = .ok (.sipush 256, 3) := by decide +kernel
theorem d_M_group_140 : decode prog_14_method_68_code 140 = .ok (.iload_n 1, 1) := by decide +kernel
theorem d_M_group_141 : decode prog_14_method_68_code 141 = .ok (.imul, 1) := by decide +kernel
theorem d_M_group_142 : decode prog_14_method_68_code 142 = .ok (.iload 5, 2) := by decide +kernel
theorem d_M_group_144 : decode prog_14_method_68_code 144 = .ok (.iadd, 1) := by decide +kernel
theorem d_M_group_145 : decode prog_14_method_68_code 145 = .ok (.aload_n 0, 1) := by decide +kernel
theorem d_M_group_146 : decode prog_14_method_68_code 146 = .ok (.getfield 100, 3) := by decide +kernel
theorem d_M_group_149 : decode prog_14_method_68_code 149 = .ok (.sipush 256, 3) := by decide +kernel
theorem d_M_group_152 : decode prog_14_method_68_code 152 = .ok (.iload_n 1, 1) := by decide +kernel
theorem d_M_group_153 : decode prog_14_method_68_code 153 = .ok (.imul, 1) := by decide +kernel
theorem d_M_group_154 : decode prog_14_method_68_code 154 = .ok (.iload 5, 2) := by decide +kernel
theorem d_M_group_156 : decode prog_14_method_68_code 156 = .ok (.iadd, 1) := by decide +kernel
theorem d_M_group_157 : decode prog_14_method_68_code 157 = .ok (.iconst 1, 1) := by decide +kernel
theorem d_M_group_158 : decode prog_14_method_68_code 158 = .ok (.isub, 1) := by decide +kernel
theorem d_M_group_159 : decode prog_14_method_68_code 159 = .ok (.iaload, 1) := by decide +kernel
theorem d_M_group_160 : decode prog_14_method_68_code 160 = .ok (.iastore, 1) := by decide +kernel
theorem d_M_group_161 : decode prog_14_method_68_code 161 = .ok (.iinc 5 (-1), 3) := by decide +kernel
theorem d_M_group_164 : decode prog_14_method_68_code 164 = .ok (.goto (-38), 3) := by decide +kernel
theorem d_M_group_85 : decode prog_14_method_68_code 85 = .ok (.iload 4, 2) := by decide +kernel
theorem d_M_group_87 : decode prog_14_method_68_code 87 = .ok (.aload_n 0, 1) := by decide +kernel
theorem d_M_group_88 : decode prog_14_method_68_code 88 = .ok (.getfield 97, 3) := by decide +kernel
theorem d_M_group_91 : decode prog_14_method_68_code 91 = .ok (.iload_n 1, 1) := by decide +kernel
theorem d_M_group_92 : decode prog_14_method_68_code 92 = .ok (.iaload, 1) := by decide +kernel
theorem d_M_group_93 : decode prog_14_method_68_code 93 = .ok (.if_icmp .eq 25, 3) := by decide +kernel
theorem d_M_group_96 : decode prog_14_method_68_code 96 = .ok (.aload_n 0, 1) := by decide +kernel
theorem d_M_group_97 : decode prog_14_method_68_code 97 = .ok (.iload_n 1, 1) := by decide +kernel
theorem d_M_group_98 : decode prog_14_method_68_code 98 = .ok (.aload_n 0, 1) := by decide +kernel
theorem d_M_group_99 : decode prog_14_method_68_code 99 = .ok (.getfield 100, 3) := by decide +kernel
theorem d_M_group_102 : decode prog_14_method_68_code 102 = .ok (.sipush 256, 3) := by decide +kernel
theorem d_M_group_105 : decode prog_14_method_68_code 105 = .ok (.iload_n 1, 1) := by decide +kernel
theorem d_M_group_106 : decode prog_14_method_68_code 106 = .ok (.imul, 1) := by decide +kernel
theorem d_M_group_107 : decode prog_14_method_68_code 107 = .ok (.iload 4, 2) := by decide +kernel
theorem d_M_group_109 : decode prog_14_method_68_code 109 = .ok (.iadd, 1) := by decide +kernel
theorem d_M_group_110 : decode prog_14_method_68_code 110 = .ok (.iaload, 1) := by decide +kernel
theorem d_M_group_111 : decode prog_14_method_68_code 111 = .ok (.iload_n 3, 1) := by decide +kernel
theorem d_M_group_112 : decode prog_14_method_68_code 112 = .ok (.invokevirtual 394, 3) := by decide +kernel
theorem d_M_group_115 : decode prog_14_method_68_code 115 = .ok (.ifCond .le 129, 3) := by decide +kernel
theorem d_M_group_43 : decode prog_14_method_68_code 43 = .ok (.iconst 0, 1) := by decide +kernel
theorem d_M_group_44 : decode prog_14_method_68_code 44 = .ok (.istore 4, 2) := by decide +kernel
theorem d_M_group_46 : decode prog_14_method_68_code 46 = .ok (.iload 4, 2) := by decide +kernel
theorem d_M_group_48 : decode prog_14_method_68_code 48 = .ok (.aload_n 0, 1) := by decide +kernel
theorem d_M_group_49 : decode prog_14_method_68_code 49 = .ok (.getfield 97, 3) := by decide +kernel
theorem d_M_group_52 : decode prog_14_method_68_code 52 = .ok (.iload_n 1, 1) := by decide +kernel
theorem d_M_group_53 : decode prog_14_method_68_code 53 = .ok (.iaload, 1) := by decide +kernel
theorem d_M_group_54 : decode prog_14_method_68_code 54 = .ok (.if_icmp .ge 31, 3) := by decide +kernel
theorem d_M_group_57 : decode prog_14_method_68_code 57 = .ok (.aload_n 0, 1) := by decide +kernel
theorem d_M_group_58 : decode prog_14_method_68_code 58 = .ok (.iload_n 1, 1) := by decide +kernel
theorem d_M_group_59 : decode prog_14_method_68_code 59 = .ok (.aload_n 0, 1) := by decide +kernel
theorem d_M_group_60 : decode prog_14_method_68_code 60 = .ok (.getfield 100, 3) := by decide +kernel
theorem d_M_group_63 : decode prog_14_method_68_code 63 = .ok (.sipush 256, 3) := by decide +kernel
theorem d_M_group_66 : decode prog_14_method_68_code 66 = .ok (.iload_n 1, 1) := by decide +kernel
theorem d_M_group_67 : decode prog_14_method_68_code 67 = .ok (.imul, 1) := by decide +kernel
theorem d_M_group_68 : decode prog_14_method_68_code 68 = .ok (.iload 4, 2) := by decide +kernel
theorem d_M_group_70 : decode prog_14_method_68_code 70 = .ok (.iadd, 1) := by decide +kernel
theorem d_M_group_71 : decode prog_14_method_68_code 71 = .ok (.iaload, 1) := by decide +kernel
theorem d_M_group_72 : decode prog_14_method_68_code 72 = .ok (.iload_n 3, 1) := by decide +kernel
theorem d_M_group_73 : decode prog_14_method_68_code 73 = .ok (.invokevirtual 394, 3) := by decide +kernel
theorem d_M_group_76 : decode prog_14_method_68_code 76 = .ok (.ifCond .ge 9, 3) := by decide +kernel
theorem d_M_group_79 : decode prog_14_method_68_code 79 = .ok (.iinc 4 1, 3) := by decide +kernel
theorem d_M_group_82 : decode prog_14_method_68_code 82 = .ok (.goto (-36), 3) := by decide +kernel
theorem d_M_group_31 : decode prog_14_method_68_code 31 = .ok (.aload_n 0, 1) := by decide +kernel
theorem d_M_group_32 : decode prog_14_method_68_code 32 = .ok (.iload_n 3, 1) := by decide +kernel
theorem d_M_group_33 : decode prog_14_method_68_code 33 = .ok (.iload_n 2, 1) := by decide +kernel
theorem d_M_group_34 : decode prog_14_method_68_code 34 = .ok (.invokevirtual 391, 3) := by decide +kernel
theorem d_M_group_37 : decode prog_14_method_68_code 37 = .ok (.ifCond .ne 6, 3) := by decide +kernel
theorem d_M_group_40 : decode prog_14_method_68_code 40 = .ok (.goto 212, 3) := by decide +kernel
theorem w982 : Cond.methodLink "SeriesVaultModel" 394 ⟨"SeriesVaultModel", "compareRows", "(III)I"⟩ ∈ aW := aw_of (tb_10 (List.mem_of_getElem? (i := 233) rfl)) rfl
theorem w983 : Cond.code ⟨"SeriesVaultModel", "compareRows", "(III)I"⟩ prog_14_method_66_code 10 (some FieldType.int) ∈ aW := aw_of (tb_10 (List.mem_of_getElem? (i := 236) rfl)) rfl
theorem w984 : Cond.instanceMethod ⟨"SeriesVaultModel", "compareRows", "(III)I"⟩ ∈ aW := aw_of (tb_10 (List.mem_of_getElem? (i := 235) rfl)) rfl
theorem w985 : Cond.selects "SeriesVaultModel" ⟨"SeriesVaultModel", "compareRows", "(III)I"⟩ ⟨"SeriesVaultModel", "compareRows", "(III)I"⟩ ∈ aW := aw_pr (List.mem_map.mpr ⟨_, pv_8 (List.mem_of_getElem? (i := 0) rfl), rfl⟩) rfl
theorem w986 : Cond.methodLink "SeriesVaultModel" 391 ⟨"SeriesVaultModel", "matches", "(II)Z"⟩ ∈ aW := aw_of (tb_10 (List.mem_of_getElem? (i := 225) rfl)) rfl
theorem w987 : Cond.code ⟨"SeriesVaultModel", "matches", "(II)Z"⟩ prog_14_method_67_code 13 (some FieldType.boolean) ∈ aW := aw_of (tb_10 (List.mem_of_getElem? (i := 228) rfl)) rfl
theorem w988 : Cond.instanceMethod ⟨"SeriesVaultModel", "matches", "(II)Z"⟩ ∈ aW := aw_of (tb_10 (List.mem_of_getElem? (i := 227) rfl)) rfl
theorem w989 : Cond.selects "SeriesVaultModel" ⟨"SeriesVaultModel", "matches", "(II)Z"⟩ ⟨"SeriesVaultModel", "matches", "(II)Z"⟩ ∈ aW := aw_pr (List.mem_map.mpr ⟨_, pv_7 (List.mem_of_getElem? (i := 14) rfl), rfl⟩) rfl
set_option maxHeartbeats 4000000 in
set_option maxRecDepth 100000 in
theorem k_group (l : Launch) (D : va_G) (dA : Nat → ClassId) (sz : Nat) (h : Nat) (ad : Nat → Nat) (x : MS) (t : Nat) (p7 : Nat) (n9 : Nat) (rs9 : Nat → Nat) (ro9 : Nat → Int32) (hb9 : Nat → Bool) (v9 : Nat) (hsc : x.seriesCount ≤ 256) (hts : ∀ q : Nat, q < x.seriesCount → x.tOK q) (hmo : x.mOK p7) (hno : x.nOK t) (hl1 : x.length ≤ 65536) (hgr : x.grG t p7 x.seriesCount = (n9, rs9, ro9, hb9, v9)) : Met l ⟨"SeriesVaultModel", "group", "(II)V"⟩ [Cond.code ⟨"SeriesVaultModel", "group", "(II)V"⟩ prog_14_method_68_code 6 none] { frames := 3, cells := 0, slots := 0, locals := 61 } (pC D dA [.ref h, .int (nI t), .int (nI p7)] (MW dA h ad x) sz) (va_Qv (fun (u9 : Unit) => True) (fun (u9 : Unit) t9 => bW D (va_A (MW dA h ad x) sz) (MW dA h ad (MS.s_hasBefore (MS.s_rowOf (MS.s_valueLength (MS.s_isCell (MS.s_cells (MS.s_rowSeries (MS.s_tableRows x (va_up x.tableRows t n9)) rs9) (filG x.cells (t * 256 * 64) 0 (n9 * 64))) (filG x.isCell (t * 256 * 64) false (n9 * 64))) v9) ro9) hb9)) t9) (va_A (MW dA h ad x) sz)) 0 0 (va_A (MW dA h ad x) sz) := by
  refine mkC (y := ⟨"SeriesVaultModel", "group", "(II)V"⟩) (cc := prog_14_method_68_code) (maxL := 6) (av := [.ref h, .int (nI t), .int (nI p7)]) (ws := MW dA h ad x) (sz := sz) (Qc := fun A => va_Qv (fun (u9 : Unit) => True) (fun (u9 : Unit) t9 => bW D A (MW dA h ad (MS.s_hasBefore (MS.s_rowOf (MS.s_valueLength (MS.s_isCell (MS.s_cells (MS.s_rowSeries (MS.s_tableRows x (va_up x.tableRows t n9)) rs9) (filG x.cells (t * 256 * 64) 0 (n9 * 64))) (filG x.isCell (t * 256 * 64) false (n9 * 64))) v9) ro9) hb9)) t9) A) (by decide) (Nat.le_of_ble_eq_true rfl) ?_
  intro A p e s m below meth c ls hsz hB
  obtain ⟨hx, hb, hr, hml, hown, hin, hlk, hE, hK, hP, hD, hS, hA, hN, hl⟩ := hB
  have hown : s.vm.findClass "SeriesVaultModel" = some m.cls := hown
  have hl : lv_has ls 6 [(0, .ref h), (1, .int (nI t)), (2, .int (nI p7))] := hl
  obtain ⟨H, hH⟩ : ∃ z, z = s.heap := ⟨_, rfl⟩
  have hP : va_P D vwCl (MW dA h ad x) H := by rw [hH]; exact hP
  have hS : va_S A s.heap H [] := by rw [hH]; exact hS
  rw [← hH]
  have ht2 := hno.1
  refine lv_aload_n hx hb d_M_group_0 rfl (lv_at hl 0 rfl) ?_
  refine gF (v := .ref (ad 51)) hx hb hown hE hK hP 0 rfl rfl layM 51 (by decide) w521 rfl d_M_group_1 ?_
  refine lv_iload_n hx hb d_M_group_4 rfl (lv_at hl 1 rfl) ?_
  refine lv_iconst (v := 0) hx hb d_M_group_5 (by decide) ?_
  refine nistN (v := 0) hx hb hK hP hD hS 24 1 rfl rfl (t) (by omega) (by decide) d_M_group_6 (fun H locs hP hD hS => ?_)
  have hP : va_P D vwCl (MW dA h ad (MS.s_tableRows x (va_up x.tableRows t 0))) H := hP
  have hD : va_D A (MW dA h ad (MS.s_tableRows x (va_up x.tableRows t 0))) := hD
  have J258 : ∀ (H : Heap) (locs : List Loc) (ls : Array Slot) (hP : va_P D vwCl (MW dA h ad (MS.s_hasBefore (MS.s_rowOf (MS.s_valueLength (MS.s_rowSeries (MS.s_tableRows x (va_up x.tableRows t n9)) rs9) v9) ro9) hb9)) H) (hD : va_D A (MW dA h ad (MS.s_hasBefore (MS.s_rowOf (MS.s_valueLength (MS.s_rowSeries (MS.s_tableRows x (va_up x.tableRows t n9)) rs9) v9) ro9) hb9))) (hS : va_S A s.heap H locs) (hl : lv_has ls 6 [(1, .int (nI t)), (2, .int (nI p7)), (0, .ref h)]), W p l e ({ frames := 3, cells := 0, slots := 0, locals := 61 } : Room) s m ([.ref h, .int (nI t), .int (nI p7)] : List Value).toArray below meth c H locs 0 0 (MQ below (va_Qv (fun (u9 : Unit) => True) (fun (u9 : Unit) t9 => bW D A (MW dA h ad (MS.s_hasBefore (MS.s_rowOf (MS.s_valueLength (MS.s_isCell (MS.s_cells (MS.s_rowSeries (MS.s_tableRows x (va_up x.tableRows t n9)) rs9) (filG x.cells (t * 256 * 64) 0 (n9 * 64))) (filG x.isCell (t * 256 * 64) false (n9 * 64))) v9) ro9) hb9)) t9) A) ([.ref h, .int (nI t), .int (nI p7)] : List Value).toArray s 0 0 A) (F0 m 258 ls []) := by
    intro  H locs ls hP hD hS hl
    have n9l : n9 ≤ 256 := gr_le hsc hgr
    refine lv_iconst (v := 0) hx hb d_M_group_258 (by decide) ?_
    refine lv_istore_n hx hb d_M_group_259 rfl hl (by decide) rfl (fun ls hl => ?_)
    have hl : lv_has ls 6 [(3, .int 0), (1, .int (nI t)), (2, .int (nI p7)), (0, .ref h)] := hl
    have L260 : ∀ (k9 : Nat) (q : Nat) (q1 : q ≤ n9 * 64) (hk9 : n9 * 64 - q = k9), ∀ (H : Heap) (locs : List Loc) (ls : Array Slot) (hP : va_P D vwCl (MW dA h ad (MS.s_hasBefore (MS.s_rowOf (MS.s_valueLength (MS.s_isCell (MS.s_cells (MS.s_rowSeries (MS.s_tableRows x (va_up x.tableRows t n9)) rs9) (filG x.cells (t * 256 * 64) 0 q)) (filG x.isCell (t * 256 * 64) false q)) v9) ro9) hb9)) H) (hD : va_D A (MW dA h ad (MS.s_hasBefore (MS.s_rowOf (MS.s_valueLength (MS.s_isCell (MS.s_cells (MS.s_rowSeries (MS.s_tableRows x (va_up x.tableRows t n9)) rs9) (filG x.cells (t * 256 * 64) 0 q)) (filG x.isCell (t * 256 * 64) false q)) v9) ro9) hb9))) (hS : va_S A s.heap H locs) (hl : lv_has ls 6 [(3, .int (nI q)), (1, .int (nI t)), (2, .int (nI p7)), (0, .ref h)]), W p l e ({ frames := 3, cells := 0, slots := 0, locals := 61 } : Room) s m ([.ref h, .int (nI t), .int (nI p7)] : List Value).toArray below meth c H locs 0 0 (MQ below (va_Qv (fun (u9 : Unit) => True) (fun (u9 : Unit) t9 => bW D A (MW dA h ad (MS.s_hasBefore (MS.s_rowOf (MS.s_valueLength (MS.s_isCell (MS.s_cells (MS.s_rowSeries (MS.s_tableRows x (va_up x.tableRows t n9)) rs9) (filG x.cells (t * 256 * 64) 0 (n9 * 64))) (filG x.isCell (t * 256 * 64) false (n9 * 64))) v9) ro9) hb9)) t9) A) ([.ref h, .int (nI t), .int (nI p7)] : List Value).toArray s 0 0 A) (F0 m 260 ls []) := by
      intro k9
      induction k9 using Nat.strongRecOn with
      | ind k9 ih260 =>
        intro q q1 hk9 H locs ls hP hD hS hl
        refine lv_iload_n hx hb d_M_group_260 rfl (lv_at hl 0 rfl) ?_
        refine lv_aload_n hx hb d_M_group_261 rfl (lv_at hl 3 rfl) ?_
        refine gF (v := .ref (ad 51)) hx hb hown hE hK hP 0 rfl rfl layM 51 (by decide) w521 rfl d_M_group_262 ?_
        refine lv_iload_n hx hb d_M_group_265 rfl (lv_at hl 1 rfl) ?_
        refine nild (f := (fun z9 => nI ((va_up x.tableRows t n9) z9))) hx hb hK hP 24 1 rfl rfl (t) (by omega) (by decide) d_M_group_266 ?_
        refine tpi (y := nI n9) (congrArg nI (va_us _ _ _)) ?_
        refine lv_bipush (v := 64) hx hb d_M_group_267 (by decide) ?_
        refine lv_imul hx hb d_M_group_269 (tpi (y := nI (n9 * 64)) (pk_mul (n9) (64)) ?_)
        refine lv_icmp_ge hx hb d_M_group_270 (tgt := 311) rfl (fun g1 => ?_) (fun g1 => ?_)
        · have g1 := (nI_leI (a := n9 * 64) (b := q) (by omega) (by omega)).mp g1
          have e9 : (MS.s_hasBefore (MS.s_rowOf (MS.s_valueLength (MS.s_isCell (MS.s_cells (MS.s_rowSeries (MS.s_tableRows x (va_up x.tableRows t n9)) rs9) (filG x.cells (t * 256 * 64) 0 q)) (filG x.isCell (t * 256 * 64) false q)) v9) ro9) hb9 : MS) = MS.s_hasBefore (MS.s_rowOf (MS.s_valueLength (MS.s_isCell (MS.s_cells (MS.s_rowSeries (MS.s_tableRows x (va_up x.tableRows t n9)) rs9) (filG x.cells (t * 256 * 64) 0 (n9 * 64))) (filG x.isCell (t * 256 * 64) false (n9 * 64))) v9) ro9) hb9 := by rw [show (filG x.isCell (t * 256 * 64) false (n9 * 64)) = (filG x.isCell (t * 256 * 64) false q) from by (rw [show n9 * 64 = q by omega]), show (filG x.cells (t * 256 * 64) 0 (n9 * 64)) = (filG x.cells (t * 256 * 64) 0 q) from by (rw [show n9 * 64 = q by omega])] <;> rfl
          exact rfV hx hb hr hlk hS () trivial (cvP e9 hP) (cvD e9 hD) (Nat.le_of_ble_eq_true rfl) (Nat.le_of_ble_eq_true rfl) d_M_group_311
        · have g1 := mt (nI_leI (a := n9 * 64) (b := q) (by omega) (by omega)).mpr g1
          refine lv_aload_n hx hb d_M_group_273 rfl (lv_at hl 3 rfl) ?_
          refine gF (v := .ref (ad 54)) hx hb hown hE hK hP 0 rfl rfl layM 54 (by decide) w526 rfl d_M_group_274 ?_
          refine lv_iload_n hx hb d_M_group_277 rfl (lv_at hl 1 rfl) ?_
          refine lv_sipush (v := 256) hx hb d_M_group_278 (by decide) ?_
          refine lv_imul hx hb d_M_group_281 (tpi (y := nI (t * 256)) (pk_mul (t) (256)) ?_)
          refine lv_bipush (v := 64) hx hb d_M_group_282 (by decide) ?_
          refine lv_imul hx hb d_M_group_284 (tpi (y := nI ((t * 256) * 64)) (pk_mul (t * 256) (64)) ?_)
          refine lv_iload_n hx hb d_M_group_285 rfl (lv_at hl 0 rfl) ?_
          refine lv_iadd hx hb d_M_group_286 (tpi (y := nI (((t * 256) * 64) + q)) (nI_add ((t * 256) * 64) (q)) ?_)
          refine lv_iconst (v := 0) hx hb d_M_group_287 (by decide) ?_
          refine nzstB (v := false) hx hb hK hP hD hS 27 3 rfl rfl (((t * 256) * 64) + q) (by omega) (by decide) d_M_group_288 (fun H locs hP hD hS => ?_)
          have hP : va_P D vwCl (MW dA h ad (MS.s_hasBefore (MS.s_rowOf (MS.s_valueLength (MS.s_isCell (MS.s_cells (MS.s_rowSeries (MS.s_tableRows x (va_up x.tableRows t n9)) rs9) (filG x.cells (t * 256 * 64) 0 q)) (va_up (filG x.isCell (t * 256 * 64) false q) (((t * 256) * 64) + q) false)) v9) ro9) hb9)) H := hP
          have hD : va_D A (MW dA h ad (MS.s_hasBefore (MS.s_rowOf (MS.s_valueLength (MS.s_isCell (MS.s_cells (MS.s_rowSeries (MS.s_tableRows x (va_up x.tableRows t n9)) rs9) (filG x.cells (t * 256 * 64) 0 q)) (va_up (filG x.isCell (t * 256 * 64) false q) (((t * 256) * 64) + q) false)) v9) ro9) hb9)) := hD
          refine lv_aload_n hx hb d_M_group_289 rfl (lv_at hl 3 rfl) ?_
          refine gF (v := .ref (ad 53)) hx hb hown hE hK hP 0 rfl rfl layM 53 (by decide) w524 rfl d_M_group_290 ?_
          refine lv_iload_n hx hb d_M_group_293 rfl (lv_at hl 1 rfl) ?_
          refine lv_sipush (v := 256) hx hb d_M_group_294 (by decide) ?_
          refine lv_imul hx hb d_M_group_297 (tpi (y := nI (t * 256)) (pk_mul (t) (256)) ?_)
          refine lv_bipush (v := 64) hx hb d_M_group_298 (by decide) ?_
          refine lv_imul hx hb d_M_group_300 (tpi (y := nI ((t * 256) * 64)) (pk_mul (t * 256) (64)) ?_)
          refine lv_iload_n hx hb d_M_group_301 rfl (lv_at hl 0 rfl) ?_
          refine lv_iadd hx hb d_M_group_302 (tpi (y := nI (((t * 256) * 64) + q)) (nI_add ((t * 256) * 64) (q)) ?_)
          refine lv_lconst (v := 0) hx hb d_M_group_303 (by decide) ?_
          refine nlst hx hb hK hP hD hS 26 2 rfl rfl (((t * 256) * 64) + q) (by omega) (by decide) d_M_group_304 (fun H locs hP hD hS => ?_)
          have hP : va_P D vwCl (MW dA h ad (MS.s_hasBefore (MS.s_rowOf (MS.s_valueLength (MS.s_isCell (MS.s_cells (MS.s_rowSeries (MS.s_tableRows x (va_up x.tableRows t n9)) rs9) (va_up (filG x.cells (t * 256 * 64) 0 q) (((t * 256) * 64) + q) 0)) (va_up (filG x.isCell (t * 256 * 64) false q) (((t * 256) * 64) + q) false)) v9) ro9) hb9)) H := hP
          have hD : va_D A (MW dA h ad (MS.s_hasBefore (MS.s_rowOf (MS.s_valueLength (MS.s_isCell (MS.s_cells (MS.s_rowSeries (MS.s_tableRows x (va_up x.tableRows t n9)) rs9) (va_up (filG x.cells (t * 256 * 64) 0 q) (((t * 256) * 64) + q) 0)) (va_up (filG x.isCell (t * 256 * 64) false q) (((t * 256) * 64) + q) false)) v9) ro9) hb9)) := hD
          refine lv_iinc (k := 0) (v := nI (q + 1)) hx hb d_M_group_305 hl rfl (iincN (q) 1 1 (by decide)) (by decide) rfl (fun ls hl => ?_)
          have hl : lv_has ls 6 [(3, .int (nI (q + 1))), (1, .int (nI t)), (2, .int (nI p7)), (0, .ref h)] := hl
          refine lv_goto hx hb d_M_group_308 (tgt := 260) rfl ?_
          exact ih260 _ (by omega) (q + 1) (by omega) rfl H _ ls hP hD hS (lv_sub hl [0, 1, 2, 3] rfl)
    exact L260 _ 0 (Nat.zero_le _) rfl H _ ls hP hD hS (lv_sub hl [0, 1, 2, 3] rfl)
  refine lv_iconst (v := 0) hx hb d_M_group_7 (by decide) ?_
  refine lv_istore_n hx hb d_M_group_8 rfl hl (by decide) rfl (fun ls hl => ?_)
  have hl : lv_has ls 6 [(3, .int 0), (0, .ref h), (1, .int (nI t)), (2, .int (nI p7))] := hl
  have L9 : ∀ (k9 : Nat) (k : Nat) (n : Nat) (rs : Nat → Nat) (ro : Nat → Int32) (b7 : Nat → Bool) (v : Nat) (i1 : k ≤ x.seriesCount) (i2 : x.grG t p7 k = (n, rs, ro, b7, v)) (i3 : n ≤ k) (i4 : ∀ q : Nat, q < n → rs (256 * t + q) < k) (hk9 : x.seriesCount - k = k9), ∀ (H : Heap) (locs : List Loc) (ls : Array Slot) (hP : va_P D vwCl (MW dA h ad (MS.s_hasBefore (MS.s_rowOf (MS.s_valueLength (MS.s_rowSeries (MS.s_tableRows x (va_up x.tableRows t n)) rs) v) ro) b7)) H) (hD : va_D A (MW dA h ad (MS.s_hasBefore (MS.s_rowOf (MS.s_valueLength (MS.s_rowSeries (MS.s_tableRows x (va_up x.tableRows t n)) rs) v) ro) b7))) (hS : va_S A s.heap H locs) (hl : lv_has ls 6 [(3, .int (nI k)), (1, .int (nI t)), (2, .int (nI p7)), (0, .ref h)]), W p l e ({ frames := 3, cells := 0, slots := 0, locals := 61 } : Room) s m ([.ref h, .int (nI t), .int (nI p7)] : List Value).toArray below meth c H locs 0 0 (MQ below (va_Qv (fun (u9 : Unit) => True) (fun (u9 : Unit) t9 => bW D A (MW dA h ad (MS.s_hasBefore (MS.s_rowOf (MS.s_valueLength (MS.s_isCell (MS.s_cells (MS.s_rowSeries (MS.s_tableRows x (va_up x.tableRows t n9)) rs9) (filG x.cells (t * 256 * 64) 0 (n9 * 64))) (filG x.isCell (t * 256 * 64) false (n9 * 64))) v9) ro9) hb9)) t9) A) ([.ref h, .int (nI t), .int (nI p7)] : List Value).toArray s 0 0 A) (F0 m 9 ls []) := by
    intro k9
    induction k9 using Nat.strongRecOn with
    | ind k9 ih9 =>
      intro k n rs ro b7 v i1 i2 i3 i4 hk9 H locs ls hP hD hS hl
      refine lv_iload_n hx hb d_M_group_9 rfl (lv_at hl 0 rfl) ?_
      refine lv_aload_n hx hb d_M_group_10 rfl (lv_at hl 3 rfl) ?_
      refine gF (v := .int (nI x.seriesCount)) hx hb hown hE hK hP 0 rfl rfl layM 12 (by decide) w332 rfl d_M_group_11 ?_
      refine lv_icmp_ge hx hb d_M_group_14 (tgt := 258) rfl (fun g2 => ?_) (fun g2 => ?_)
      · have g2 := (nI_leI (a := x.seriesCount) (b := k) (by omega) (by omega)).mp g2
        have e9 : (MS.s_hasBefore (MS.s_rowOf (MS.s_valueLength (MS.s_rowSeries (MS.s_tableRows x (va_up x.tableRows t n)) rs) v) ro) b7 : MS) = MS.s_hasBefore (MS.s_rowOf (MS.s_valueLength (MS.s_rowSeries (MS.s_tableRows x (va_up x.tableRows t n9)) rs9) v9) ro9) hb9 := by rw [show (va_up x.tableRows t n9) = (va_up x.tableRows t n) from (by rw [show n9 = n from congrArg (fun z => z.1) (hgr.symm.trans ((congrArg (x.grG t p7) (show x.seriesCount = k by omega)).trans i2))]), show hb9 = b7 from (congrArg (fun z => z.2.2.2.1) (hgr.symm.trans ((congrArg (x.grG t p7) (show x.seriesCount = k by omega)).trans i2))), show ro9 = ro from (congrArg (fun z => z.2.2.1) (hgr.symm.trans ((congrArg (x.grG t p7) (show x.seriesCount = k by omega)).trans i2))), show rs9 = rs from (congrArg (fun z => z.2.1) (hgr.symm.trans ((congrArg (x.grG t p7) (show x.seriesCount = k by omega)).trans i2))), show v9 = v from (congrArg (fun z => z.2.2.2.2) (hgr.symm.trans ((congrArg (x.grG t p7) (show x.seriesCount = k by omega)).trans i2)))] <;> rfl
        exact J258  H _ ls (cvP e9 hP) (cvD e9 hD) hS (lv_sub hl [1, 2, 3] rfl)
      · have g2 := mt (nI_leI (a := x.seriesCount) (b := k) (by omega) (by omega)).mpr g2
        refine lv_aload_n hx hb d_M_group_17 rfl (lv_at hl 3 rfl) ?_
        refine gF (v := .ref (ad 61)) hx hb hown hE hK hP 0 rfl rfl layM 61 (by decide) w527 rfl d_M_group_18 ?_
        refine lv_iload_n hx hb d_M_group_21 rfl (lv_at hl 0 rfl) ?_
        refine lv_iconst (v := (-1)) hx hb d_M_group_22 (by decide) ?_
        refine nist hx hb hK hP hD hS 28 1 rfl rfl (k) (by omega) (by decide) d_M_group_23 (fun H locs hP hD hS => ?_)
        have hP : va_P D vwCl (MW dA h ad (MS.s_hasBefore (MS.s_rowOf (MS.s_valueLength (MS.s_rowSeries (MS.s_tableRows x (va_up x.tableRows t n)) rs) v) (va_up ro k (-1))) b7)) H := hP
        have hD : va_D A (MW dA h ad (MS.s_hasBefore (MS.s_rowOf (MS.s_valueLength (MS.s_rowSeries (MS.s_tableRows x (va_up x.tableRows t n)) rs) v) (va_up ro k (-1))) b7)) := hD
        refine lv_aload_n hx hb d_M_group_24 rfl (lv_at hl 3 rfl) ?_
        refine gF (v := .ref (ad 65)) hx hb hown hE hK hP 0 rfl rfl layM 65 (by decide) w531 rfl d_M_group_25 ?_
        refine lv_iload_n hx hb d_M_group_28 rfl (lv_at hl 0 rfl) ?_
        refine lv_iconst (v := 0) hx hb d_M_group_29 (by decide) ?_
        refine nzstB (v := false) hx hb hK hP hD hS 32 3 rfl rfl (k) (by omega) (by decide) d_M_group_30 (fun H locs hP hD hS => ?_)
        have hP : va_P D vwCl (MW dA h ad (MS.s_hasBefore (MS.s_rowOf (MS.s_valueLength (MS.s_rowSeries (MS.s_tableRows x (va_up x.tableRows t n)) rs) v) (va_up ro k (-1))) (va_up b7 k false))) H := hP
        have hD : va_D A (MW dA h ad (MS.s_hasBefore (MS.s_rowOf (MS.s_valueLength (MS.s_rowSeries (MS.s_tableRows x (va_up x.tableRows t n)) rs) v) (va_up ro k (-1))) (va_up b7 k false))) := hD
        have J43 : ∀ (v2 : Nat) (e1 : (MS.s_valueLength x v).mt k p7 = (true, v2)), ∀ (H : Heap) (locs : List Loc) (ls : Array Slot) (hP : va_P D vwCl (MW dA h ad (MS.s_hasBefore (MS.s_rowOf (MS.s_valueLength (MS.s_rowSeries (MS.s_tableRows x (va_up x.tableRows t n)) rs) v2) (va_up ro k (-1))) (va_up b7 k false))) H) (hD : va_D A (MW dA h ad (MS.s_hasBefore (MS.s_rowOf (MS.s_valueLength (MS.s_rowSeries (MS.s_tableRows x (va_up x.tableRows t n)) rs) v2) (va_up ro k (-1))) (va_up b7 k false)))) (hS : va_S A s.heap H locs) (hl : lv_has ls 6 [(3, .int (nI k)), (1, .int (nI t)), (2, .int (nI p7)), (0, .ref h)]), W p l e ({ frames := 3, cells := 0, slots := 0, locals := 61 } : Room) s m ([.ref h, .int (nI t), .int (nI p7)] : List Value).toArray below meth c H locs 0 0 (MQ below (va_Qv (fun (u9 : Unit) => True) (fun (u9 : Unit) t9 => bW D A (MW dA h ad (MS.s_hasBefore (MS.s_rowOf (MS.s_valueLength (MS.s_isCell (MS.s_cells (MS.s_rowSeries (MS.s_tableRows x (va_up x.tableRows t n9)) rs9) (filG x.cells (t * 256 * 64) 0 (n9 * 64))) (filG x.isCell (t * 256 * 64) false (n9 * 64))) v9) ro9) hb9)) t9) A) ([.ref h, .int (nI t), .int (nI p7)] : List Value).toArray s 0 0 A) (F0 m 43 ls []) := by
          intro v2 e1 H locs ls hP hD hS hl
          have J85 : ∀ (r : Nat) (v3 : Nat) (f1 : x.fr t k rs n (n + 1) 0 v2 = (r, v3)) (f2 : r ≤ n), ∀ (H : Heap) (locs : List Loc) (ls : Array Slot) (hP : va_P D vwCl (MW dA h ad (MS.s_hasBefore (MS.s_rowOf (MS.s_valueLength (MS.s_rowSeries (MS.s_tableRows x (va_up x.tableRows t n)) rs) v3) (va_up ro k (-1))) (va_up b7 k false))) H) (hD : va_D A (MW dA h ad (MS.s_hasBefore (MS.s_rowOf (MS.s_valueLength (MS.s_rowSeries (MS.s_tableRows x (va_up x.tableRows t n)) rs) v3) (va_up ro k (-1))) (va_up b7 k false)))) (hS : va_S A s.heap H locs) (hl : lv_has ls 6 [(4, .int (nI r)), (3, .int (nI k)), (1, .int (nI t)), (2, .int (nI p7)), (0, .ref h)]), W p l e ({ frames := 3, cells := 0, slots := 0, locals := 61 } : Room) s m ([.ref h, .int (nI t), .int (nI p7)] : List Value).toArray below meth c H locs 0 0 (MQ below (va_Qv (fun (u9 : Unit) => True) (fun (u9 : Unit) t9 => bW D A (MW dA h ad (MS.s_hasBefore (MS.s_rowOf (MS.s_valueLength (MS.s_isCell (MS.s_cells (MS.s_rowSeries (MS.s_tableRows x (va_up x.tableRows t n9)) rs9) (filG x.cells (t * 256 * 64) 0 (n9 * 64))) (filG x.isCell (t * 256 * 64) false (n9 * 64))) v9) ro9) hb9)) t9) A) ([.ref h, .int (nI t), .int (nI p7)] : List Value).toArray s 0 0 A) (F0 m 85 ls []) := by
            intro r v3 f1 f2 H locs ls hP hD hS hl
            have J118 : ∀ (v4 : Nat) (gi1 : x.gi t k rs n r v3 = (true, v4)), ∀ (H : Heap) (locs : List Loc) (ls : Array Slot) (hP : va_P D vwCl (MW dA h ad (MS.s_hasBefore (MS.s_rowOf (MS.s_valueLength (MS.s_rowSeries (MS.s_tableRows x (va_up x.tableRows t n)) rs) v4) (va_up ro k (-1))) (va_up b7 k false))) H) (hD : va_D A (MW dA h ad (MS.s_hasBefore (MS.s_rowOf (MS.s_valueLength (MS.s_rowSeries (MS.s_tableRows x (va_up x.tableRows t n)) rs) v4) (va_up ro k (-1))) (va_up b7 k false)))) (hS : va_S A s.heap H locs) (hl : lv_has ls 6 [(4, .int (nI r)), (3, .int (nI k)), (1, .int (nI t)), (2, .int (nI p7)), (0, .ref h)]), W p l e ({ frames := 3, cells := 0, slots := 0, locals := 61 } : Room) s m ([.ref h, .int (nI t), .int (nI p7)] : List Value).toArray below meth c H locs 0 0 (MQ below (va_Qv (fun (u9 : Unit) => True) (fun (u9 : Unit) t9 => bW D A (MW dA h ad (MS.s_hasBefore (MS.s_rowOf (MS.s_valueLength (MS.s_isCell (MS.s_cells (MS.s_rowSeries (MS.s_tableRows x (va_up x.tableRows t n9)) rs9) (filG x.cells (t * 256 * 64) 0 (n9 * 64))) (filG x.isCell (t * 256 * 64) false (n9 * 64))) v9) ro9) hb9)) t9) A) ([.ref h, .int (nI t), .int (nI p7)] : List Value).toArray s 0 0 A) (F0 m 118 ls []) := by
              intro v4 gi1 H locs ls hP hD hS hl
              have J167 : ∀ (H : Heap) (locs : List Loc) (ls : Array Slot) (hP : va_P D vwCl (MW dA h ad (MS.s_hasBefore (MS.s_rowOf (MS.s_valueLength (MS.s_rowSeries (MS.s_tableRows x (va_up x.tableRows t n)) (shR rs (256 * t) n (n - r))) v4) (va_up ro k (-1))) (va_up b7 k false))) H) (hD : va_D A (MW dA h ad (MS.s_hasBefore (MS.s_rowOf (MS.s_valueLength (MS.s_rowSeries (MS.s_tableRows x (va_up x.tableRows t n)) (shR rs (256 * t) n (n - r))) v4) (va_up ro k (-1))) (va_up b7 k false)))) (hS : va_S A s.heap H locs) (hl : lv_has ls 6 [(4, .int (nI r)), (3, .int (nI k)), (1, .int (nI t)), (2, .int (nI p7)), (0, .ref h)]), W p l e ({ frames := 3, cells := 0, slots := 0, locals := 61 } : Room) s m ([.ref h, .int (nI t), .int (nI p7)] : List Value).toArray below meth c H locs 0 0 (MQ below (va_Qv (fun (u9 : Unit) => True) (fun (u9 : Unit) t9 => bW D A (MW dA h ad (MS.s_hasBefore (MS.s_rowOf (MS.s_valueLength (MS.s_isCell (MS.s_cells (MS.s_rowSeries (MS.s_tableRows x (va_up x.tableRows t n9)) rs9) (filG x.cells (t * 256 * 64) 0 (n9 * 64))) (filG x.isCell (t * 256 * 64) false (n9 * 64))) v9) ro9) hb9)) t9) A) ([.ref h, .int (nI t), .int (nI p7)] : List Value).toArray s 0 0 A) (F0 m 167 ls []) := by
                intro  H locs ls hP hD hS hl
                refine lv_iconst (v := 0) hx hb d_M_group_167 (by decide) ?_
                refine lv_istore hx hb d_M_group_168 hl (by decide) rfl (fun ls hl => ?_)
                have hl : lv_has ls 6 [(5, .int 0), (4, .int (nI r)), (3, .int (nI k)), (1, .int (nI t)), (2, .int (nI p7)), (0, .ref h)] := hl
                have L170 : ∀ (k9 : Nat) (q : Nat) (q1 : q ≤ k) (hk9 : k - q = k9), ∀ (H : Heap) (locs : List Loc) (ls : Array Slot) (hP : va_P D vwCl (MW dA h ad (MS.s_hasBefore (MS.s_rowOf (MS.s_valueLength (MS.s_rowSeries (MS.s_tableRows x (va_up x.tableRows t n)) (shR rs (256 * t) n (n - r))) v4) (mapT q (bmF (va_up ro k (-1)) r) (bmG (va_up ro k (-1))) (va_up ro k (-1)))) (va_up b7 k false))) H) (hD : va_D A (MW dA h ad (MS.s_hasBefore (MS.s_rowOf (MS.s_valueLength (MS.s_rowSeries (MS.s_tableRows x (va_up x.tableRows t n)) (shR rs (256 * t) n (n - r))) v4) (mapT q (bmF (va_up ro k (-1)) r) (bmG (va_up ro k (-1))) (va_up ro k (-1)))) (va_up b7 k false)))) (hS : va_S A s.heap H locs) (hl : lv_has ls 6 [(5, .int (nI q)), (4, .int (nI r)), (3, .int (nI k)), (1, .int (nI t)), (2, .int (nI p7)), (0, .ref h)]), W p l e ({ frames := 3, cells := 0, slots := 0, locals := 61 } : Room) s m ([.ref h, .int (nI t), .int (nI p7)] : List Value).toArray below meth c H locs 0 0 (MQ below (va_Qv (fun (u9 : Unit) => True) (fun (u9 : Unit) t9 => bW D A (MW dA h ad (MS.s_hasBefore (MS.s_rowOf (MS.s_valueLength (MS.s_isCell (MS.s_cells (MS.s_rowSeries (MS.s_tableRows x (va_up x.tableRows t n9)) rs9) (filG x.cells (t * 256 * 64) 0 (n9 * 64))) (filG x.isCell (t * 256 * 64) false (n9 * 64))) v9) ro9) hb9)) t9) A) ([.ref h, .int (nI t), .int (nI p7)] : List Value).toArray s 0 0 A) (F0 m 170 ls []) := by
                  intro k9
                  induction k9 using Nat.strongRecOn with
                  | ind k9 ih170 =>
                    intro q q1 hk9 H locs ls hP hD hS hl
                    refine lv_iload hx hb d_M_group_170 (lv_at hl 0 rfl) ?_
                    refine lv_iload_n hx hb d_M_group_172 rfl (lv_at hl 2 rfl) ?_
                    refine lv_icmp_ge hx hb d_M_group_173 (tgt := 220) rfl (fun g3 => ?_) (fun g3 => ?_)
                    · have g3 := (nI_leI (a := k) (b := q) (by omega) (by omega)).mp g3
                      refine lv_aload_n hx hb d_M_group_220 rfl (lv_at hl 5 rfl) ?_
                      refine gF (v := .ref (ad 52)) hx hb hown hE hK hP 0 rfl rfl layM 52 (by decide) w522 rfl d_M_group_221 ?_
                      refine lv_sipush (v := 256) hx hb d_M_group_224 (by decide) ?_
                      refine lv_iload_n hx hb d_M_group_227 rfl (lv_at hl 3 rfl) ?_
                      refine lv_imul hx hb d_M_group_228 (tpi (y := nI (256 * t)) (pk_mul (256) (t)) ?_)
                      refine lv_iload hx hb d_M_group_229 (lv_at hl 1 rfl) ?_
                      refine lv_iadd hx hb d_M_group_231 (tpi (y := nI ((256 * t) + r)) (nI_add (256 * t) (r)) ?_)
                      refine lv_iload_n hx hb d_M_group_232 rfl (lv_at hl 2 rfl) ?_
                      refine nistN (v := k) hx hb hK hP hD hS 25 1 rfl rfl ((256 * t) + r) (by omega) (by decide) d_M_group_233 (fun H locs hP hD hS => ?_)
                      have hP : va_P D vwCl (MW dA h ad (MS.s_hasBefore (MS.s_rowOf (MS.s_valueLength (MS.s_rowSeries (MS.s_tableRows x (va_up x.tableRows t n)) (va_up (shR rs (256 * t) n (n - r)) ((256 * t) + r) k)) v4) (mapT q (bmF (va_up ro k (-1)) r) (bmG (va_up ro k (-1))) (va_up ro k (-1)))) (va_up b7 k false))) H := hP
                      have hD : va_D A (MW dA h ad (MS.s_hasBefore (MS.s_rowOf (MS.s_valueLength (MS.s_rowSeries (MS.s_tableRows x (va_up x.tableRows t n)) (va_up (shR rs (256 * t) n (n - r)) ((256 * t) + r) k)) v4) (mapT q (bmF (va_up ro k (-1)) r) (bmG (va_up ro k (-1))) (va_up ro k (-1)))) (va_up b7 k false))) := hD
                      refine lv_aload_n hx hb d_M_group_234 rfl (lv_at hl 5 rfl) ?_
                      refine gF (v := .ref (ad 51)) hx hb hown hE hK hP 0 rfl rfl layM 51 (by decide) w521 rfl d_M_group_235 ?_
                      refine lv_iload_n hx hb d_M_group_238 rfl (lv_at hl 3 rfl) ?_
                      refine lv_dup2_11 hx hb d_M_group_239 rfl rfl ?_
                      refine nild (f := (fun z9 => nI ((va_up x.tableRows t n) z9))) hx hb hK hP 24 1 rfl rfl (t) (by omega) (by decide) d_M_group_240 ?_
                      refine tpi (y := nI n) (congrArg nI (va_us _ _ _)) ?_
                      refine lv_iconst (v := 1) hx hb d_M_group_241 (by decide) ?_
                      refine lv_iadd hx hb d_M_group_242 (tpi (y := nI (n + 1)) (nI_add (n) (1)) ?_)
                      refine nistN (v := n + 1) hx hb hK hP hD hS 24 1 rfl rfl (t) (by omega) (by decide) d_M_group_243 (fun H locs hP hD hS => ?_)
                      have hP : va_P D vwCl (MW dA h ad (MS.s_hasBefore (MS.s_rowOf (MS.s_valueLength (MS.s_rowSeries (MS.s_tableRows x (va_up (va_up x.tableRows t n) t (n + 1))) (va_up (shR rs (256 * t) n (n - r)) ((256 * t) + r) k)) v4) (mapT q (bmF (va_up ro k (-1)) r) (bmG (va_up ro k (-1))) (va_up ro k (-1)))) (va_up b7 k false))) H := hP
                      have hD : va_D A (MW dA h ad (MS.s_hasBefore (MS.s_rowOf (MS.s_valueLength (MS.s_rowSeries (MS.s_tableRows x (va_up (va_up x.tableRows t n) t (n + 1))) (va_up (shR rs (256 * t) n (n - r)) ((256 * t) + r) k)) v4) (mapT q (bmF (va_up ro k (-1)) r) (bmG (va_up ro k (-1))) (va_up ro k (-1)))) (va_up b7 k false))) := hD
                      refine lv_aload_n hx hb d_M_group_244 rfl (lv_at hl 5 rfl) ?_
                      refine gF (v := .ref (ad 61)) hx hb hown hE hK hP 0 rfl rfl layM 61 (by decide) w527 rfl d_M_group_245 ?_
                      refine lv_iload_n hx hb d_M_group_248 rfl (lv_at hl 2 rfl) ?_
                      refine lv_iload hx hb d_M_group_249 (lv_at hl 1 rfl) ?_
                      refine nist hx hb hK hP hD hS 28 1 rfl rfl (k) (by omega) (by decide) d_M_group_251 (fun H locs hP hD hS => ?_)
                      have hP : va_P D vwCl (MW dA h ad (MS.s_hasBefore (MS.s_rowOf (MS.s_valueLength (MS.s_rowSeries (MS.s_tableRows x (va_up (va_up x.tableRows t n) t (n + 1))) (va_up (shR rs (256 * t) n (n - r)) ((256 * t) + r) k)) v4) (va_up (mapT q (bmF (va_up ro k (-1)) r) (bmG (va_up ro k (-1))) (va_up ro k (-1))) k (nI r))) (va_up b7 k false))) H := hP
                      have hD : va_D A (MW dA h ad (MS.s_hasBefore (MS.s_rowOf (MS.s_valueLength (MS.s_rowSeries (MS.s_tableRows x (va_up (va_up x.tableRows t n) t (n + 1))) (va_up (shR rs (256 * t) n (n - r)) ((256 * t) + r) k)) v4) (va_up (mapT q (bmF (va_up ro k (-1)) r) (bmG (va_up ro k (-1))) (va_up ro k (-1))) k (nI r))) (va_up b7 k false))) := hD
                      refine lv_iinc (k := 2) (v := nI (k + 1)) hx hb d_M_group_252 hl rfl (iincN (k) 1 1 (by decide)) (by decide) rfl (fun ls hl => ?_)
                      have hl : lv_has ls 6 [(3, .int (nI (k + 1))), (5, .int (nI q)), (4, .int (nI r)), (1, .int (nI t)), (2, .int (nI p7)), (0, .ref h)] := hl
                      refine lv_goto hx hb d_M_group_255 (tgt := 9) rfl ?_
                      have e9 : (MS.s_hasBefore (MS.s_rowOf (MS.s_valueLength (MS.s_rowSeries (MS.s_tableRows x (va_up (va_up x.tableRows t n) t (n + 1))) (va_up (shR rs (256 * t) n (n - r)) ((256 * t) + r) k)) v4) (va_up (mapT q (bmF (va_up ro k (-1)) r) (bmG (va_up ro k (-1))) (va_up ro k (-1))) k (nI r))) (va_up b7 k false) : MS) = MS.s_hasBefore (MS.s_rowOf (MS.s_valueLength (MS.s_rowSeries (MS.s_tableRows x (va_up x.tableRows t (n + 1))) (va_up (shR rs (256 * t) n (n - r)) ((256 * t) + r) k)) v4) (va_up (mapT q (bmF (va_up ro k (-1)) r) (bmG (va_up ro k (-1))) (va_up ro k (-1))) k (nI r))) (va_up b7 k false) := by rw [show (va_up x.tableRows t (n + 1)) = (va_up (va_up x.tableRows t n) t (n + 1)) from (by first | rfl | exact (va_uu _ _ _ _).symm)] <;> rfl
                      exact ih9 _ (by omega) (k + 1) (n + 1) (va_up (shR rs (256 * t) n (n - r)) ((256 * t) + r) k) (va_up (mapT q (bmF (va_up ro k (-1)) r) (bmG (va_up ro k (-1))) (va_up ro k (-1))) k (nI r)) (va_up b7 k false) v4 (by omega) (by rw [show q = k by omega]; exact (gr_y i2 e1 f1).trans (grN_new gi1)) (by omega) (sh_lt i4 f2) rfl H _ ls (cvP e9 hP) (cvD e9 hD) hS (lv_sub hl [0, 3, 4, 5] rfl)
                    · have g3 := mt (nI_leI (a := k) (b := q) (by omega) (by omega)).mpr g3
                      refine lv_aload_n hx hb d_M_group_176 rfl (lv_at hl 5 rfl) ?_
                      refine gF (v := .ref (ad 61)) hx hb hown hE hK hP 0 rfl rfl layM 61 (by decide) w527 rfl d_M_group_177 ?_
                      refine lv_iload hx hb d_M_group_180 (lv_at hl 0 rfl) ?_
                      refine lv_aload_n hx hb d_M_group_182 rfl (lv_at hl 5 rfl) ?_
                      refine gF (v := .ref (ad 61)) hx hb hown hE hK hP 0 rfl rfl layM 61 (by decide) w527 rfl d_M_group_183 ?_
                      refine lv_iload hx hb d_M_group_186 (lv_at hl 0 rfl) ?_
                      refine nild (f := (mapT q (bmF (va_up ro k (-1)) r) (bmG (va_up ro k (-1))) (va_up ro k (-1)))) hx hb hK hP 28 1 rfl rfl (q) (by omega) (by decide) d_M_group_188 ?_
                      refine tpi (y := ((va_up ro k (-1)) q)) (mapT_at _ _ _ (Nat.le_refl _)) ?_
                      refine lv_iload hx hb d_M_group_189 (lv_at hl 1 rfl) ?_
                      refine lv_icmp_lt hx hb d_M_group_191 (tgt := 206) rfl (fun g4 => ?_) (fun g4 => ?_)
                      · have g4 := g4
                        refine lv_aload_n hx hb d_M_group_206 rfl (lv_at hl 5 rfl) ?_
                        refine gF (v := .ref (ad 61)) hx hb hown hE hK hP 0 rfl rfl layM 61 (by decide) w527 rfl d_M_group_207 ?_
                        refine lv_iload hx hb d_M_group_210 (lv_at hl 0 rfl) ?_
                        refine nild (f := (mapT q (bmF (va_up ro k (-1)) r) (bmG (va_up ro k (-1))) (va_up ro k (-1)))) hx hb hK hP 28 1 rfl rfl (q) (by omega) (by decide) d_M_group_212 ?_
                        refine tpi (y := ((va_up ro k (-1)) q)) (mapT_at _ _ _ (Nat.le_refl _)) ?_
                        refine nist hx hb hK hP hD hS 28 1 rfl rfl (q) (by omega) (by decide) d_M_group_213 (fun H locs hP hD hS => ?_)
                        have hP : va_P D vwCl (MW dA h ad (MS.s_hasBefore (MS.s_rowOf (MS.s_valueLength (MS.s_rowSeries (MS.s_tableRows x (va_up x.tableRows t n)) (shR rs (256 * t) n (n - r))) v4) (va_up (mapT q (bmF (va_up ro k (-1)) r) (bmG (va_up ro k (-1))) (va_up ro k (-1))) q ((va_up ro k (-1)) q))) (va_up b7 k false))) H := hP
                        have hD : va_D A (MW dA h ad (MS.s_hasBefore (MS.s_rowOf (MS.s_valueLength (MS.s_rowSeries (MS.s_tableRows x (va_up x.tableRows t n)) (shR rs (256 * t) n (n - r))) v4) (va_up (mapT q (bmF (va_up ro k (-1)) r) (bmG (va_up ro k (-1))) (va_up ro k (-1))) q ((va_up ro k (-1)) q))) (va_up b7 k false))) := hD
                        refine lv_iinc (k := 0) (v := nI (q + 1)) hx hb d_M_group_214 hl rfl (iincN (q) 1 1 (by decide)) (by decide) rfl (fun ls hl => ?_)
                        have hl : lv_has ls 6 [(5, .int (nI (q + 1))), (4, .int (nI r)), (3, .int (nI k)), (1, .int (nI t)), (2, .int (nI p7)), (0, .ref h)] := hl
                        refine lv_goto hx hb d_M_group_217 (tgt := 170) rfl ?_
                        have e9 : (MS.s_hasBefore (MS.s_rowOf (MS.s_valueLength (MS.s_rowSeries (MS.s_tableRows x (va_up x.tableRows t n)) (shR rs (256 * t) n (n - r))) v4) (va_up (mapT q (bmF (va_up ro k (-1)) r) (bmG (va_up ro k (-1))) (va_up ro k (-1))) q ((va_up ro k (-1)) q))) (va_up b7 k false) : MS) = MS.s_hasBefore (MS.s_rowOf (MS.s_valueLength (MS.s_rowSeries (MS.s_tableRows x (va_up x.tableRows t n)) (shR rs (256 * t) n (n - r))) v4) (mapT (q + 1) (bmF (va_up ro k (-1)) r) (bmG (va_up ro k (-1))) (va_up ro k (-1)))) (va_up b7 k false) := by rw [show (mapT (q + 1) (bmF (va_up ro k (-1)) r) (bmG (va_up ro k (-1))) (va_up ro k (-1))) = (va_up (mapT q (bmF (va_up ro k (-1)) r) (bmG (va_up ro k (-1))) (va_up ro k (-1))) q ((va_up ro k (-1)) q)) from (mapT_u (by show (!decide _) = false; rw [decide_eq_true g4]; rfl) rfl)] <;> rfl
                        exact ih170 _ (by omega) (q + 1) (by omega) rfl H _ ls (cvP e9 hP) (cvD e9 hD) hS (lv_sub hl [0, 1, 2, 3, 4, 5] rfl)
                      · have g4 := g4
                        refine lv_aload_n hx hb d_M_group_194 rfl (lv_at hl 5 rfl) ?_
                        refine gF (v := .ref (ad 61)) hx hb hown hE hK hP 0 rfl rfl layM 61 (by decide) w527 rfl d_M_group_195 ?_
                        refine lv_iload hx hb d_M_group_198 (lv_at hl 0 rfl) ?_
                        refine nild (f := (mapT q (bmF (va_up ro k (-1)) r) (bmG (va_up ro k (-1))) (va_up ro k (-1)))) hx hb hK hP 28 1 rfl rfl (q) (by omega) (by decide) d_M_group_200 ?_
                        refine tpi (y := ((va_up ro k (-1)) q)) (mapT_at _ _ _ (Nat.le_refl _)) ?_
                        refine lv_iconst (v := 1) hx hb d_M_group_201 (by decide) ?_
                        refine lv_iadd hx hb d_M_group_202 ?_
                        refine lv_goto hx hb d_M_group_203 (tgt := 213) rfl ?_
                        refine nist hx hb hK hP hD hS 28 1 rfl rfl (q) (by omega) (by decide) d_M_group_213 (fun H locs hP hD hS => ?_)
                        have hP : va_P D vwCl (MW dA h ad (MS.s_hasBefore (MS.s_rowOf (MS.s_valueLength (MS.s_rowSeries (MS.s_tableRows x (va_up x.tableRows t n)) (shR rs (256 * t) n (n - r))) v4) (va_up (mapT q (bmF (va_up ro k (-1)) r) (bmG (va_up ro k (-1))) (va_up ro k (-1))) q (((va_up ro k (-1)) q) + 1))) (va_up b7 k false))) H := hP
                        have hD : va_D A (MW dA h ad (MS.s_hasBefore (MS.s_rowOf (MS.s_valueLength (MS.s_rowSeries (MS.s_tableRows x (va_up x.tableRows t n)) (shR rs (256 * t) n (n - r))) v4) (va_up (mapT q (bmF (va_up ro k (-1)) r) (bmG (va_up ro k (-1))) (va_up ro k (-1))) q (((va_up ro k (-1)) q) + 1))) (va_up b7 k false))) := hD
                        refine lv_iinc (k := 0) (v := nI (q + 1)) hx hb d_M_group_214 hl rfl (iincN (q) 1 1 (by decide)) (by decide) rfl (fun ls hl => ?_)
                        have hl : lv_has ls 6 [(5, .int (nI (q + 1))), (4, .int (nI r)), (3, .int (nI k)), (1, .int (nI t)), (2, .int (nI p7)), (0, .ref h)] := hl
                        refine lv_goto hx hb d_M_group_217 (tgt := 170) rfl ?_
                        have e9 : (MS.s_hasBefore (MS.s_rowOf (MS.s_valueLength (MS.s_rowSeries (MS.s_tableRows x (va_up x.tableRows t n)) (shR rs (256 * t) n (n - r))) v4) (va_up (mapT q (bmF (va_up ro k (-1)) r) (bmG (va_up ro k (-1))) (va_up ro k (-1))) q (((va_up ro k (-1)) q) + 1))) (va_up b7 k false) : MS) = MS.s_hasBefore (MS.s_rowOf (MS.s_valueLength (MS.s_rowSeries (MS.s_tableRows x (va_up x.tableRows t n)) (shR rs (256 * t) n (n - r))) v4) (mapT (q + 1) (bmF (va_up ro k (-1)) r) (bmG (va_up ro k (-1))) (va_up ro k (-1)))) (va_up b7 k false) := by rw [show (mapT (q + 1) (bmF (va_up ro k (-1)) r) (bmG (va_up ro k (-1))) (va_up ro k (-1))) = (va_up (mapT q (bmF (va_up ro k (-1)) r) (bmG (va_up ro k (-1))) (va_up ro k (-1))) q (((va_up ro k (-1)) q) + 1)) from (mapT_t (by show (!decide _) = true; rw [decide_eq_false g4]; rfl) rfl)] <;> rfl
                        exact ih170 _ (by omega) (q + 1) (by omega) rfl H _ ls (cvP e9 hP) (cvD e9 hD) hS (lv_sub hl [0, 1, 2, 3, 4, 5] rfl)
                have e9 : (MS.s_hasBefore (MS.s_rowOf (MS.s_valueLength (MS.s_rowSeries (MS.s_tableRows x (va_up x.tableRows t n)) (shR rs (256 * t) n (n - r))) v4) (va_up ro k (-1))) (va_up b7 k false) : MS) = MS.s_hasBefore (MS.s_rowOf (MS.s_valueLength (MS.s_rowSeries (MS.s_tableRows x (va_up x.tableRows t n)) (shR rs (256 * t) n (n - r))) v4) (mapT 0 (bmF (va_up ro k (-1)) r) (bmG (va_up ro k (-1))) (va_up ro k (-1)))) (va_up b7 k false) := by rw [show (mapT 0 (bmF (va_up ro k (-1)) r) (bmG (va_up ro k (-1))) (va_up ro k (-1))) = (va_up ro k (-1)) from (mapT_0 _ _ _)] <;> rfl
                exact L170 _ 0 (Nat.zero_le _) rfl H _ ls (cvP e9 hP) (cvD e9 hD) hS (lv_sub hl [0, 1, 2, 3, 4, 5] rfl)
              refine lv_aload_n hx hb d_M_group_118 rfl (lv_at hl 4 rfl) ?_
              refine gF (v := .ref (ad 51)) hx hb hown hE hK hP 0 rfl rfl layM 51 (by decide) w521 rfl d_M_group_119 ?_
              refine lv_iload_n hx hb d_M_group_122 rfl (lv_at hl 2 rfl) ?_
              refine nild (f := (fun z9 => nI ((va_up x.tableRows t n) z9))) hx hb hK hP 24 1 rfl rfl (t) (by omega) (by decide) d_M_group_123 ?_
              refine tpi (y := nI n) (congrArg nI (va_us _ _ _)) ?_
              refine lv_istore hx hb d_M_group_124 hl (by decide) rfl (fun ls hl => ?_)
              have hl : lv_has ls 6 [(5, .int (nI (n))), (4, .int (nI r)), (3, .int (nI k)), (1, .int (nI t)), (2, .int (nI p7)), (0, .ref h)] := hl
              have L126 : ∀ (k9 : Nat) (j : Nat) (s1 : j ≤ n - r) (hk9 : n - r - j = k9), ∀ (H : Heap) (locs : List Loc) (ls : Array Slot) (hP : va_P D vwCl (MW dA h ad (MS.s_hasBefore (MS.s_rowOf (MS.s_valueLength (MS.s_rowSeries (MS.s_tableRows x (va_up x.tableRows t n)) (shR rs (256 * t) n j)) v4) (va_up ro k (-1))) (va_up b7 k false))) H) (hD : va_D A (MW dA h ad (MS.s_hasBefore (MS.s_rowOf (MS.s_valueLength (MS.s_rowSeries (MS.s_tableRows x (va_up x.tableRows t n)) (shR rs (256 * t) n j)) v4) (va_up ro k (-1))) (va_up b7 k false)))) (hS : va_S A s.heap H locs) (hl : lv_has ls 6 [(5, .int (nI (n - j))), (4, .int (nI r)), (3, .int (nI k)), (1, .int (nI t)), (2, .int (nI p7)), (0, .ref h)]), W p l e ({ frames := 3, cells := 0, slots := 0, locals := 61 } : Room) s m ([.ref h, .int (nI t), .int (nI p7)] : List Value).toArray below meth c H locs 0 0 (MQ below (va_Qv (fun (u9 : Unit) => True) (fun (u9 : Unit) t9 => bW D A (MW dA h ad (MS.s_hasBefore (MS.s_rowOf (MS.s_valueLength (MS.s_isCell (MS.s_cells (MS.s_rowSeries (MS.s_tableRows x (va_up x.tableRows t n9)) rs9) (filG x.cells (t * 256 * 64) 0 (n9 * 64))) (filG x.isCell (t * 256 * 64) false (n9 * 64))) v9) ro9) hb9)) t9) A) ([.ref h, .int (nI t), .int (nI p7)] : List Value).toArray s 0 0 A) (F0 m 126 ls []) := by
                intro k9
                induction k9 using Nat.strongRecOn with
                | ind k9 ih126 =>
                  intro j s1 hk9 H locs ls hP hD hS hl
                  refine lv_iload hx hb d_M_group_126 (lv_at hl 0 rfl) ?_
                  refine lv_iload hx hb d_M_group_128 (lv_at hl 1 rfl) ?_
                  refine lv_icmp_le hx hb d_M_group_130 (tgt := 167) rfl (fun g5 => ?_) (fun g5 => ?_)
                  · have g5 := (nI_leI (a := n - j) (b := r) (by omega) (by omega)).mp g5
                    have e9 : (MS.s_hasBefore (MS.s_rowOf (MS.s_valueLength (MS.s_rowSeries (MS.s_tableRows x (va_up x.tableRows t n)) (shR rs (256 * t) n j)) v4) (va_up ro k (-1))) (va_up b7 k false) : MS) = MS.s_hasBefore (MS.s_rowOf (MS.s_valueLength (MS.s_rowSeries (MS.s_tableRows x (va_up x.tableRows t n)) (shR rs (256 * t) n (n - r))) v4) (va_up ro k (-1))) (va_up b7 k false) := by rw [show (shR rs (256 * t) n (n - r)) = (shR rs (256 * t) n j) from (by rw [show j = n - r by omega])] <;> rfl
                    exact J167  H _ ls (cvP e9 hP) (cvD e9 hD) hS (lv_sub hl [1, 2, 3, 4, 5] rfl)
                  · have g5 := mt (nI_leI (a := n - j) (b := r) (by omega) (by omega)).mpr g5
                    refine lv_aload_n hx hb d_M_group_133 rfl (lv_at hl 5 rfl) ?_
                    refine gF (v := .ref (ad 52)) hx hb hown hE hK hP 0 rfl rfl layM 52 (by decide) w522 rfl d_M_group_134 ?_
                    refine lv_sipush (v := 256) hx hb d_M_group_137 (by decide) ?_
                    refine lv_iload_n hx hb d_M_group_140 rfl (lv_at hl 3 rfl) ?_
                    refine lv_imul hx hb d_M_group_141 (tpi (y := nI (256 * t)) (pk_mul (256) (t)) ?_)
                    refine lv_iload hx hb d_M_group_142 (lv_at hl 0 rfl) ?_
                    refine lv_iadd hx hb d_M_group_144 (tpi (y := nI ((256 * t) + (n - j))) (nI_add (256 * t) (n - j)) ?_)
                    refine lv_aload_n hx hb d_M_group_145 rfl (lv_at hl 5 rfl) ?_
                    refine gF (v := .ref (ad 52)) hx hb hown hE hK hP 0 rfl rfl layM 52 (by decide) w522 rfl d_M_group_146 ?_
                    refine lv_sipush (v := 256) hx hb d_M_group_149 (by decide) ?_
                    refine lv_iload_n hx hb d_M_group_152 rfl (lv_at hl 3 rfl) ?_
                    refine lv_imul hx hb d_M_group_153 (tpi (y := nI (256 * t)) (pk_mul (256) (t)) ?_)
                    refine lv_iload hx hb d_M_group_154 (lv_at hl 0 rfl) ?_
                    refine lv_iadd hx hb d_M_group_156 (tpi (y := nI ((256 * t) + (n - j))) (nI_add (256 * t) (n - j)) ?_)
                    refine lv_iconst (v := 1) hx hb d_M_group_157 (by decide) ?_
                    refine lv_isub hx hb d_M_group_158 (tpi (y := nI (((256 * t) + (n - j)) - 1)) (pk_sub (a := (256 * t) + (n - j)) (b := 1) (by omega)) ?_)
                    refine nild (f := (fun z9 => nI ((shR rs (256 * t) n j) z9))) hx hb hK hP 25 1 rfl rfl (((256 * t) + (n - j)) - 1) (by omega) (by decide) d_M_group_159 ?_
                    refine nistN (v := (shR rs (256 * t) n j) (((256 * t) + (n - j)) - 1)) hx hb hK hP hD hS 25 1 rfl rfl ((256 * t) + (n - j)) (by omega) (by decide) d_M_group_160 (fun H locs hP hD hS => ?_)
                    have hP : va_P D vwCl (MW dA h ad (MS.s_hasBefore (MS.s_rowOf (MS.s_valueLength (MS.s_rowSeries (MS.s_tableRows x (va_up x.tableRows t n)) (va_up (shR rs (256 * t) n j) ((256 * t) + (n - j)) ((shR rs (256 * t) n j) (((256 * t) + (n - j)) - 1)))) v4) (va_up ro k (-1))) (va_up b7 k false))) H := hP
                    have hD : va_D A (MW dA h ad (MS.s_hasBefore (MS.s_rowOf (MS.s_valueLength (MS.s_rowSeries (MS.s_tableRows x (va_up x.tableRows t n)) (va_up (shR rs (256 * t) n j) ((256 * t) + (n - j)) ((shR rs (256 * t) n j) (((256 * t) + (n - j)) - 1)))) v4) (va_up ro k (-1))) (va_up b7 k false))) := hD
                    refine lv_iinc (k := 0) (v := nI (n - (j + 1))) hx hb d_M_group_161 hl rfl (iincM (by omega)) (by decide) rfl (fun ls hl => ?_)
                    have hl : lv_has ls 6 [(5, .int (nI (n - (j + 1)))), (4, .int (nI r)), (3, .int (nI k)), (1, .int (nI t)), (2, .int (nI p7)), (0, .ref h)] := hl
                    refine lv_goto hx hb d_M_group_164 (tgt := 126) rfl ?_
                    exact ih126 _ (by omega) (j + 1) (by omega) rfl H _ ls hP hD hS (lv_sub hl [0, 1, 2, 3, 4, 5] rfl)
              exact L126 _ 0 (Nat.zero_le _) rfl H _ ls hP hD hS (lv_sub hl [0, 1, 2, 3, 4, 5] rfl)
            refine lv_iload hx hb d_M_group_85 (lv_at hl 0 rfl) ?_
            refine lv_aload_n hx hb d_M_group_87 rfl (lv_at hl 4 rfl) ?_
            refine gF (v := .ref (ad 51)) hx hb hown hE hK hP 0 rfl rfl layM 51 (by decide) w521 rfl d_M_group_88 ?_
            refine lv_iload_n hx hb d_M_group_91 rfl (lv_at hl 2 rfl) ?_
            refine nild (f := (fun z9 => nI ((va_up x.tableRows t n) z9))) hx hb hK hP 24 1 rfl rfl (t) (by omega) (by decide) d_M_group_92 ?_
            refine tpi (y := nI n) (congrArg nI (va_us _ _ _)) ?_
            refine lv_icmp_eq hx hb d_M_group_93 (tgt := 118) rfl (fun g6 => ?_) (fun g6 => ?_)
            · have g6 := (nI_eq (a := r) (b := n) (by omega) (by omega)).mp g6
              exact J118 v3 (if_pos (by omega)) H _ ls hP hD hS (lv_sub hl [0, 1, 2, 3, 4] rfl)
            · have g6 := mt (nI_eq (a := r) (b := n) (by omega) (by omega)).mpr g6
              have b7y := i4 r (by omega)
              refine lv_aload_n hx hb d_M_group_96 rfl (lv_at hl 4 rfl) ?_
              refine lv_iload_n hx hb d_M_group_97 rfl (lv_at hl 2 rfl) ?_
              refine lv_aload_n hx hb d_M_group_98 rfl (lv_at hl 4 rfl) ?_
              refine gF (v := .ref (ad 52)) hx hb hown hE hK hP 0 rfl rfl layM 52 (by decide) w522 rfl d_M_group_99 ?_
              refine lv_sipush (v := 256) hx hb d_M_group_102 (by decide) ?_
              refine lv_iload_n hx hb d_M_group_105 rfl (lv_at hl 2 rfl) ?_
              refine lv_imul hx hb d_M_group_106 (tpi (y := nI (256 * t)) (pk_mul (256) (t)) ?_)
              refine lv_iload hx hb d_M_group_107 (lv_at hl 0 rfl) ?_
              refine lv_iadd hx hb d_M_group_109 (tpi (y := nI ((256 * t) + r)) (nI_add (256 * t) (r)) ?_)
              refine nild (f := (fun z9 => nI (rs z9))) hx hb hK hP 25 1 rfl rfl ((256 * t) + r) (by omega) (by decide) d_M_group_110 ?_
              refine lv_iload_n hx hb d_M_group_111 rfl (lv_at hl 1 rfl) ?_
              refine jfI (rnV (As := [.int (nI t), .int (nI (rs ((256 * t) + r))), .int (nI k)]) (rest := []) hx hb hml hown hE hK (hN _ _ hS) hP hD (k_compareRows l D dA H.size h ad (MS.s_hasBefore (MS.s_rowOf (MS.s_valueLength (MS.s_rowSeries (MS.s_tableRows x (va_up x.tableRows t n)) rs) v3) (va_up ro k (-1))) (va_up b7 k false)) t (rs ((256 * t) + r)) k hno (Or.inr (hts _ (Nat.lt_of_lt_of_le (i4 r (by omega)) (by omega)))) (Or.inr (hts k (by omega)))) (q0 := 0) rfl rfl w983 w982 w984 w985 w328 rfl rfl ⟨⟨by decide, by decide⟩, rfl⟩ ⟨(Nat.le_of_ble_eq_true rfl), (Nat.le_of_ble_eq_true rfl)⟩ rfl hl.1 rfl (Nat.le_of_ble_eq_true rfl) d_M_group_112 ⟨(Nat.le_of_ble_eq_true rfl), (Nat.le_of_ble_eq_true rfl)⟩) hP hD hS hA (fun r7 u8 H locs hp9 hP hD hS => ?_)
              have hP : va_P D vwCl (MW dA h ad (MS.s_hasBefore (MS.s_rowOf (MS.s_valueLength (MS.s_rowSeries (MS.s_tableRows x (va_up x.tableRows t n)) rs) (((MS.s_valueLength x v3).cr t (rs ((256 * t) + r)) k).2)) (va_up ro k (-1))) (va_up b7 k false))) H := hP
              have hD : va_D A (MW dA h ad (MS.s_hasBefore (MS.s_rowOf (MS.s_valueLength (MS.s_rowSeries (MS.s_tableRows x (va_up x.tableRows t n)) rs) (((MS.s_valueLength x v3).cr t (rs ((256 * t) + r)) k).2)) (va_up ro k (-1))) (va_up b7 k false))) := hD
              replace hp9 : ((MS.s_valueLength x v3).cr t (rs ((256 * t) + r)) k).1 = r7 := Eq.symm hp9
              subst hp9
              refine lv_if_le hx hb d_M_group_115 (tgt := 244) rfl (fun g9 => ?_) (fun g9 => ?_)
              · have g9 := g9
                have gi9 : x.gi t k rs n r v3 = (false, ((MS.s_valueLength x v3).cr t (rs ((256 * t) + r)) k).2) := (if_neg (by omega)).trans (Prod.ext (by show (!decide _) = false; rw [decide_eq_true g9]; rfl) rfl)
                refine lv_aload_n hx hb d_M_group_244 rfl (lv_at hl 4 rfl) ?_
                refine gF (v := .ref (ad 61)) hx hb hown hE hK hP 0 rfl rfl layM 61 (by decide) w527 rfl d_M_group_245 ?_
                refine lv_iload_n hx hb d_M_group_248 rfl (lv_at hl 1 rfl) ?_
                refine lv_iload hx hb d_M_group_249 (lv_at hl 0 rfl) ?_
                refine nist hx hb hK hP hD hS 28 1 rfl rfl (k) (by omega) (by decide) d_M_group_251 (fun H locs hP hD hS => ?_)
                have hP : va_P D vwCl (MW dA h ad (MS.s_hasBefore (MS.s_rowOf (MS.s_valueLength (MS.s_rowSeries (MS.s_tableRows x (va_up x.tableRows t n)) rs) (((MS.s_valueLength x v3).cr t (rs ((256 * t) + r)) k).2)) (va_up (va_up ro k (-1)) k (nI r))) (va_up b7 k false))) H := hP
                have hD : va_D A (MW dA h ad (MS.s_hasBefore (MS.s_rowOf (MS.s_valueLength (MS.s_rowSeries (MS.s_tableRows x (va_up x.tableRows t n)) rs) (((MS.s_valueLength x v3).cr t (rs ((256 * t) + r)) k).2)) (va_up (va_up ro k (-1)) k (nI r))) (va_up b7 k false))) := hD
                refine lv_iinc (k := 1) (v := nI (k + 1)) hx hb d_M_group_252 hl rfl (iincN (k) 1 1 (by decide)) (by decide) rfl (fun ls hl => ?_)
                have hl : lv_has ls 6 [(3, .int (nI (k + 1))), (4, .int (nI r)), (1, .int (nI t)), (2, .int (nI p7)), (0, .ref h)] := hl
                refine lv_goto hx hb d_M_group_255 (tgt := 9) rfl ?_
                exact ih9 _ (by omega) (k + 1) n rs (va_up (va_up ro k (-1)) k (nI r)) (va_up b7 k false) (((MS.s_valueLength x v3).cr t (rs ((256 * t) + r)) k).2) (by omega) ((gr_y i2 e1 f1).trans (gr_old gi9)) (by omega) (rs_sc i4) rfl H _ ls hP hD hS (lv_sub hl [0, 2, 3, 4] rfl)
              · have g9 := g9
                exact J118 (((MS.s_valueLength x v3).cr t (rs ((256 * t) + r)) k).2) ((if_neg (by omega)).trans (Prod.ext (by show (!decide _) = true; rw [decide_eq_false g9]; rfl) rfl)) H _ ls hP hD hS (lv_sub hl [0, 1, 2, 3, 4] rfl)
          refine lv_iconst (v := 0) hx hb d_M_group_43 (by decide) ?_
          refine lv_istore hx hb d_M_group_44 hl (by decide) rfl (fun ls hl => ?_)
          have hl : lv_has ls 6 [(4, .int 0), (3, .int (nI k)), (1, .int (nI t)), (2, .int (nI p7)), (0, .ref h)] := hl
          have L46 : ∀ (k9 : Nat) (r : Nat) (v3 : Nat) (j1 : x.fr t k rs n (n + 1 - r) r v3 = x.fr t k rs n (n + 1) 0 v2) (j2 : r ≤ n) (hk9 : n + 1 - r = k9), ∀ (H : Heap) (locs : List Loc) (ls : Array Slot) (hP : va_P D vwCl (MW dA h ad (MS.s_hasBefore (MS.s_rowOf (MS.s_valueLength (MS.s_rowSeries (MS.s_tableRows x (va_up x.tableRows t n)) rs) v3) (va_up ro k (-1))) (va_up b7 k false))) H) (hD : va_D A (MW dA h ad (MS.s_hasBefore (MS.s_rowOf (MS.s_valueLength (MS.s_rowSeries (MS.s_tableRows x (va_up x.tableRows t n)) rs) v3) (va_up ro k (-1))) (va_up b7 k false)))) (hS : va_S A s.heap H locs) (hl : lv_has ls 6 [(4, .int (nI r)), (3, .int (nI k)), (1, .int (nI t)), (2, .int (nI p7)), (0, .ref h)]), W p l e ({ frames := 3, cells := 0, slots := 0, locals := 61 } : Room) s m ([.ref h, .int (nI t), .int (nI p7)] : List Value).toArray below meth c H locs 0 0 (MQ below (va_Qv (fun (u9 : Unit) => True) (fun (u9 : Unit) t9 => bW D A (MW dA h ad (MS.s_hasBefore (MS.s_rowOf (MS.s_valueLength (MS.s_isCell (MS.s_cells (MS.s_rowSeries (MS.s_tableRows x (va_up x.tableRows t n9)) rs9) (filG x.cells (t * 256 * 64) 0 (n9 * 64))) (filG x.isCell (t * 256 * 64) false (n9 * 64))) v9) ro9) hb9)) t9) A) ([.ref h, .int (nI t), .int (nI p7)] : List Value).toArray s 0 0 A) (F0 m 46 ls []) := by
            intro k9
            induction k9 using Nat.strongRecOn with
            | ind k9 ih46 =>
              intro r v3 j1 j2 hk9 H locs ls hP hD hS hl
              refine lv_iload hx hb d_M_group_46 (lv_at hl 0 rfl) ?_
              refine lv_aload_n hx hb d_M_group_48 rfl (lv_at hl 4 rfl) ?_
              refine gF (v := .ref (ad 51)) hx hb hown hE hK hP 0 rfl rfl layM 51 (by decide) w521 rfl d_M_group_49 ?_
              refine lv_iload_n hx hb d_M_group_52 rfl (lv_at hl 2 rfl) ?_
              refine nild (f := (fun z9 => nI ((va_up x.tableRows t n) z9))) hx hb hK hP 24 1 rfl rfl (t) (by omega) (by decide) d_M_group_53 ?_
              refine tpi (y := nI n) (congrArg nI (va_us _ _ _)) ?_
              refine lv_icmp_ge hx hb d_M_group_54 (tgt := 85) rfl (fun g10 => ?_) (fun g10 => ?_)
              · have g10 := (nI_leI (a := n) (b := r) (by omega) (by omega)).mp g10
                exact J85 r v3 (j1.symm.trans (fr_e g10)) (by omega) H _ ls hP hD hS (lv_sub hl [0, 1, 2, 3, 4] rfl)
              · have g10 := mt (nI_leI (a := n) (b := r) (by omega) (by omega)).mpr g10
                have b7x := i4 r (by omega)
                refine lv_aload_n hx hb d_M_group_57 rfl (lv_at hl 4 rfl) ?_
                refine lv_iload_n hx hb d_M_group_58 rfl (lv_at hl 2 rfl) ?_
                refine lv_aload_n hx hb d_M_group_59 rfl (lv_at hl 4 rfl) ?_
                refine gF (v := .ref (ad 52)) hx hb hown hE hK hP 0 rfl rfl layM 52 (by decide) w522 rfl d_M_group_60 ?_
                refine lv_sipush (v := 256) hx hb d_M_group_63 (by decide) ?_
                refine lv_iload_n hx hb d_M_group_66 rfl (lv_at hl 2 rfl) ?_
                refine lv_imul hx hb d_M_group_67 (tpi (y := nI (256 * t)) (pk_mul (256) (t)) ?_)
                refine lv_iload hx hb d_M_group_68 (lv_at hl 0 rfl) ?_
                refine lv_iadd hx hb d_M_group_70 (tpi (y := nI ((256 * t) + r)) (nI_add (256 * t) (r)) ?_)
                refine nild (f := (fun z9 => nI (rs z9))) hx hb hK hP 25 1 rfl rfl ((256 * t) + r) (by omega) (by decide) d_M_group_71 ?_
                refine lv_iload_n hx hb d_M_group_72 rfl (lv_at hl 1 rfl) ?_
                refine jfI (rnV (As := [.int (nI t), .int (nI (rs ((256 * t) + r))), .int (nI k)]) (rest := []) hx hb hml hown hE hK (hN _ _ hS) hP hD (k_compareRows l D dA H.size h ad (MS.s_hasBefore (MS.s_rowOf (MS.s_valueLength (MS.s_rowSeries (MS.s_tableRows x (va_up x.tableRows t n)) rs) v3) (va_up ro k (-1))) (va_up b7 k false)) t (rs ((256 * t) + r)) k hno (Or.inr (hts _ (Nat.lt_of_lt_of_le (i4 r (by omega)) (by omega)))) (Or.inr (hts k (by omega)))) (q0 := 0) rfl rfl w983 w982 w984 w985 w328 rfl rfl ⟨⟨by decide, by decide⟩, rfl⟩ ⟨(Nat.le_of_ble_eq_true rfl), (Nat.le_of_ble_eq_true rfl)⟩ rfl hl.1 rfl (Nat.le_of_ble_eq_true rfl) d_M_group_73 ⟨(Nat.le_of_ble_eq_true rfl), (Nat.le_of_ble_eq_true rfl)⟩) hP hD hS hA (fun r11 u12 H locs hp9 hP hD hS => ?_)
                have hP : va_P D vwCl (MW dA h ad (MS.s_hasBefore (MS.s_rowOf (MS.s_valueLength (MS.s_rowSeries (MS.s_tableRows x (va_up x.tableRows t n)) rs) (((MS.s_valueLength x v3).cr t (rs ((256 * t) + r)) k).2)) (va_up ro k (-1))) (va_up b7 k false))) H := hP
                have hD : va_D A (MW dA h ad (MS.s_hasBefore (MS.s_rowOf (MS.s_valueLength (MS.s_rowSeries (MS.s_tableRows x (va_up x.tableRows t n)) rs) (((MS.s_valueLength x v3).cr t (rs ((256 * t) + r)) k).2)) (va_up ro k (-1))) (va_up b7 k false))) := hD
                replace hp9 : ((MS.s_valueLength x v3).cr t (rs ((256 * t) + r)) k).1 = r11 := Eq.symm hp9
                subst hp9
                refine lv_if_ge hx hb d_M_group_76 (tgt := 85) rfl (fun g13 => ?_) (fun g13 => ?_)
                · have g13 := g13
                  exact J85 r (((MS.s_valueLength x v3).cr t (rs ((256 * t) + r)) k).2) (j1.symm.trans (fr_g (by omega) g10 (Int32.not_lt.mpr g13))) (by omega) H _ ls hP hD hS (lv_sub hl [0, 1, 2, 3, 4] rfl)
                · have g13 := g13
                  refine lv_iinc (k := 0) (v := nI (r + 1)) hx hb d_M_group_79 hl rfl (iincN (r) 1 1 (by decide)) (by decide) rfl (fun ls hl => ?_)
                  have hl : lv_has ls 6 [(4, .int (nI (r + 1))), (3, .int (nI k)), (1, .int (nI t)), (2, .int (nI p7)), (0, .ref h)] := hl
                  refine lv_goto hx hb d_M_group_82 (tgt := 46) rfl ?_
                  exact ih46 _ (by omega) (r + 1) (((MS.s_valueLength x v3).cr t (rs ((256 * t) + r)) k).2) (by rw [← j1, fr_l (w := n + 1 - r) (by omega) g10 (Int32.not_le.mp g13), show n + 1 - r - 1 = n + 1 - (r + 1) by omega]) (by omega) rfl H _ ls hP hD hS (lv_sub hl [0, 1, 2, 3, 4] rfl)
          exact L46 _ 0 v2 rfl (Nat.zero_le _) rfl H _ ls hP hD hS (lv_sub hl [0, 1, 2, 3, 4] rfl)
        refine lv_aload_n hx hb d_M_group_31 rfl (lv_at hl 3 rfl) ?_
        refine lv_iload_n hx hb d_M_group_32 rfl (lv_at hl 0 rfl) ?_
        refine lv_iload_n hx hb d_M_group_33 rfl (lv_at hl 2 rfl) ?_
        refine jfI (rnV (As := [.int (nI k), .int (nI p7)]) (rest := []) hx hb hml hown hE hK (hN _ _ hS) hP hD (k_matches l D dA H.size h ad (MS.s_hasBefore (MS.s_rowOf (MS.s_valueLength (MS.s_rowSeries (MS.s_tableRows x (va_up x.tableRows t n)) rs) v) (va_up ro k (-1))) (va_up b7 k false)) k p7 (hts k (by omega)) hmo hl1) (q0 := 0) rfl rfl w987 w986 w988 w989 w328 rfl rfl ⟨⟨by decide, by decide⟩, rfl⟩ ⟨(Nat.le_of_ble_eq_true rfl), (Nat.le_of_ble_eq_true rfl)⟩ rfl hl.1 rfl (Nat.le_of_ble_eq_true rfl) d_M_group_34 ⟨(Nat.le_of_ble_eq_true rfl), (Nat.le_of_ble_eq_true rfl)⟩) hP hD hS hA (fun r14 u15 H locs hp9 hP hD hS => ?_)
        have hP : va_P D vwCl (MW dA h ad (MS.s_hasBefore (MS.s_rowOf (MS.s_valueLength (MS.s_rowSeries (MS.s_tableRows x (va_up x.tableRows t n)) rs) (((MS.s_valueLength x v).mt k p7).2)) (va_up ro k (-1))) (va_up b7 k false))) H := hP
        have hD : va_D A (MW dA h ad (MS.s_hasBefore (MS.s_rowOf (MS.s_valueLength (MS.s_rowSeries (MS.s_tableRows x (va_up x.tableRows t n)) rs) (((MS.s_valueLength x v).mt k p7).2)) (va_up ro k (-1))) (va_up b7 k false))) := hD
        replace hp9 : bI ((MS.s_valueLength x v).mt k p7).1 = r14 := Eq.symm hp9
        subst hp9
        refine lv_if_ne hx hb d_M_group_37 (tgt := 43) rfl (fun g16 => ?_) (fun g16 => ?_)
        · have g16 := bI_n0 g16
          exact J43 (((MS.s_valueLength x v).mt k p7).2) (Prod.ext g16 rfl) H _ ls hP hD hS (lv_sub hl [0, 1, 2, 3] rfl)
        · have g16 := bI_0 g16
          refine lv_goto hx hb d_M_group_40 (tgt := 252) rfl ?_
          refine lv_iinc (k := 0) (v := nI (k + 1)) hx hb d_M_group_252 hl rfl (iincN (k) 1 1 (by decide)) (by decide) rfl (fun ls hl => ?_)
          have hl : lv_has ls 6 [(3, .int (nI (k + 1))), (1, .int (nI t)), (2, .int (nI p7)), (0, .ref h)] := hl
          refine lv_goto hx hb d_M_group_255 (tgt := 9) rfl ?_
          exact ih9 _ (by omega) (k + 1) n rs (va_up ro k (-1)) (va_up b7 k false) (((MS.s_valueLength x v).mt k p7).2) (by omega) (gr_no i2 g16) (by omega) (rs_sc i4) rfl H _ ls hP hD hS (lv_sub hl [0, 1, 2, 3] rfl)
  exact L9 _ 0 0 x.rowSeries x.rowOf x.hasBefore x.valueLength (Nat.zero_le _) rfl (Nat.le_refl _) (fun q hq => absurd hq (Nat.not_lt_zero q)) rfl H _ ls hP hD hS (lv_sub hl [0, 2, 3, 1] rfl)
