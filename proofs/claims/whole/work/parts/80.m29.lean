/-- behind the spaces, told by bytes -/
def skA (f : Nat → Int32) (len : Nat) : Nat → Nat → Nat
  | 0, k => k
  | w + 1, k => if atI f len k = 32 then skA f len w (k + 1) else k
theorem skA_t {f : Nat → Int32} {len w k : Nat} (hw : 0 < w) (h : atI f len k = 32) : skA f len w k = skA f len (w - 1) (k + 1) := by
  obtain ⟨d, rfl⟩ : ∃ d, w = d + 1 := ⟨w - 1, by omega⟩
  exact if_pos h
theorem skA_f {f : Nat → Int32} {len w k : Nat} (h : ¬ atI f len k = 32) : skA f len w k = k := by
  cases w with
  | zero => rfl
  | succ w => exact if_neg h
theorem atI_in {f : Nat → Int32} {len k : Nat} {v : Int32} (h : atI f len k = v) (hv : ¬ v = 0) : k < len := by
  refine Nat.lt_of_not_le fun z => hv ?_
  rw [← h]
  exact if_pos z
theorem skA_le {f : Nat → Int32} {len : Nat} : ∀ {w k : Nat}, k ≤ len → skA f len w k ≤ len
  | 0, k, h => h
  | w + 1, k, h => by
    unfold skA
    split
    · rename_i g
      have := atI_in g (by decide)
      exact skA_le (by omega)
    · exact h
theorem skA_ge {f : Nat → Int32} {len : Nat} : ∀ {w k : Nat}, k ≤ skA f len w k
  | 0, k => Nat.le_refl k
  | w + 1, k => by
    unfold skA
    split
    · have := skA_ge (f := f) (len := len) (w := w) (k := k + 1)
      omega
    · exact Nat.le_refl k
theorem idG_ge {f : Nat → Int32} {len : Nat} : ∀ {w k : Nat}, k ≤ idG f len w k
  | 0, k => Nat.le_refl k
  | w + 1, k => by
    unfold idG
    split
    · have := idG_ge (f := f) (len := len) (w := w) (k := k + 1)
      omega
    · exact Nat.le_refl k
theorem idG_le {f : Nat → Int32} {len : Nat} : ∀ {w k : Nat}, k ≤ len → idG f len w k ≤ len
  | 0, k, h => h
  | w + 1, k, h => by
    unfold idG
    split
    · rename_i g
      have := nm_at g
      exact idG_le (by omega)
    · exact h
/-- the first quote from k on -/
def fqA (f : Nat → Int32) (len : Nat) : Nat → Nat → Nat
  | 0, k => k
  | w + 1, k => if atI f len k = 34 then k else fqA f len w (k + 1)
theorem fqA_y {f : Nat → Int32} {len w k : Nat} (h : atI f len k = 34) : fqA f len w k = k := by
  cases w with
  | zero => rfl
  | succ w => exact if_pos h
theorem fqA_n {f : Nat → Int32} {len w k : Nat} (hw : 0 < w) (h : ¬ atI f len k = 34) : fqA f len w k = fqA f len (w - 1) (k + 1) := by
  obtain ⟨d, rfl⟩ : ∃ d, w = d + 1 := ⟨w - 1, by omega⟩
  exact if_neg h
theorem fqA_ge {f : Nat → Int32} {len : Nat} : ∀ {w k : Nat}, k ≤ fqA f len w k
  | 0, k => Nat.le_refl k
  | w + 1, k => by
    unfold fqA
    split
    · exact Nat.le_refl k
    · have := fqA_ge (f := f) (len := len) (w := w) (k := k + 1)
      omega
/-- a match on the tape from k on: the name's end, the sign's place, its number, the text's quote, its end -/
def m1E (f : Nat → Int32) (len k : Nat) : Nat := idG f len (len + 1 - k) k
def m2E (f : Nat → Int32) (len k : Nat) : Nat := skA f len (len + 1 - m1E f len k) (m1E f len k)
def sgM (f : Nat → Int32) (len k : Nat) : Nat := if atI f len k = 61 then 0 else if atI f len (k + 1) = 61 then (if atI f len k = 33 then 1 else 2) else 3
def m3E (f : Nat → Int32) (len k : Nat) : Nat := m2E f len k + (if sgM f len (m2E f len k) = 0 then 1 else 2)
def m4E (f : Nat → Int32) (len k : Nat) : Nat := skA f len (len + 1 - m3E f len k) (m3E f len k)
def m5E (f : Nat → Int32) (len k : Nat) : Nat := fqA f len (len - (m4E f len k + 1)) (m4E f len k + 1)
def isSep (z : Int32) : Bool := decide (z = 32) || decide (z = 44)
/-- is this a row of matches and a brace -/
def mtOK (f : Nat → Int32) (len : Nat) : Nat → Nat → Bool
  | 0, k => decide (atI f len k = 125)
  | w + 1, k => decide (atI f len k = 125) || (if isSep (atI f len k) = true then mtOK f len w (k + 1) else decide (m5E f len k < len) && mtOK f len w (m5E f len k + 1))
theorem mtOK_s {f : Nat → Int32} {len w k : Nat} (h : mtOK f len w k = true) (h1 : ¬ atI f len k = 125) (h2 : isSep (atI f len k) = true) : 0 < w ∧ mtOK f len (w - 1) (k + 1) = true := by
  cases w with
  | zero => exact absurd (of_decide_eq_true h) h1
  | succ w =>
    have h3 : (decide (atI f len k = 125) || (if isSep (atI f len k) = true then mtOK f len w (k + 1) else decide (m5E f len k < len) && mtOK f len w (m5E f len k + 1))) = true := h
    rw [decide_eq_false h1, Bool.false_or, if_pos h2] at h3
    exact ⟨Nat.succ_pos w, h3⟩
theorem mtOK_m {f : Nat → Int32} {len w k : Nat} (h : mtOK f len w k = true) (h1 : ¬ atI f len k = 125) (h2 : isSep (atI f len k) = false) : 0 < w ∧ m5E f len k < len ∧ mtOK f len (w - 1) (m5E f len k + 1) = true := by
  cases w with
  | zero => exact absurd (of_decide_eq_true h) h1
  | succ w =>
    have h3 : (decide (atI f len k = 125) || (if isSep (atI f len k) = true then mtOK f len w (k + 1) else decide (m5E f len k < len) && mtOK f len w (m5E f len k + 1))) = true := h
    rw [decide_eq_false h1, Bool.false_or, if_neg (by rw [h2]; decide), Bool.and_eq_true] at h3
    exact ⟨Nat.succ_pos w, of_decide_eq_true h3.1, h3.2⟩
/-- does the value begin with the text -/
def MS.mtB (x : MS) (z : Nat × Nat × Bool) (q n : Nat) : Bool := decide (n ≤ z.2.1) && allB n (txEq x.texts x.tape z.1 q)
def mtH (sg : Nat) (b same : Bool) : Bool := if sg = 0 then same else if sg = 1 then !same else if sg = 2 then b else !b
def MS.mtV (x : MS) (s k : Nat) : Nat × Nat × Bool := x.vo s k (m1E x.tape x.length k - k)
def MS.mtQ (x : MS) (k : Nat) : Nat := m4E x.tape x.length k + 1
def MS.mtN (x : MS) (k : Nat) : Nat := m5E x.tape x.length k - (m4E x.tape x.length k + 1)
def MS.mt1 (x : MS) (s k : Nat) : Bool := mtH (sgM x.tape x.length (m2E x.tape x.length k)) (x.mtB (x.mtV s k) (x.mtQ k) (x.mtN k)) (x.mtB (x.mtV s k) (x.mtQ k) (x.mtN k) && decide ((x.mtV s k).2.1 = x.mtN k))
/-- are the matches from k on held: the answer, the last length -/
def mtG (tp : Nat → Int32) (nx : Nat → Nat) (hd : Nat → Bool) (vl : Nat → Nat) : Nat → Nat → Bool → Nat → Bool × Nat
  | 0, _, g, v => (g, v)
  | w + 1, k, g, v => if g = false then (g, v) else if tp k = 125 then (g, v) else if isSep (tp k) = true then mtG tp nx hd vl w (k + 1) g v else mtG tp nx hd vl w (nx k + 1) (hd k) (vl k)
section MT
variable {tp : Nat → Int32} {nx : Nat → Nat} {hd : Nat → Bool} {vl : Nat → Nat} {w k v : Nat} {g : Bool}
theorem mtG_e (h : g = false ∨ tp k = 125) : mtG tp nx hd vl w k g v = (g, v) := by
  cases w with
  | zero => rfl
  | succ w =>
    show (if g = false then (g, v) else if tp k = 125 then (g, v) else _) = _
    by_cases h1 : g = false
    · rw [if_pos h1]
    · rw [if_neg h1, if_pos (h.resolve_left h1)]
theorem mtG_s (hw : 0 < w) (h0 : g = true) (h1 : ¬ tp k = 125) (h2 : isSep (tp k) = true) : mtG tp nx hd vl w k g v = mtG tp nx hd vl (w - 1) (k + 1) g v := by
  obtain ⟨d, rfl⟩ : ∃ d, w = d + 1 := ⟨w - 1, by omega⟩
  show (if g = false then (g, v) else if tp k = 125 then (g, v) else if isSep (tp k) = true then mtG tp nx hd vl d (k + 1) g v else _) = _
  rw [if_neg (by rw [h0]; decide), if_neg h1, if_pos h2]
  rfl
theorem mtG_m (hw : 0 < w) (h0 : g = true) (h1 : ¬ tp k = 125) (h2 : isSep (tp k) = false) : mtG tp nx hd vl w k g v = mtG tp nx hd vl (w - 1) (nx k + 1) (hd k) (vl k) := by
  obtain ⟨d, rfl⟩ : ∃ d, w = d + 1 := ⟨w - 1, by omega⟩
  show (if g = false then (g, v) else if tp k = 125 then (g, v) else if isSep (tp k) = true then _ else mtG tp nx hd vl d (nx k + 1) (hd k) (vl k)) = _
  rw [if_neg (by rw [h0]; decide), if_neg h1, if_neg (by rw [h2]; decide)]
  rfl
end MT
def MS.mtL (x : MS) (s k : Nat) : Nat := (x.mtV s k).2.1
def MS.mt (x : MS) (s q : Nat) : Bool × Nat := mtG x.atN (m5E x.tape x.length) (x.mt1 s) (x.mtL s) (x.length + 1 - q) q true x.valueLength
def MS.mOK (x : MS) (q : Nat) : Prop := q ≤ x.length ∧ mtOK x.tape x.length (x.length + 1 - q) q = true
theorem d_M_matches_0 : decode prog_14_method_67_code 0 = .ok (.iload_n 2, 1) := by decide +kernel
theorem d_M_matches_1 : decode prog_14_method_67_code 1 = .ok (.istore_n 3, 1) := by decide +kernel
theorem d_M_matches_2 : decode prog_14_method_67_code 2 = .ok (.iconst 1, 1) := by decide +kernel
theorem d_M_matches_3 : decode prog_14_method_67_code 3 = .ok (.istore 4, 2) := by decide +kernel
theorem d_M_matches_5 : decode prog_14_method_67_code 5 = .ok (.iload 4, 2) := by decide +kernel
theorem d_M_matches_7 : decode prog_14_method_67_code 7 = .ok (.ifCond .eq 353, 3) := by decide +kernel
theorem d_M_matches_360 : decode prog_14_method_67_code 360 = .ok (.iload 4, 2) := by decide +kernel
theorem d_M_matches_362 : decode prog_14_method_67_code 362 = .ok (.ireturn, 1) := by decide +kernel
theorem d_M_matches_10 : decode prog_14_method_67_code 10 = .ok (.aload_n 0, 1) := by decide +kernel
theorem d_M_matches_11 : decode prog_14_method_67_code 11 = .ok (.iload_n 3, 1) := by decide +kernel
theorem d_M_matches_12 : decode prog_14_method_67_code 12 = .ok (.invokevirtual 348, 3) := by decide +kernel
theorem d_M_matches_15 : decode prog_14_method_67_code 15 = .ok (.bipush 125, 2) := by decide +kernel
theorem d_M_matches_17 : decode prog_14_method_67_code 17 = .ok (.if_icmp .eq 343, 3) := by decide +kernel
theorem d_M_matches_20 : decode prog_14_method_67_code 20 = .ok (.aload_n 0, 1) := by decide +kernel
theorem d_M_matches_21 : decode prog_14_method_67_code 21 = .ok (.iload_n 3, 1) := by decide +kernel
theorem d_M_matches_22 : decode prog_14_method_67_code 22 = .ok (.invokevirtual 348, 3) := by decide +kernel
theorem d_M_matches_25 : decode prog_14_method_67_code 25 = .ok (.bipush 32, 2) := by decide +kernel
theorem d_M_matches_27 : decode prog_14_method_67_code 27 = .ok (.if_icmp .eq 13, 3) := by decide +kernel
theorem d_M_matches_40 : decode prog_14_method_67_code 40 = .ok (.iinc 3 1, 3) := by decide +kernel
theorem d_M_matches_43 : decode prog_14_method_67_code 43 = .ok (.goto (-38), 3) := by decide +kernel
theorem d_M_matches_30 : decode prog_14_method_67_code 30 = .ok (.aload_n 0, 1) := by decide +kernel
theorem d_M_matches_31 : decode prog_14_method_67_code 31 = .ok (.iload_n 3, 1) := by decide +kernel
theorem d_M_matches_32 : decode prog_14_method_67_code 32 = .ok (.invokevirtual 348, 3) := by decide +kernel
theorem d_M_matches_35 : decode prog_14_method_67_code 35 = .ok (.bipush 44, 2) := by decide +kernel
theorem d_M_matches_37 : decode prog_14_method_67_code 37 = .ok (.if_icmp .ne 9, 3) := by decide +kernel
theorem d_M_matches_46 : decode prog_14_method_67_code 46 = .ok (.iload_n 3, 1) := by decide +kernel
theorem d_M_matches_77 : decode prog_14_method_67_code 77 = .ok (.aload_n 0, 1) := by decide +kernel
theorem d_M_matches_78 : decode prog_14_method_67_code 78 = .ok (.iload_n 1, 1) := by decide +kernel
theorem d_M_matches_79 : decode prog_14_method_67_code 79 = .ok (.iload 5, 2) := by decide +kernel
theorem d_M_matches_81 : decode prog_14_method_67_code 81 = .ok (.iload_n 3, 1) := by decide +kernel
theorem d_M_matches_82 : decode prog_14_method_67_code 82 = .ok (.iload 5, 2) := by decide +kernel
theorem d_M_matches_84 : decode prog_14_method_67_code 84 = .ok (.isub, 1) := by decide +kernel
theorem d_M_matches_85 : decode prog_14_method_67_code 85 = .ok (.invokevirtual 387, 3) := by decide +kernel
theorem d_M_matches_88 : decode prog_14_method_67_code 88 = .ok (.istore 6, 2) := by decide +kernel
theorem d_M_matches_90 : decode prog_14_method_67_code 90 = .ok (.aload_n 0, 1) := by decide +kernel
theorem d_M_matches_91 : decode prog_14_method_67_code 91 = .ok (.getfield 384, 3) := by decide +kernel
theorem d_M_matches_157 : decode prog_14_method_67_code 157 = .ok (.istore 8, 2) := by decide +kernel
theorem d_M_matches_170 : decode prog_14_method_67_code 170 = .ok (.iadd, 1) := by decide +kernel
theorem d_M_matches_188 : decode prog_14_method_67_code 188 = .ok (.iload_n 3, 1) := by decide +kernel
theorem d_M_matches_189 : decode prog_14_method_67_code 189 = .ok (.iconst 1, 1) := by decide +kernel
theorem d_M_matches_190 : decode prog_14_method_67_code 190 = .ok (.iadd, 1) := by decide +kernel
theorem d_M_matches_191 : decode prog_14_method_67_code 191 = .ok (.istore 9, 2) := by decide +kernel
theorem d_M_matches_212 : decode prog_14_method_67_code 212 = .ok (.iload_n 3, 1) := by decide +kernel
theorem d_M_matches_213 : decode prog_14_method_67_code 213 = .ok (.iload 9, 2) := by decide +kernel
theorem d_M_matches_215 : decode prog_14_method_67_code 215 = .ok (.isub, 1) := by decide +kernel
theorem d_M_matches_216 : decode prog_14_method_67_code 216 = .ok (.istore 10, 2) := by decide +kernel
theorem d_M_matches_218 : decode prog_14_method_67_code 218 = .ok (.iinc 3 1, 3) := by decide +kernel
theorem d_M_matches_233 : decode prog_14_method_67_code 233 = .ok (.istore 11, 2) := by decide +kernel
theorem d_M_matches_303 : decode prog_14_method_67_code 303 = .ok (.istore 12, 2) := by decide +kernel
theorem d_M_matches_355 : decode prog_14_method_67_code 355 = .ok (.istore 4, 2) := by decide +kernel
theorem d_M_matches_357 : decode prog_14_method_67_code 357 = .ok (.goto (-352), 3) := by decide +kernel
theorem d_M_matches_305 : decode prog_14_method_67_code 305 = .ok (.iload 8, 2) := by decide +kernel
theorem d_M_matches_307 : decode prog_14_method_67_code 307 = .ok (.ifCond .ne 8, 3) := by decide +kernel
theorem d_M_matches_315 : decode prog_14_method_67_code 315 = .ok (.iload 8, 2) := by decide +kernel
theorem d_M_matches_317 : decode prog_14_method_67_code 317 = .ok (.iconst 1, 1) := by decide +kernel
theorem d_M_matches_318 : decode prog_14_method_67_code 318 = .ok (.if_icmp .ne 16, 3) := by decide +kernel
theorem d_M_matches_334 : decode prog_14_method_67_code 334 = .ok (.iload 8, 2) := by decide +kernel
theorem d_M_matches_336 : decode prog_14_method_67_code 336 = .ok (.iconst 2, 1) := by decide +kernel
theorem d_M_matches_337 : decode prog_14_method_67_code 337 = .ok (.if_icmp .ne 8, 3) := by decide +kernel
theorem d_M_matches_345 : decode prog_14_method_67_code 345 = .ok (.iload 11, 2) := by decide +kernel
theorem d_M_matches_347 : decode prog_14_method_67_code 347 = .ok (.ifCond .ne 7, 3) := by decide +kernel
theorem d_M_matches_354 : decode prog_14_method_67_code 354 = .ok (.iconst 0, 1) := by decide +kernel
theorem d_M_matches_350 : decode prog_14_method_67_code 350 = .ok (.iconst 1, 1) := by decide +kernel
theorem d_M_matches_351 : decode prog_14_method_67_code 351 = .ok (.goto 4, 3) := by decide +kernel
theorem d_M_matches_340 : decode prog_14_method_67_code 340 = .ok (.iload 11, 2) := by decide +kernel
theorem d_M_matches_342 : decode prog_14_method_67_code 342 = .ok (.goto 13, 3) := by decide +kernel
theorem d_M_matches_321 : decode prog_14_method_67_code 321 = .ok (.iload 12, 2) := by decide +kernel
theorem d_M_matches_323 : decode prog_14_method_67_code 323 = .ok (.ifCond .ne 7, 3) := by decide +kernel
theorem d_M_matches_330 : decode prog_14_method_67_code 330 = .ok (.iconst 0, 1) := by decide +kernel
theorem d_M_matches_331 : decode prog_14_method_67_code 331 = .ok (.goto 24, 3) := by decide +kernel
theorem d_M_matches_326 : decode prog_14_method_67_code 326 = .ok (.iconst 1, 1) := by decide +kernel
theorem d_M_matches_327 : decode prog_14_method_67_code 327 = .ok (.goto 28, 3) := by decide +kernel
theorem d_M_matches_310 : decode prog_14_method_67_code 310 = .ok (.iload 12, 2) := by decide +kernel
theorem d_M_matches_312 : decode prog_14_method_67_code 312 = .ok (.goto 43, 3) := by decide +kernel
theorem d_M_matches_286 : decode prog_14_method_67_code 286 = .ok (.iload 11, 2) := by decide +kernel
theorem d_M_matches_288 : decode prog_14_method_67_code 288 = .ok (.ifCond .eq 14, 3) := by decide +kernel
theorem d_M_matches_302 : decode prog_14_method_67_code 302 = .ok (.iconst 0, 1) := by decide +kernel
theorem d_M_matches_291 : decode prog_14_method_67_code 291 = .ok (.iload 7, 2) := by decide +kernel
theorem d_M_matches_293 : decode prog_14_method_67_code 293 = .ok (.iload 10, 2) := by decide +kernel
theorem d_M_matches_295 : decode prog_14_method_67_code 295 = .ok (.if_icmp .ne 7, 3) := by decide +kernel
theorem d_M_matches_298 : decode prog_14_method_67_code 298 = .ok (.iconst 1, 1) := by decide +kernel
theorem d_M_matches_299 : decode prog_14_method_67_code 299 = .ok (.goto 4, 3) := by decide +kernel
theorem d_M_matches_235 : decode prog_14_method_67_code 235 = .ok (.iconst 0, 1) := by decide +kernel
theorem d_M_matches_236 : decode prog_14_method_67_code 236 = .ok (.istore 12, 2) := by decide +kernel
theorem d_M_matches_238 : decode prog_14_method_67_code 238 = .ok (.iload 12, 2) := by decide +kernel
theorem d_M_matches_240 : decode prog_14_method_67_code 240 = .ok (.iload 10, 2) := by decide +kernel
theorem d_M_matches_242 : decode prog_14_method_67_code 242 = .ok (.if_icmp .ge 44, 3) := by decide +kernel
theorem d_M_matches_245 : decode prog_14_method_67_code 245 = .ok (.iload 11, 2) := by decide +kernel
theorem d_M_matches_247 : decode prog_14_method_67_code 247 = .ok (.ifCond .eq 39, 3) := by decide +kernel
theorem d_M_matches_250 : decode prog_14_method_67_code 250 = .ok (.aload_n 0, 1) := by decide +kernel
theorem d_M_matches_251 : decode prog_14_method_67_code 251 = .ok (.getfield 29, 3) := by decide +kernel
theorem d_M_matches_254 : decode prog_14_method_67_code 254 = .ok (.iload 6, 2) := by decide +kernel
theorem d_M_matches_256 : decode prog_14_method_67_code 256 = .ok (.iload 12, 2) := by decide +kernel
theorem d_M_matches_258 : decode prog_14_method_67_code 258 = .ok (.iadd, 1) := by decide +kernel
theorem d_M_matches_259 : decode prog_14_method_67_code 259 = .ok (.baload, 1) := by decide +kernel
theorem d_M_matches_260 : decode prog_14_method_67_code 260 = .ok (.aload_n 0, 1) := by decide +kernel
theorem d_M_matches_261 : decode prog_14_method_67_code 261 = .ok (.getfield 8, 3) := by decide +kernel
theorem d_M_matches_264 : decode prog_14_method_67_code 264 = .ok (.iload 9, 2) := by decide +kernel
theorem d_M_matches_266 : decode prog_14_method_67_code 266 = .ok (.iload 12, 2) := by decide +kernel
theorem d_M_matches_268 : decode prog_14_method_67_code 268 = .ok (.iadd, 1) := by decide +kernel
theorem d_M_matches_269 : decode prog_14_method_67_code 269 = .ok (.baload, 1) := by decide +kernel
theorem d_M_matches_270 : decode prog_14_method_67_code 270 = .ok (.if_icmp .ne 7, 3) := by decide +kernel
theorem d_M_matches_277 : decode prog_14_method_67_code 277 = .ok (.iconst 0, 1) := by decide +kernel
theorem d_M_matches_278 : decode prog_14_method_67_code 278 = .ok (.istore 11, 2) := by decide +kernel
theorem d_M_matches_280 : decode prog_14_method_67_code 280 = .ok (.iinc 12 1, 3) := by decide +kernel
theorem d_M_matches_283 : decode prog_14_method_67_code 283 = .ok (.goto (-45), 3) := by decide +kernel
theorem d_M_matches_273 : decode prog_14_method_67_code 273 = .ok (.iconst 1, 1) := by decide +kernel
theorem d_M_matches_274 : decode prog_14_method_67_code 274 = .ok (.goto 4, 3) := by decide +kernel
theorem d_M_matches_221 : decode prog_14_method_67_code 221 = .ok (.iload 7, 2) := by decide +kernel
theorem d_M_matches_223 : decode prog_14_method_67_code 223 = .ok (.iload 10, 2) := by decide +kernel
theorem d_M_matches_225 : decode prog_14_method_67_code 225 = .ok (.if_icmp .lt 7, 3) := by decide +kernel
theorem d_M_matches_232 : decode prog_14_method_67_code 232 = .ok (.iconst 0, 1) := by decide +kernel
theorem d_M_matches_228 : decode prog_14_method_67_code 228 = .ok (.iconst 1, 1) := by decide +kernel
theorem d_M_matches_229 : decode prog_14_method_67_code 229 = .ok (.goto 4, 3) := by decide +kernel
theorem d_M_matches_193 : decode prog_14_method_67_code 193 = .ok (.iinc 3 1, 3) := by decide +kernel
theorem d_M_matches_196 : decode prog_14_method_67_code 196 = .ok (.aload_n 0, 1) := by decide +kernel
theorem d_M_matches_197 : decode prog_14_method_67_code 197 = .ok (.iload_n 3, 1) := by decide +kernel
theorem d_M_matches_198 : decode prog_14_method_67_code 198 = .ok (.invokevirtual 348, 3) := by decide +kernel
theorem d_M_matches_201 : decode prog_14_method_67_code 201 = .ok (.bipush 34, 2) := by decide +kernel
theorem d_M_matches_203 : decode prog_14_method_67_code 203 = .ok (.if_icmp .eq 9, 3) := by decide +kernel
theorem d_M_matches_206 : decode prog_14_method_67_code 206 = .ok (.iinc 3 1, 3) := by decide +kernel
theorem d_M_matches_209 : decode prog_14_method_67_code 209 = .ok (.goto (-13), 3) := by decide +kernel
theorem d_M_matches_171 : decode prog_14_method_67_code 171 = .ok (.istore_n 3, 1) := by decide +kernel
theorem d_M_matches_172 : decode prog_14_method_67_code 172 = .ok (.aload_n 0, 1) := by decide +kernel
theorem d_M_matches_173 : decode prog_14_method_67_code 173 = .ok (.iload_n 3, 1) := by decide +kernel
theorem d_M_matches_174 : decode prog_14_method_67_code 174 = .ok (.invokevirtual 348, 3) := by decide +kernel
theorem d_M_matches_177 : decode prog_14_method_67_code 177 = .ok (.bipush 32, 2) := by decide +kernel
theorem d_M_matches_179 : decode prog_14_method_67_code 179 = .ok (.if_icmp .ne 9, 3) := by decide +kernel
theorem d_M_matches_182 : decode prog_14_method_67_code 182 = .ok (.iinc 3 1, 3) := by decide +kernel
theorem d_M_matches_185 : decode prog_14_method_67_code 185 = .ok (.goto (-13), 3) := by decide +kernel
theorem d_M_matches_159 : decode prog_14_method_67_code 159 = .ok (.iload_n 3, 1) := by decide +kernel
theorem d_M_matches_160 : decode prog_14_method_67_code 160 = .ok (.iload 8, 2) := by decide +kernel
theorem d_M_matches_162 : decode prog_14_method_67_code 162 = .ok (.ifCond .ne 7, 3) := by decide +kernel
theorem d_M_matches_169 : decode prog_14_method_67_code 169 = .ok (.iconst 2, 1) := by decide +kernel
theorem d_M_matches_165 : decode prog_14_method_67_code 165 = .ok (.iconst 1, 1) := by decide +kernel
theorem d_M_matches_166 : decode prog_14_method_67_code 166 = .ok (.goto 4, 3) := by decide +kernel
theorem d_M_matches_112 : decode prog_14_method_67_code 112 = .ok (.aload_n 0, 1) := by decide +kernel
theorem d_M_matches_113 : decode prog_14_method_67_code 113 = .ok (.iload_n 3, 1) := by decide +kernel
theorem d_M_matches_114 : decode prog_14_method_67_code 114 = .ok (.invokevirtual 348, 3) := by decide +kernel
theorem d_M_matches_117 : decode prog_14_method_67_code 117 = .ok (.bipush 61, 2) := by decide +kernel
theorem d_M_matches_119 : decode prog_14_method_67_code 119 = .ok (.if_icmp .ne 7, 3) := by decide +kernel
theorem d_M_matches_126 : decode prog_14_method_67_code 126 = .ok (.aload_n 0, 1) := by decide +kernel
theorem d_M_matches_127 : decode prog_14_method_67_code 127 = .ok (.iload_n 3, 1) := by decide +kernel
theorem d_M_matches_128 : decode prog_14_method_67_code 128 = .ok (.iconst 1, 1) := by decide +kernel
theorem d_M_matches_129 : decode prog_14_method_67_code 129 = .ok (.iadd, 1) := by decide +kernel
theorem d_M_matches_130 : decode prog_14_method_67_code 130 = .ok (.invokevirtual 348, 3) := by decide +kernel
theorem d_M_matches_133 : decode prog_14_method_67_code 133 = .ok (.bipush 61, 2) := by decide +kernel
theorem d_M_matches_135 : decode prog_14_method_67_code 135 = .ok (.if_icmp .ne 21, 3) := by decide +kernel
theorem d_M_matches_156 : decode prog_14_method_67_code 156 = .ok (.iconst 3, 1) := by decide +kernel
theorem d_M_matches_138 : decode prog_14_method_67_code 138 = .ok (.aload_n 0, 1) := by decide +kernel
theorem d_M_matches_139 : decode prog_14_method_67_code 139 = .ok (.iload_n 3, 1) := by decide +kernel
theorem d_M_matches_140 : decode prog_14_method_67_code 140 = .ok (.invokevirtual 348, 3) := by decide +kernel
theorem d_M_matches_143 : decode prog_14_method_67_code 143 = .ok (.bipush 33, 2) := by decide +kernel
theorem d_M_matches_145 : decode prog_14_method_67_code 145 = .ok (.if_icmp .ne 7, 3) := by decide +kernel
theorem d_M_matches_152 : decode prog_14_method_67_code 152 = .ok (.iconst 2, 1) := by decide +kernel
theorem d_M_matches_153 : decode prog_14_method_67_code 153 = .ok (.goto 4, 3) := by decide +kernel
theorem d_M_matches_148 : decode prog_14_method_67_code 148 = .ok (.iconst 1, 1) := by decide +kernel
theorem d_M_matches_149 : decode prog_14_method_67_code 149 = .ok (.goto 8, 3) := by decide +kernel
theorem d_M_matches_122 : decode prog_14_method_67_code 122 = .ok (.iconst 0, 1) := by decide +kernel
theorem d_M_matches_123 : decode prog_14_method_67_code 123 = .ok (.goto 34, 3) := by decide +kernel
theorem d_M_matches_94 : decode prog_14_method_67_code 94 = .ok (.istore 7, 2) := by decide +kernel
theorem d_M_matches_96 : decode prog_14_method_67_code 96 = .ok (.aload_n 0, 1) := by decide +kernel
theorem d_M_matches_97 : decode prog_14_method_67_code 97 = .ok (.iload_n 3, 1) := by decide +kernel
theorem d_M_matches_98 : decode prog_14_method_67_code 98 = .ok (.invokevirtual 348, 3) := by decide +kernel
theorem d_M_matches_101 : decode prog_14_method_67_code 101 = .ok (.bipush 32, 2) := by decide +kernel
theorem d_M_matches_103 : decode prog_14_method_67_code 103 = .ok (.if_icmp .ne 9, 3) := by decide +kernel
theorem d_M_matches_106 : decode prog_14_method_67_code 106 = .ok (.iinc 3 1, 3) := by decide +kernel
theorem d_M_matches_109 : decode prog_14_method_67_code 109 = .ok (.goto (-13), 3) := by decide +kernel
theorem d_M_matches_47 : decode prog_14_method_67_code 47 = .ok (.istore 5, 2) := by decide +kernel
theorem d_M_matches_49 : decode prog_14_method_67_code 49 = .ok (.aload_n 0, 1) := by decide +kernel
theorem d_M_matches_71 : decode prog_14_method_67_code 71 = .ok (.iinc 3 1, 3) := by decide +kernel
theorem d_M_matches_74 : decode prog_14_method_67_code 74 = .ok (.goto (-25), 3) := by decide +kernel
theorem d_M_matches_50 : decode prog_14_method_67_code 50 = .ok (.iload_n 3, 1) := by decide +kernel
theorem d_M_matches_51 : decode prog_14_method_67_code 51 = .ok (.invokevirtual 348, 3) := by decide +kernel
theorem d_M_matches_54 : decode prog_14_method_67_code 54 = .ok (.invokestatic 360, 3) := by decide +kernel
theorem d_M_matches_57 : decode prog_14_method_67_code 57 = .ok (.ifCond .ne 14, 3) := by decide +kernel
theorem d_M_matches_60 : decode prog_14_method_67_code 60 = .ok (.aload_n 0, 1) := by decide +kernel
theorem d_M_matches_61 : decode prog_14_method_67_code 61 = .ok (.iload_n 3, 1) := by decide +kernel
theorem d_M_matches_62 : decode prog_14_method_67_code 62 = .ok (.invokevirtual 348, 3) := by decide +kernel
theorem d_M_matches_65 : decode prog_14_method_67_code 65 = .ok (.invokestatic 354, 3) := by decide +kernel
theorem d_M_matches_68 : decode prog_14_method_67_code 68 = .ok (.ifCond .eq 9, 3) := by decide +kernel
set_option maxHeartbeats 4000000 in
set_option maxRecDepth 100000 in
theorem k_matches (l : Launch) (D : va_G) (dA : Nat → ClassId) (sz : Nat) (h : Nat) (ad : Nat → Nat) (x : MS) (s7 : Nat) (p7 : Nat) (hts : x.tOK s7) (hmo : x.mOK p7) (hl1 : x.length ≤ 65536) : Met l ⟨"SeriesVaultModel", "matches", "(II)Z"⟩ [Cond.code ⟨"SeriesVaultModel", "matches", "(II)Z"⟩ prog_14_method_67_code 13 (some FieldType.boolean)] { frames := 2, cells := 0, slots := 0, locals := 29 } (pC D dA [.ref h, .int (nI s7), .int (nI p7)] (MW dA h ad x) sz) (va_Qi (fun (r9 : Int32) (u9 : Unit) => r9 = bI (x.mt s7 p7).1) (fun (u9 : Unit) t9 => bW D (va_A (MW dA h ad x) sz) (MW dA h ad (MS.s_valueLength x ((x.mt s7 p7).2))) t9) (va_A (MW dA h ad x) sz)) 0 0 (va_A (MW dA h ad x) sz) := by
  refine mkC (y := ⟨"SeriesVaultModel", "matches", "(II)Z"⟩) (cc := prog_14_method_67_code) (maxL := 13) (av := [.ref h, .int (nI s7), .int (nI p7)]) (ws := MW dA h ad x) (sz := sz) (Qc := fun A => va_Qi (fun (r9 : Int32) (u9 : Unit) => r9 = bI (x.mt s7 p7).1) (fun (u9 : Unit) t9 => bW D A (MW dA h ad (MS.s_valueLength x ((x.mt s7 p7).2))) t9) A) (by decide) (Nat.le_of_ble_eq_true rfl) ?_
  intro A p e s m below meth c ls hsz hB
  obtain ⟨hx, hb, hr, hml, hown, hin, hlk, hE, hK, hP, hD, hS, hA, hN, hl⟩ := hB
  have hown : s.vm.findClass "SeriesVaultModel" = some m.cls := hown
  have hl : lv_has ls 13 [(0, .ref h), (1, .int (nI s7)), (2, .int (nI p7))] := hl
  obtain ⟨H, hH⟩ : ∃ z, z = s.heap := ⟨_, rfl⟩
  have hP : va_P D vwCl (MW dA h ad x) H := by rw [hH]; exact hP
  have hS : va_S A s.heap H [] := by rw [hH]; exact hS
  rw [← hH]
  obtain ⟨hmo1, hmo2⟩ := hmo
  have hs7 := hts.1
  refine lv_iload_n hx hb d_M_matches_0 rfl (lv_at hl 2 rfl) ?_
  refine lv_istore_n hx hb d_M_matches_1 rfl hl (by decide) rfl (fun ls hl => ?_)
  have hl : lv_has ls 13 [(3, .int (nI p7)), (0, .ref h), (1, .int (nI s7)), (2, .int (nI p7))] := hl
  refine lv_iconst (v := 1) hx hb d_M_matches_2 (by decide) ?_
  refine lv_istore hx hb d_M_matches_3 hl (by decide) rfl (fun ls hl => ?_)
  have hl : lv_has ls 13 [(4, .int 1), (3, .int (nI p7)), (0, .ref h), (1, .int (nI s7)), (2, .int (nI p7))] := hl
  have L5 : ∀ (k9 : Nat) (k : Nat) (g : Bool) (w : Nat) (v : Nat) (i1 : mtG x.atN (m5E x.tape x.length) (x.mt1 s7) (x.mtL s7) w k g v = x.mt s7 p7) (i2 : mtOK x.tape x.length w k = true) (i3 : k ≤ x.length) (i4 : x.length + 1 ≤ x.length + 1) (hk9 : w = k9), ∀ (H : Heap) (locs : List Loc) (ls : Array Slot) (hP : va_P D vwCl (MW dA h ad (MS.s_valueLength x v)) H) (hD : va_D A (MW dA h ad (MS.s_valueLength x v))) (hS : va_S A s.heap H locs) (hl : lv_has ls 13 [(3, .int (nI k)), (1, .int (nI s7)), (2, .int (nI p7)), (0, .ref h), (4, .int (bI g))]), W p l e ({ frames := 2, cells := 0, slots := 0, locals := 29 } : Room) s m ([.ref h, .int (nI s7), .int (nI p7)] : List Value).toArray below meth c H locs 0 0 (MQ below (va_Qi (fun (r9 : Int32) (u9 : Unit) => r9 = bI (x.mt s7 p7).1) (fun (u9 : Unit) t9 => bW D A (MW dA h ad (MS.s_valueLength x ((x.mt s7 p7).2))) t9) A) ([.ref h, .int (nI s7), .int (nI p7)] : List Value).toArray s 0 0 A) (F0 m 5 ls []) := by
    intro k9
    induction k9 using Nat.strongRecOn with
    | ind k9 ih5 =>
      intro k g w v i1 i2 i3 i4 hk9 H locs ls hP hD hS hl
      refine lv_iload hx hb d_M_matches_5 (lv_at hl 4 rfl) ?_
      refine lv_if_eq hx hb d_M_matches_7 (tgt := 360) rfl (fun g1 => ?_) (fun g1 => ?_)
      · have g1 := bI_0 g1
        have ve : x.mt s7 p7 = (g, v) := i1.symm.trans (mtG_e (tp := x.atN) (Or.inl g1))
        refine lv_iload hx hb d_M_matches_360 (lv_at hl 4 rfl) ?_
        have e9 : (MS.s_valueLength x v : MS) = MS.s_valueLength x ((x.mt s7 p7).2) := by rw [show ((x.mt s7 p7).2) = v from by (rw [ve])] <;> rfl
        exact rfZ hx hb hr (bI_nar g) hlk hS () (by rw [ve]) (cvP e9 hP) (cvD e9 hD) (Nat.le_of_ble_eq_true rfl) (Nat.le_of_ble_eq_true rfl) d_M_matches_362
      · have g1 := bI_n0 g1
        refine lv_aload_n hx hb d_M_matches_10 rfl (lv_at hl 3 rfl) ?_
        refine lv_iload_n hx hb d_M_matches_11 rfl (lv_at hl 0 rfl) ?_
        refine jfI (rnV (As := [.int (nI k)]) (rest := []) hx hb hml hown hE hK (hN _ _ hS) hP hD (k_at l D dA H.size h ad (MS.s_valueLength x v) k (show k < 2 ^ 31 from by omega) (show x.length ≤ 65536 from by omega)) (q0 := 0) rfl rfl w466 w465 w467 w468 w328 rfl rfl ⟨⟨by decide, by decide⟩, rfl⟩ ⟨(Nat.le_of_ble_eq_true rfl), (Nat.le_of_ble_eq_true rfl)⟩ rfl hl.1 rfl (Nat.le_of_ble_eq_true rfl) d_M_matches_12 ⟨(Nat.le_of_ble_eq_true rfl), (Nat.le_of_ble_eq_true rfl)⟩) hP hD hS hA (fun r2 u3 H locs hp9 hP hD hS => ?_)
        have hP : va_P D vwCl (MW dA h ad (MS.s_valueLength x v)) H := hP
        have hD : va_D A (MW dA h ad (MS.s_valueLength x v)) := hD
        replace hp9 : x.atN k = r2 := Eq.symm hp9
        subst hp9
        refine lv_bipush (v := 125) hx hb d_M_matches_15 (by decide) ?_
        refine lv_icmp_eq hx hb d_M_matches_17 (tgt := 360) rfl (fun g4 => ?_) (fun g4 => ?_)
        · have g4 := g4
          have ve : x.mt s7 p7 = (g, v) := i1.symm.trans (mtG_e (tp := x.atN) (Or.inr g4))
          refine lv_iload hx hb d_M_matches_360 (lv_at hl 4 rfl) ?_
          have e9 : (MS.s_valueLength x v : MS) = MS.s_valueLength x ((x.mt s7 p7).2) := by rw [show ((x.mt s7 p7).2) = v from by (rw [ve])] <;> rfl
          exact rfZ hx hb hr (bI_nar g) hlk hS () (by rw [ve]) (cvP e9 hP) (cvD e9 hD) (Nat.le_of_ble_eq_true rfl) (Nat.le_of_ble_eq_true rfl) d_M_matches_362
        · have g4 := g4
          refine lv_aload_n hx hb d_M_matches_20 rfl (lv_at hl 3 rfl) ?_
          refine lv_iload_n hx hb d_M_matches_21 rfl (lv_at hl 0 rfl) ?_
          refine jfI (rnV (As := [.int (nI k)]) (rest := []) hx hb hml hown hE hK (hN _ _ hS) hP hD (k_at l D dA H.size h ad (MS.s_valueLength x v) k (show k < 2 ^ 31 from by omega) (show x.length ≤ 65536 from by omega)) (q0 := 0) rfl rfl w466 w465 w467 w468 w328 rfl rfl ⟨⟨by decide, by decide⟩, rfl⟩ ⟨(Nat.le_of_ble_eq_true rfl), (Nat.le_of_ble_eq_true rfl)⟩ rfl hl.1 rfl (Nat.le_of_ble_eq_true rfl) d_M_matches_22 ⟨(Nat.le_of_ble_eq_true rfl), (Nat.le_of_ble_eq_true rfl)⟩) hP hD hS hA (fun r5 u6 H locs hp9 hP hD hS => ?_)
          have hP : va_P D vwCl (MW dA h ad (MS.s_valueLength x v)) H := hP
          have hD : va_D A (MW dA h ad (MS.s_valueLength x v)) := hD
          replace hp9 : x.atN k = r5 := Eq.symm hp9
          subst hp9
          refine lv_bipush (v := 32) hx hb d_M_matches_25 (by decide) ?_
          refine lv_icmp_eq hx hb d_M_matches_27 (tgt := 40) rfl (fun g7 => ?_) (fun g7 => ?_)
          · have g7 := g7
            refine lv_iinc (k := 0) (v := nI (k + 1)) hx hb d_M_matches_40 hl rfl (iincN (k) 1 1 (by decide)) (by decide) rfl (fun ls hl => ?_)
            have hl : lv_has ls 13 [(3, .int (nI (k + 1))), (1, .int (nI s7)), (2, .int (nI p7)), (0, .ref h), (4, .int (bI g))] := hl
            refine lv_goto hx hb d_M_matches_43 (tgt := 5) rfl ?_
            exact ih5 _ (by have := (mtOK_s i2 g4 (by show (decide (x.atN k = 32) || decide (x.atN k = 44)) = true; rw [decide_eq_true g7]; rfl)).1; omega) (k + 1) g (w - 1) v (by rw [← i1, mtG_s (tp := x.atN) (mtOK_s i2 g4 (by show (decide (x.atN k = 32) || decide (x.atN k = 44)) = true; rw [decide_eq_true g7]; rfl)).1 g1 g4 (by show (decide (x.atN k = 32) || decide (x.atN k = 44)) = true; rw [decide_eq_true g7]; rfl)]) (mtOK_s i2 g4 (by show (decide (x.atN k = 32) || decide (x.atN k = 44)) = true; rw [decide_eq_true g7]; rfl)).2 (atI_in g7 (by decide)) (Nat.le_refl _) rfl H _ ls hP hD hS (lv_sub hl [0, 1, 2, 3, 4] rfl)
          · have g7 := g7
            refine lv_aload_n hx hb d_M_matches_30 rfl (lv_at hl 3 rfl) ?_
            refine lv_iload_n hx hb d_M_matches_31 rfl (lv_at hl 0 rfl) ?_
            refine jfI (rnV (As := [.int (nI k)]) (rest := []) hx hb hml hown hE hK (hN _ _ hS) hP hD (k_at l D dA H.size h ad (MS.s_valueLength x v) k (show k < 2 ^ 31 from by omega) (show x.length ≤ 65536 from by omega)) (q0 := 0) rfl rfl w466 w465 w467 w468 w328 rfl rfl ⟨⟨by decide, by decide⟩, rfl⟩ ⟨(Nat.le_of_ble_eq_true rfl), (Nat.le_of_ble_eq_true rfl)⟩ rfl hl.1 rfl (Nat.le_of_ble_eq_true rfl) d_M_matches_32 ⟨(Nat.le_of_ble_eq_true rfl), (Nat.le_of_ble_eq_true rfl)⟩) hP hD hS hA (fun r8 u9 H locs hp9 hP hD hS => ?_)
            have hP : va_P D vwCl (MW dA h ad (MS.s_valueLength x v)) H := hP
            have hD : va_D A (MW dA h ad (MS.s_valueLength x v)) := hD
            replace hp9 : x.atN k = r8 := Eq.symm hp9
            subst hp9
            refine lv_bipush (v := 44) hx hb d_M_matches_35 (by decide) ?_
            refine lv_icmp_ne hx hb d_M_matches_37 (tgt := 46) rfl (fun g10 => ?_) (fun g10 => ?_)
            · have g10 := g10
              have sp : isSep (x.atN k) = false := by show (decide _ || decide _) = false; rw [decide_eq_false g7, decide_eq_false g10]; rfl
              obtain ⟨w1, w2, w3⟩ := mtOK_m i2 g4 sp
              refine lv_iload_n hx hb d_M_matches_46 rfl (lv_at hl 0 rfl) ?_
              have J77 : ∀ (q : Nat) (e1 : m1E x.tape x.length k = q) (e2 : q ≤ x.length) (e3 : k ≤ q), ∀ (H : Heap) (locs : List Loc) (ls : Array Slot) (hP : va_P D vwCl (MW dA h ad (MS.s_valueLength x v)) H) (hD : va_D A (MW dA h ad (MS.s_valueLength x v))) (hS : va_S A s.heap H locs) (hl : lv_has ls 13 [(3, .int (nI q)), (5, .int (nI k)), (1, .int (nI s7)), (2, .int (nI p7)), (0, .ref h), (4, .int (bI g))]), W p l e ({ frames := 2, cells := 0, slots := 0, locals := 29 } : Room) s m ([.ref h, .int (nI s7), .int (nI p7)] : List Value).toArray below meth c H locs 0 0 (MQ below (va_Qi (fun (r9 : Int32) (u9 : Unit) => r9 = bI (x.mt s7 p7).1) (fun (u9 : Unit) t9 => bW D A (MW dA h ad (MS.s_valueLength x ((x.mt s7 p7).2))) t9) A) ([.ref h, .int (nI s7), .int (nI p7)] : List Value).toArray s 0 0 A) (F0 m 77 ls []) := by
                intro q e1 e2 e3 H locs ls hP hD hS hl
                have ev : x.mtV s7 k = x.vo s7 k (q - k) := by unfold MS.mtV; rw [e1]
                have ei := vo_in (x := x) (s := s7) (nm := k) (n := q - k) hts
                refine lv_aload_n hx hb d_M_matches_77 rfl (lv_at hl 4 rfl) ?_
                refine lv_iload_n hx hb d_M_matches_78 rfl (lv_at hl 2 rfl) ?_
                refine lv_iload hx hb d_M_matches_79 (lv_at hl 1 rfl) ?_
                refine lv_iload_n hx hb d_M_matches_81 rfl (lv_at hl 0 rfl) ?_
                refine lv_iload hx hb d_M_matches_82 (lv_at hl 1 rfl) ?_
                refine lv_isub hx hb d_M_matches_84 (tpi (y := nI (q - k)) (pk_sub (a := q) (b := k) (by omega)) ?_)
                refine jfI (rnV (As := [.int (nI s7), .int (nI k), .int (nI (q - k))]) (rest := []) hx hb hml hown hE hK (hN _ _ hS) hP hD (k_valueOf l D dA H.size h ad (MS.s_valueLength x v) s7 k (q - k) hts (show k + (q - k) ≤ 65536 from by omega)) (q0 := 0) rfl rfl w979 w978 w980 w981 w328 rfl rfl ⟨⟨by decide, by decide⟩, rfl⟩ ⟨(Nat.le_of_ble_eq_true rfl), (Nat.le_of_ble_eq_true rfl)⟩ rfl hl.1 rfl (Nat.le_of_ble_eq_true rfl) d_M_matches_85 ⟨(Nat.le_of_ble_eq_true rfl), (Nat.le_of_ble_eq_true rfl)⟩) hP hD hS hA (fun r11 u12 H locs hp9 hP hD hS => ?_)
                have hP : va_P D vwCl (MW dA h ad (MS.s_valueLength x ((x.vo s7 k (q - k)).2.1))) H := hP
                have hD : va_D A (MW dA h ad (MS.s_valueLength x ((x.vo s7 k (q - k)).2.1))) := hD
                replace hp9 : voI (x.vo s7 k (q - k)) = r11 := Eq.symm hp9
                subst hp9
                refine lv_istore hx hb d_M_matches_88 hl (by decide) rfl (fun ls hl => ?_)
                have hl : lv_has ls 13 [(6, .int (voI (x.vo s7 k (q - k)))), (3, .int (nI q)), (5, .int (nI k)), (1, .int (nI s7)), (2, .int (nI p7)), (0, .ref h), (4, .int (bI g))] := hl
                refine lv_aload_n hx hb d_M_matches_90 rfl (lv_at hl 5 rfl) ?_
                refine gF (v := .int (nI ((x.vo s7 k (q - k)).2.1))) hx hb hown hE hK hP 0 rfl rfl layM 60 (by decide) w977 rfl d_M_matches_91 ?_
                have J112 : ∀ (r : Nat) (f1 : m2E x.tape x.length k = r) (f2 : r ≤ x.length), ∀ (H : Heap) (locs : List Loc) (ls : Array Slot) (hP : va_P D vwCl (MW dA h ad (MS.s_valueLength x ((x.vo s7 k (q - k)).2.1))) H) (hD : va_D A (MW dA h ad (MS.s_valueLength x ((x.vo s7 k (q - k)).2.1)))) (hS : va_S A s.heap H locs) (hl : lv_has ls 13 [(3, .int (nI r)), (6, .int (voI (x.vo s7 k (q - k)))), (7, .int (nI (x.vo s7 k (q - k)).2.1)), (5, .int (nI k)), (1, .int (nI s7)), (2, .int (nI p7)), (0, .ref h), (4, .int (bI g))]), W p l e ({ frames := 2, cells := 0, slots := 0, locals := 29 } : Room) s m ([.ref h, .int (nI s7), .int (nI p7)] : List Value).toArray below meth c H locs 0 0 (MQ below (va_Qi (fun (r9 : Int32) (u9 : Unit) => r9 = bI (x.mt s7 p7).1) (fun (u9 : Unit) t9 => bW D A (MW dA h ad (MS.s_valueLength x ((x.mt s7 p7).2))) t9) A) ([.ref h, .int (nI s7), .int (nI p7)] : List Value).toArray s 0 0 A) (F0 m 112 ls []) := by
                  intro r f1 f2 H locs ls hP hD hS hl
                  have J157 : ∀ (sg : Nat) (sq1 : sgM x.tape x.length r = sg) (sq2 : sg ≤ 3), ∀ (H : Heap) (locs : List Loc) (ls : Array Slot) (hP : va_P D vwCl (MW dA h ad (MS.s_valueLength x ((x.vo s7 k (q - k)).2.1))) H) (hD : va_D A (MW dA h ad (MS.s_valueLength x ((x.vo s7 k (q - k)).2.1)))) (hS : va_S A s.heap H locs) (hl : lv_has ls 13 [(3, .int (nI r)), (6, .int (voI (x.vo s7 k (q - k)))), (7, .int (nI (x.vo s7 k (q - k)).2.1)), (5, .int (nI k)), (1, .int (nI s7)), (2, .int (nI p7)), (0, .ref h), (4, .int (bI g))]), W p l e ({ frames := 2, cells := 0, slots := 0, locals := 29 } : Room) s m ([.ref h, .int (nI s7), .int (nI p7)] : List Value).toArray below meth c H locs 0 0 (MQ below (va_Qi (fun (r9 : Int32) (u9 : Unit) => r9 = bI (x.mt s7 p7).1) (fun (u9 : Unit) t9 => bW D A (MW dA h ad (MS.s_valueLength x ((x.mt s7 p7).2))) t9) A) ([.ref h, .int (nI s7), .int (nI p7)] : List Value).toArray s 0 0 A) (F0 m 157 ls [.int (nI sg)]) := by
                    intro sg sq1 sq2 H locs ls hP hD hS hl
                    refine lv_istore hx hb d_M_matches_157 hl (by decide) rfl (fun ls hl => ?_)
                    have hl : lv_has ls 13 [(8, .int (nI sg)), (3, .int (nI r)), (6, .int (voI (x.vo s7 k (q - k)))), (7, .int (nI (x.vo s7 k (q - k)).2.1)), (5, .int (nI k)), (1, .int (nI s7)), (2, .int (nI p7)), (0, .ref h), (4, .int (bI g))] := hl
                    have J170 : ∀ (d : Nat) (d1 : (if sg = 0 then 1 else 2) = d) (d2 : d ≤ 2), ∀ (H : Heap) (locs : List Loc) (ls : Array Slot) (hP : va_P D vwCl (MW dA h ad (MS.s_valueLength x ((x.vo s7 k (q - k)).2.1))) H) (hD : va_D A (MW dA h ad (MS.s_valueLength x ((x.vo s7 k (q - k)).2.1)))) (hS : va_S A s.heap H locs) (hl : lv_has ls 13 [(8, .int (nI sg)), (6, .int (voI (x.vo s7 k (q - k)))), (7, .int (nI (x.vo s7 k (q - k)).2.1)), (5, .int (nI k)), (1, .int (nI s7)), (2, .int (nI p7)), (0, .ref h), (4, .int (bI g))]), W p l e ({ frames := 2, cells := 0, slots := 0, locals := 29 } : Room) s m ([.ref h, .int (nI s7), .int (nI p7)] : List Value).toArray below meth c H locs 0 0 (MQ below (va_Qi (fun (r9 : Int32) (u9 : Unit) => r9 = bI (x.mt s7 p7).1) (fun (u9 : Unit) t9 => bW D A (MW dA h ad (MS.s_valueLength x ((x.mt s7 p7).2))) t9) A) ([.ref h, .int (nI s7), .int (nI p7)] : List Value).toArray s 0 0 A) (F0 m 170 ls [.int (nI d), .int (nI r)]) := by
                      intro d d1 d2 H locs ls hP hD hS hl
                      refine lv_iadd hx hb d_M_matches_170 (tpi (y := nI (r + d)) (nI_add (r) (d)) ?_)
                      have J188 : ∀ (u : Nat) (h4 : m4E x.tape x.length k = u), ∀ (H : Heap) (locs : List Loc) (ls : Array Slot) (hP : va_P D vwCl (MW dA h ad (MS.s_valueLength x ((x.vo s7 k (q - k)).2.1))) H) (hD : va_D A (MW dA h ad (MS.s_valueLength x ((x.vo s7 k (q - k)).2.1)))) (hS : va_S A s.heap H locs) (hl : lv_has ls 13 [(3, .int (nI u)), (8, .int (nI sg)), (6, .int (voI (x.vo s7 k (q - k)))), (7, .int (nI (x.vo s7 k (q - k)).2.1)), (5, .int (nI k)), (1, .int (nI s7)), (2, .int (nI p7)), (0, .ref h), (4, .int (bI g))]), W p l e ({ frames := 2, cells := 0, slots := 0, locals := 29 } : Room) s m ([.ref h, .int (nI s7), .int (nI p7)] : List Value).toArray below meth c H locs 0 0 (MQ below (va_Qi (fun (r9 : Int32) (u9 : Unit) => r9 = bI (x.mt s7 p7).1) (fun (u9 : Unit) t9 => bW D A (MW dA h ad (MS.s_valueLength x ((x.mt s7 p7).2))) t9) A) ([.ref h, .int (nI s7), .int (nI p7)] : List Value).toArray s 0 0 A) (F0 m 188 ls []) := by
                        intro u h4 H locs ls hP hD hS hl
                        have h5 : u + 1 ≤ m5E x.tape x.length k := by rw [← h4]; exact fqA_ge
                        refine lv_iload_n hx hb d_M_matches_188 rfl (lv_at hl 0 rfl) ?_
                        refine lv_iconst (v := 1) hx hb d_M_matches_189 (by decide) ?_
                        refine lv_iadd hx hb d_M_matches_190 (tpi (y := nI (u + 1)) (nI_add (u) (1)) ?_)
                        refine lv_istore hx hb d_M_matches_191 hl (by decide) rfl (fun ls hl => ?_)
                        have hl : lv_has ls 13 [(9, .int (nI (u + 1))), (3, .int (nI u)), (8, .int (nI sg)), (6, .int (voI (x.vo s7 k (q - k)))), (7, .int (nI (x.vo s7 k (q - k)).2.1)), (5, .int (nI k)), (1, .int (nI s7)), (2, .int (nI p7)), (0, .ref h), (4, .int (bI g))] := hl
                        have J212 : ∀ (z : Nat) (z4 : m5E x.tape x.length k = z) (z5 : u + 1 ≤ z), ∀ (H : Heap) (locs : List Loc) (ls : Array Slot) (hP : va_P D vwCl (MW dA h ad (MS.s_valueLength x ((x.vo s7 k (q - k)).2.1))) H) (hD : va_D A (MW dA h ad (MS.s_valueLength x ((x.vo s7 k (q - k)).2.1)))) (hS : va_S A s.heap H locs) (hl : lv_has ls 13 [(9, .int (nI (u + 1))), (3, .int (nI z)), (8, .int (nI sg)), (6, .int (voI (x.vo s7 k (q - k)))), (7, .int (nI (x.vo s7 k (q - k)).2.1)), (5, .int (nI k)), (1, .int (nI s7)), (2, .int (nI p7)), (0, .ref h), (4, .int (bI g))]), W p l e ({ frames := 2, cells := 0, slots := 0, locals := 29 } : Room) s m ([.ref h, .int (nI s7), .int (nI p7)] : List Value).toArray below meth c H locs 0 0 (MQ below (va_Qi (fun (r9 : Int32) (u9 : Unit) => r9 = bI (x.mt s7 p7).1) (fun (u9 : Unit) t9 => bW D A (MW dA h ad (MS.s_valueLength x ((x.mt s7 p7).2))) t9) A) ([.ref h, .int (nI s7), .int (nI p7)] : List Value).toArray s 0 0 A) (F0 m 212 ls []) := by
                          intro z z4 z5 H locs ls hP hD hS hl
                          have z6 : z < x.length := by rw [← z4]; exact w2
                          refine lv_iload_n hx hb d_M_matches_212 rfl (lv_at hl 1 rfl) ?_
                          refine lv_iload hx hb d_M_matches_213 (lv_at hl 0 rfl) ?_
                          refine lv_isub hx hb d_M_matches_215 (tpi (y := nI (z - (u + 1))) (pk_sub (a := z) (b := u + 1) (by omega)) ?_)
                          refine lv_istore hx hb d_M_matches_216 hl (by decide) rfl (fun ls hl => ?_)
                          have hl : lv_has ls 13 [(10, .int (nI (z - (u + 1)))), (9, .int (nI (u + 1))), (3, .int (nI z)), (8, .int (nI sg)), (6, .int (voI (x.vo s7 k (q - k)))), (7, .int (nI (x.vo s7 k (q - k)).2.1)), (5, .int (nI k)), (1, .int (nI s7)), (2, .int (nI p7)), (0, .ref h), (4, .int (bI g))] := hl
                          refine lv_iinc (k := 2) (v := nI (z + 1)) hx hb d_M_matches_218 hl rfl (iincN (z) 1 1 (by decide)) (by decide) rfl (fun ls hl => ?_)
                          have hl : lv_has ls 13 [(3, .int (nI (z + 1))), (10, .int (nI (z - (u + 1)))), (9, .int (nI (u + 1))), (8, .int (nI sg)), (6, .int (voI (x.vo s7 k (q - k)))), (7, .int (nI (x.vo s7 k (q - k)).2.1)), (5, .int (nI k)), (1, .int (nI s7)), (2, .int (nI p7)), (0, .ref h), (4, .int (bI g))] := hl
                          have J233 : ∀ (b : Bool) (b1 : decide ((z - (u + 1)) ≤ (x.vo s7 k (q - k)).2.1) = b), ∀ (H : Heap) (locs : List Loc) (ls : Array Slot) (hP : va_P D vwCl (MW dA h ad (MS.s_valueLength x ((x.vo s7 k (q - k)).2.1))) H) (hD : va_D A (MW dA h ad (MS.s_valueLength x ((x.vo s7 k (q - k)).2.1)))) (hS : va_S A s.heap H locs) (hl : lv_has ls 13 [(9, .int (nI (u + 1))), (10, .int (nI (z - (u + 1)))), (3, .int (nI (z + 1))), (8, .int (nI sg)), (6, .int (voI (x.vo s7 k (q - k)))), (7, .int (nI (x.vo s7 k (q - k)).2.1)), (5, .int (nI k)), (1, .int (nI s7)), (2, .int (nI p7)), (0, .ref h), (4, .int (bI g))]), W p l e ({ frames := 2, cells := 0, slots := 0, locals := 29 } : Room) s m ([.ref h, .int (nI s7), .int (nI p7)] : List Value).toArray below meth c H locs 0 0 (MQ below (va_Qi (fun (r9 : Int32) (u9 : Unit) => r9 = bI (x.mt s7 p7).1) (fun (u9 : Unit) t9 => bW D A (MW dA h ad (MS.s_valueLength x ((x.mt s7 p7).2))) t9) A) ([.ref h, .int (nI s7), .int (nI p7)] : List Value).toArray s 0 0 A) (F0 m 233 ls [.int (bI b)]) := by
                            intro b b1 H locs ls hP hD hS hl
                            refine lv_istore hx hb d_M_matches_233 hl (by decide) rfl (fun ls hl => ?_)
                            have hl : lv_has ls 13 [(11, .int (bI b)), (9, .int (nI (u + 1))), (10, .int (nI (z - (u + 1)))), (3, .int (nI (z + 1))), (8, .int (nI sg)), (6, .int (voI (x.vo s7 k (q - k)))), (7, .int (nI (x.vo s7 k (q - k)).2.1)), (5, .int (nI k)), (1, .int (nI s7)), (2, .int (nI p7)), (0, .ref h), (4, .int (bI g))] := hl
                            have J286 : ∀ (b : Bool) (b4 : x.mtB (x.vo s7 k (q - k)) (u + 1) (z - (u + 1)) = b), ∀ (H : Heap) (locs : List Loc) (ls : Array Slot) (hP : va_P D vwCl (MW dA h ad (MS.s_valueLength x ((x.vo s7 k (q - k)).2.1))) H) (hD : va_D A (MW dA h ad (MS.s_valueLength x ((x.vo s7 k (q - k)).2.1)))) (hS : va_S A s.heap H locs) (hl : lv_has ls 13 [(11, .int (bI b)), (9, .int (nI (u + 1))), (10, .int (nI (z - (u + 1)))), (3, .int (nI (z + 1))), (8, .int (nI sg)), (6, .int (voI (x.vo s7 k (q - k)))), (7, .int (nI (x.vo s7 k (q - k)).2.1)), (5, .int (nI k)), (1, .int (nI s7)), (2, .int (nI p7)), (0, .ref h), (4, .int (bI g))]), W p l e ({ frames := 2, cells := 0, slots := 0, locals := 29 } : Room) s m ([.ref h, .int (nI s7), .int (nI p7)] : List Value).toArray below meth c H locs 0 0 (MQ below (va_Qi (fun (r9 : Int32) (u9 : Unit) => r9 = bI (x.mt s7 p7).1) (fun (u9 : Unit) t9 => bW D A (MW dA h ad (MS.s_valueLength x ((x.mt s7 p7).2))) t9) A) ([.ref h, .int (nI s7), .int (nI p7)] : List Value).toArray s 0 0 A) (F0 m 286 ls []) := by
                              intro b b4 H locs ls hP hD hS hl
                              have J303 : ∀ (y : Bool) (y4 : (b && decide ((x.vo s7 k (q - k)).2.1 = (z - (u + 1)))) = y), ∀ (H : Heap) (locs : List Loc) (ls : Array Slot) (hP : va_P D vwCl (MW dA h ad (MS.s_valueLength x ((x.vo s7 k (q - k)).2.1))) H) (hD : va_D A (MW dA h ad (MS.s_valueLength x ((x.vo s7 k (q - k)).2.1)))) (hS : va_S A s.heap H locs) (hl : lv_has ls 13 [(11, .int (bI b)), (9, .int (nI (u + 1))), (10, .int (nI (z - (u + 1)))), (3, .int (nI (z + 1))), (8, .int (nI sg)), (6, .int (voI (x.vo s7 k (q - k)))), (7, .int (nI (x.vo s7 k (q - k)).2.1)), (5, .int (nI k)), (1, .int (nI s7)), (2, .int (nI p7)), (0, .ref h), (4, .int (bI g))]), W p l e ({ frames := 2, cells := 0, slots := 0, locals := 29 } : Room) s m ([.ref h, .int (nI s7), .int (nI p7)] : List Value).toArray below meth c H locs 0 0 (MQ below (va_Qi (fun (r9 : Int32) (u9 : Unit) => r9 = bI (x.mt s7 p7).1) (fun (u9 : Unit) t9 => bW D A (MW dA h ad (MS.s_valueLength x ((x.mt s7 p7).2))) t9) A) ([.ref h, .int (nI s7), .int (nI p7)] : List Value).toArray s 0 0 A) (F0 m 303 ls [.int (bI y)]) := by
                                intro y y4 H locs ls hP hD hS hl
                                refine lv_istore hx hb d_M_matches_303 hl (by decide) rfl (fun ls hl => ?_)
                                have hl : lv_has ls 13 [(12, .int (bI y)), (11, .int (bI b)), (9, .int (nI (u + 1))), (10, .int (nI (z - (u + 1)))), (3, .int (nI (z + 1))), (8, .int (nI sg)), (6, .int (voI (x.vo s7 k (q - k)))), (7, .int (nI (x.vo s7 k (q - k)).2.1)), (5, .int (nI k)), (1, .int (nI s7)), (2, .int (nI p7)), (0, .ref h), (4, .int (bI g))] := hl
                                have J355 : ∀ (gz : Bool) (gz4 : mtH sg b y = gz), ∀ (H : Heap) (locs : List Loc) (ls : Array Slot) (hP : va_P D vwCl (MW dA h ad (MS.s_valueLength x ((x.vo s7 k (q - k)).2.1))) H) (hD : va_D A (MW dA h ad (MS.s_valueLength x ((x.vo s7 k (q - k)).2.1)))) (hS : va_S A s.heap H locs) (hl : lv_has ls 13 [(3, .int (nI (z + 1))), (1, .int (nI s7)), (2, .int (nI p7)), (0, .ref h), (4, .int (bI g))]), W p l e ({ frames := 2, cells := 0, slots := 0, locals := 29 } : Room) s m ([.ref h, .int (nI s7), .int (nI p7)] : List Value).toArray below meth c H locs 0 0 (MQ below (va_Qi (fun (r9 : Int32) (u9 : Unit) => r9 = bI (x.mt s7 p7).1) (fun (u9 : Unit) t9 => bW D A (MW dA h ad (MS.s_valueLength x ((x.mt s7 p7).2))) t9) A) ([.ref h, .int (nI s7), .int (nI p7)] : List Value).toArray s 0 0 A) (F0 m 355 ls [.int (bI gz)]) := by
                                  intro gz gz4 H locs ls hP hD hS hl
                                  have k1 : x.mt1 s7 k = gz := by unfold MS.mt1 MS.mtQ MS.mtN; rw [ev, f1, sq1, h4, z4, b4, y4]; exact gz4
                                  refine lv_istore hx hb d_M_matches_355 hl (by decide) rfl (fun ls hl => ?_)
                                  have hl : lv_has ls 13 [(4, .int (bI gz)), (3, .int (nI (z + 1))), (1, .int (nI s7)), (2, .int (nI p7)), (0, .ref h)] := hl
                                  refine lv_goto hx hb d_M_matches_357 (tgt := 5) rfl ?_
                                  exact ih5 _ (by omega) (z + 1) gz (w - 1) ((x.vo s7 k (q - k)).2.1) (by rw [← i1, mtG_m (tp := x.atN) (nx := m5E x.tape x.length) (hd := x.mt1 s7) (vl := x.mtL s7) w1 g1 g4 sp, z4, k1, show x.mtL s7 k = (x.vo s7 k (q - k)).2.1 from congrArg (fun z => z.2.1) ev]) (by rw [← z4]; exact w3) (by omega) (Nat.le_refl _) rfl H _ ls hP hD hS (lv_sub hl [1, 2, 3, 4, 0] rfl)
                                refine lv_iload hx hb d_M_matches_305 (lv_at hl 5 rfl) ?_
                                refine lv_if_ne hx hb d_M_matches_307 (tgt := 315) rfl (fun g13 => ?_) (fun g13 => ?_)
                                · have g13 := mt (nI_eq (a := sg) (b := 0) (by omega) (by decide)).mpr g13
                                  refine lv_iload hx hb d_M_matches_315 (lv_at hl 5 rfl) ?_
                                  refine lv_iconst (v := 1) hx hb d_M_matches_317 (by decide) ?_
                                  refine lv_icmp_ne hx hb d_M_matches_318 (tgt := 334) rfl (fun g14 => ?_) (fun g14 => ?_)
                                  · have g14 := mt (nI_eq (a := sg) (b := 1) (by omega) (by omega)).mpr g14
                                    refine lv_iload hx hb d_M_matches_334 (lv_at hl 5 rfl) ?_
                                    refine lv_iconst (v := 2) hx hb d_M_matches_336 (by decide) ?_
                                    refine lv_icmp_ne hx hb d_M_matches_337 (tgt := 345) rfl (fun g15 => ?_) (fun g15 => ?_)
                                    · have g15 := mt (nI_eq (a := sg) (b := 2) (by omega) (by omega)).mpr g15
                                      refine lv_iload hx hb d_M_matches_345 (lv_at hl 1 rfl) ?_
                                      refine lv_if_ne hx hb d_M_matches_347 (tgt := 354) rfl (fun g16 => ?_) (fun g16 => ?_)
                                      · have g16 := bI_n0 g16
                                        refine lv_iconst (v := 0) hx hb d_M_matches_354 (by decide) ?_
                                        exact J355 false (by unfold mtH; rw [if_neg g13, if_neg g14, if_neg g15]; rw [g16]; rfl) H _ ls hP hD hS (lv_sub hl [4, 9, 10, 11, 12] rfl)
                                      · have g16 := bI_0 g16
                                        refine lv_iconst (v := 1) hx hb d_M_matches_350 (by decide) ?_
                                        refine lv_goto hx hb d_M_matches_351 (tgt := 355) rfl ?_
                                        exact J355 true (by unfold mtH; rw [if_neg g13, if_neg g14, if_neg g15]; rw [g16]; rfl) H _ ls hP hD hS (lv_sub hl [4, 9, 10, 11, 12] rfl)
                                    · have g15 := (nI_eq (a := sg) (b := 2) (by omega) (by omega)).mp g15
                                      refine lv_iload hx hb d_M_matches_340 (lv_at hl 1 rfl) ?_
                                      refine lv_goto hx hb d_M_matches_342 (tgt := 355) rfl ?_
                                      exact J355 b (by unfold mtH; rw [if_neg g13, if_neg g14, if_pos g15]) H _ ls hP hD hS (lv_sub hl [4, 9, 10, 11, 12] rfl)
                                  · have g14 := (nI_eq (a := sg) (b := 1) (by omega) (by omega)).mp g14
                                    refine lv_iload hx hb d_M_matches_321 (lv_at hl 0 rfl) ?_
                                    refine lv_if_ne hx hb d_M_matches_323 (tgt := 330) rfl (fun g17 => ?_) (fun g17 => ?_)
                                    · have g17 := bI_n0 g17
                                      refine lv_iconst (v := 0) hx hb d_M_matches_330 (by decide) ?_
                                      refine lv_goto hx hb d_M_matches_331 (tgt := 355) rfl ?_
                                      exact J355 false (by unfold mtH; rw [if_neg g13, if_pos g14]; rw [g17]; rfl) H _ ls hP hD hS (lv_sub hl [4, 9, 10, 11, 12] rfl)
                                    · have g17 := bI_0 g17
                                      refine lv_iconst (v := 1) hx hb d_M_matches_326 (by decide) ?_
                                      refine lv_goto hx hb d_M_matches_327 (tgt := 355) rfl ?_
                                      exact J355 true (by unfold mtH; rw [if_neg g13, if_pos g14]; rw [g17]; rfl) H _ ls hP hD hS (lv_sub hl [4, 9, 10, 11, 12] rfl)
                                · have g13 := (nI_eq (a := sg) (b := 0) (by omega) (by decide)).mp g13
                                  refine lv_iload hx hb d_M_matches_310 (lv_at hl 0 rfl) ?_
                                  refine lv_goto hx hb d_M_matches_312 (tgt := 355) rfl ?_
                                  exact J355 y (by unfold mtH; rw [if_pos g13]) H _ ls hP hD hS (lv_sub hl [4, 9, 10, 11, 12] rfl)
                              refine lv_iload hx hb d_M_matches_286 (lv_at hl 0 rfl) ?_
                              refine lv_if_eq hx hb d_M_matches_288 (tgt := 302) rfl (fun g18 => ?_) (fun g18 => ?_)
                              · have g18 := bI_0 g18
                                refine lv_iconst (v := 0) hx hb d_M_matches_302 (by decide) ?_
                                exact J303 false (by rw [g18]; rfl) H _ ls hP hD hS (lv_sub hl [0, 1, 2, 3, 4, 5, 6, 7, 8, 9, 10, 11] rfl)
                              · have g18 := bI_n0 g18
                                refine lv_iload hx hb d_M_matches_291 (lv_at hl 6 rfl) ?_
                                refine lv_iload hx hb d_M_matches_293 (lv_at hl 2 rfl) ?_
                                refine lv_icmp_ne hx hb d_M_matches_295 (tgt := 302) rfl (fun g19 => ?_) (fun g19 => ?_)
                                · have g19 := mt (nI_eq (a := (x.vo s7 k (q - k)).2.1) (b := z - (u + 1)) (by omega) (by omega)).mpr g19
                                  refine lv_iconst (v := 0) hx hb d_M_matches_302 (by decide) ?_
                                  exact J303 false (by rw [g18, decide_eq_false g19]; rfl) H _ ls hP hD hS (lv_sub hl [0, 1, 2, 3, 4, 5, 6, 7, 8, 9, 10, 11] rfl)
                                · have g19 := (nI_eq (a := (x.vo s7 k (q - k)).2.1) (b := z - (u + 1)) (by omega) (by omega)).mp g19
                                  refine lv_iconst (v := 1) hx hb d_M_matches_298 (by decide) ?_
                                  refine lv_goto hx hb d_M_matches_299 (tgt := 303) rfl ?_
                                  exact J303 true (by rw [g18, decide_eq_true g19]; rfl) H _ ls hP hD hS (lv_sub hl [0, 1, 2, 3, 4, 5, 6, 7, 8, 9, 10, 11] rfl)
                            refine lv_iconst (v := 0) hx hb d_M_matches_235 (by decide) ?_
                            refine lv_istore hx hb d_M_matches_236 hl (by decide) rfl (fun ls hl => ?_)
                            have hl : lv_has ls 13 [(12, .int 0), (11, .int (bI b)), (9, .int (nI (u + 1))), (10, .int (nI (z - (u + 1)))), (3, .int (nI (z + 1))), (8, .int (nI sg)), (6, .int (voI (x.vo s7 k (q - k)))), (7, .int (nI (x.vo s7 k (q - k)).2.1)), (5, .int (nI k)), (1, .int (nI s7)), (2, .int (nI p7)), (0, .ref h), (4, .int (bI g))] := hl
                            have L238 : ∀ (k9 : Nat) (j : Nat) (b : Bool) (m1 : j ≤ (z - (u + 1))) (m2 : (decide ((z - (u + 1)) ≤ (x.vo s7 k (q - k)).2.1) && allB j (txEq x.texts x.tape (x.vo s7 k (q - k)).1 (u + 1))) = b) (hk9 : (z - (u + 1)) - j = k9), ∀ (H : Heap) (locs : List Loc) (ls : Array Slot) (hP : va_P D vwCl (MW dA h ad (MS.s_valueLength x ((x.vo s7 k (q - k)).2.1))) H) (hD : va_D A (MW dA h ad (MS.s_valueLength x ((x.vo s7 k (q - k)).2.1)))) (hS : va_S A s.heap H locs) (hl : lv_has ls 13 [(12, .int (nI j)), (11, .int (bI b)), (9, .int (nI (u + 1))), (10, .int (nI (z - (u + 1)))), (3, .int (nI (z + 1))), (8, .int (nI sg)), (6, .int (voI (x.vo s7 k (q - k)))), (7, .int (nI (x.vo s7 k (q - k)).2.1)), (5, .int (nI k)), (1, .int (nI s7)), (2, .int (nI p7)), (0, .ref h), (4, .int (bI g))]), W p l e ({ frames := 2, cells := 0, slots := 0, locals := 29 } : Room) s m ([.ref h, .int (nI s7), .int (nI p7)] : List Value).toArray below meth c H locs 0 0 (MQ below (va_Qi (fun (r9 : Int32) (u9 : Unit) => r9 = bI (x.mt s7 p7).1) (fun (u9 : Unit) t9 => bW D A (MW dA h ad (MS.s_valueLength x ((x.mt s7 p7).2))) t9) A) ([.ref h, .int (nI s7), .int (nI p7)] : List Value).toArray s 0 0 A) (F0 m 238 ls []) := by
                              intro k9
                              induction k9 using Nat.strongRecOn with
                              | ind k9 ih238 =>
                                intro j b m1 m2 hk9 H locs ls hP hD hS hl
                                refine lv_iload hx hb d_M_matches_238 (lv_at hl 0 rfl) ?_
                                refine lv_iload hx hb d_M_matches_240 (lv_at hl 3 rfl) ?_
                                refine lv_icmp_ge hx hb d_M_matches_242 (tgt := 286) rfl (fun g20 => ?_) (fun g20 => ?_)
                                · have g20 := (nI_leI (a := z - (u + 1)) (b := j) (by omega) (by omega)).mp g20
                                  exact J286 b (and_end m1 m2 (Or.inl (by omega))) H _ ls hP hD hS (lv_sub hl [1, 2, 3, 4, 5, 6, 7, 8, 9, 10, 11, 12] rfl)
                                · have g20 := mt (nI_leI (a := z - (u + 1)) (b := j) (by omega) (by omega)).mpr g20
                                  refine lv_iload hx hb d_M_matches_245 (lv_at hl 1 rfl) ?_
                                  refine lv_if_eq hx hb d_M_matches_247 (tgt := 286) rfl (fun g21 => ?_) (fun g21 => ?_)
                                  · have g21 := bI_0 g21
                                    exact J286 b (and_end m1 m2 (Or.inr g21)) H _ ls hP hD hS (lv_sub hl [1, 2, 3, 4, 5, 6, 7, 8, 9, 10, 11, 12] rfl)
                                  · have g21 := bI_n0 g21
                                    have l5 : (z - (u + 1)) ≤ (x.vo s7 k (q - k)).2.1 := of_decide_eq_true (and_l m2 g21)
                                    refine lv_aload_n hx hb d_M_matches_250 rfl (lv_at hl 11 rfl) ?_
                                    refine gF (v := .ref (ad 10)) hx hb hown hE hK hP 0 rfl rfl layM 10 (by decide) w499 rfl d_M_matches_251 ?_
                                    refine lv_iload hx hb d_M_matches_254 (lv_at hl 6 rfl) ?_
                                    refine lv_iload hx hb d_M_matches_256 (lv_at hl 0 rfl) ?_
                                    refine lv_iadd hx hb d_M_matches_258 ?_
                                    refine tpi (y := nI ((x.vo s7 k (q - k)).1 + j)) (vo_add hts (by omega)) ?_
                                    refine nbld (f := x.texts) hx hb hK hP 2 0 rfl rfl ((x.vo s7 k (q - k)).1 + j) (by omega) (by decide) d_M_matches_259 ?_
                                    refine lv_aload_n hx hb d_M_matches_260 rfl (lv_at hl 11 rfl) ?_
                                    refine gF (v := .ref (ad 1)) hx hb hown hE hK hP 0 rfl rfl layM 1 (by decide) w497 rfl d_M_matches_261 ?_
                                    refine lv_iload hx hb d_M_matches_264 (lv_at hl 2 rfl) ?_
                                    refine lv_iload hx hb d_M_matches_266 (lv_at hl 0 rfl) ?_
                                    refine lv_iadd hx hb d_M_matches_268 (tpi (y := nI (u + 1 + j)) (nI_add (u + 1) (j)) ?_)
                                    refine nbld (f := x.tape) hx hb hK hP 1 0 rfl rfl (u + 1 + j) (by omega) (by decide) d_M_matches_269 ?_
                                    refine lv_icmp_ne hx hb d_M_matches_270 (tgt := 277) rfl (fun g22 => ?_) (fun g22 => ?_)
                                    · have g22 := g22
                                      refine lv_iconst (v := 0) hx hb d_M_matches_277 (by decide) ?_
                                      refine lv_istore hx hb d_M_matches_278 hl (by decide) rfl (fun ls hl => ?_)
                                      have hl : lv_has ls 13 [(11, .int 0), (12, .int (nI j)), (9, .int (nI (u + 1))), (10, .int (nI (z - (u + 1)))), (3, .int (nI (z + 1))), (8, .int (nI sg)), (6, .int (voI (x.vo s7 k (q - k)))), (7, .int (nI (x.vo s7 k (q - k)).2.1)), (5, .int (nI k)), (1, .int (nI s7)), (2, .int (nI p7)), (0, .ref h), (4, .int (bI g))] := hl
                                      refine lv_iinc (k := 1) (v := nI (j + 1)) hx hb d_M_matches_280 hl rfl (iincN (j) 1 1 (by decide)) (by decide) rfl (fun ls hl => ?_)
                                      have hl : lv_has ls 13 [(12, .int (nI (j + 1))), (11, .int 0), (9, .int (nI (u + 1))), (10, .int (nI (z - (u + 1)))), (3, .int (nI (z + 1))), (8, .int (nI sg)), (6, .int (voI (x.vo s7 k (q - k)))), (7, .int (nI (x.vo s7 k (q - k)).2.1)), (5, .int (nI k)), (1, .int (nI s7)), (2, .int (nI p7)), (0, .ref h), (4, .int (bI g))] := hl
                                      refine lv_goto hx hb d_M_matches_283 (tgt := 238) rfl ?_
                                      exact ih238 _ (by omega) (j + 1) false (by omega) (by rw [allB_s, ← Bool.and_assoc, m2, g21]; exact decide_eq_false g22) rfl H _ ls hP hD hS (lv_sub hl [0, 1, 2, 3, 4, 5, 6, 7, 8, 9, 10, 11, 12] rfl)
                                    · have g22 := g22
                                      refine lv_iconst (v := 1) hx hb d_M_matches_273 (by decide) ?_
                                      refine lv_goto hx hb d_M_matches_274 (tgt := 278) rfl ?_
                                      refine lv_istore hx hb d_M_matches_278 hl (by decide) rfl (fun ls hl => ?_)
                                      have hl : lv_has ls 13 [(11, .int 1), (12, .int (nI j)), (9, .int (nI (u + 1))), (10, .int (nI (z - (u + 1)))), (3, .int (nI (z + 1))), (8, .int (nI sg)), (6, .int (voI (x.vo s7 k (q - k)))), (7, .int (nI (x.vo s7 k (q - k)).2.1)), (5, .int (nI k)), (1, .int (nI s7)), (2, .int (nI p7)), (0, .ref h), (4, .int (bI g))] := hl
                                      refine lv_iinc (k := 1) (v := nI (j + 1)) hx hb d_M_matches_280 hl rfl (iincN (j) 1 1 (by decide)) (by decide) rfl (fun ls hl => ?_)
                                      have hl : lv_has ls 13 [(12, .int (nI (j + 1))), (11, .int 1), (9, .int (nI (u + 1))), (10, .int (nI (z - (u + 1)))), (3, .int (nI (z + 1))), (8, .int (nI sg)), (6, .int (voI (x.vo s7 k (q - k)))), (7, .int (nI (x.vo s7 k (q - k)).2.1)), (5, .int (nI k)), (1, .int (nI s7)), (2, .int (nI p7)), (0, .ref h), (4, .int (bI g))] := hl
                                      refine lv_goto hx hb d_M_matches_283 (tgt := 238) rfl ?_
                                      exact ih238 _ (by omega) (j + 1) true (by omega) (by rw [allB_s, ← Bool.and_assoc, m2, g21]; exact decide_eq_true g22) rfl H _ ls hP hD hS (lv_sub hl [0, 1, 2, 3, 4, 5, 6, 7, 8, 9, 10, 11, 12] rfl)
                            exact L238 _ 0 b (Nat.zero_le _) (by rw [b1]; exact Bool.and_true _) rfl H _ ls hP hD hS (lv_sub hl [0, 1, 2, 3, 4, 5, 6, 7, 8, 9, 10, 11, 12] rfl)
                          refine lv_iload hx hb d_M_matches_221 (lv_at hl 5 rfl) ?_
                          refine lv_iload hx hb d_M_matches_223 (lv_at hl 1 rfl) ?_
                          refine lv_icmp_lt hx hb d_M_matches_225 (tgt := 232) rfl (fun g23 => ?_) (fun g23 => ?_)
                          · have g23 := (nI_ltI (a := (x.vo s7 k (q - k)).2.1) (b := z - (u + 1)) (by omega) (by omega)).mp g23
                            refine lv_iconst (v := 0) hx hb d_M_matches_232 (by decide) ?_
                            exact J233 false (decide_eq_false (by omega)) H _ ls hP hD hS (lv_sub hl [2, 1, 0, 3, 4, 5, 6, 7, 8, 9, 10] rfl)
                          · have g23 := mt (nI_ltI (a := (x.vo s7 k (q - k)).2.1) (b := z - (u + 1)) (by omega) (by omega)).mpr g23
                            refine lv_iconst (v := 1) hx hb d_M_matches_228 (by decide) ?_
                            refine lv_goto hx hb d_M_matches_229 (tgt := 233) rfl ?_
                            exact J233 true (decide_eq_true (by omega)) H _ ls hP hD hS (lv_sub hl [2, 1, 0, 3, 4, 5, 6, 7, 8, 9, 10] rfl)
                        refine lv_iinc (k := 1) (v := nI (u + 1)) hx hb d_M_matches_193 hl rfl (iincN (u) 1 1 (by decide)) (by decide) rfl (fun ls hl => ?_)
                        have hl : lv_has ls 13 [(3, .int (nI (u + 1))), (9, .int (nI (u + 1))), (8, .int (nI sg)), (6, .int (voI (x.vo s7 k (q - k)))), (7, .int (nI (x.vo s7 k (q - k)).2.1)), (5, .int (nI k)), (1, .int (nI s7)), (2, .int (nI p7)), (0, .ref h), (4, .int (bI g))] := hl
                        have L196 : ∀ (k9 : Nat) (z : Nat) (z1 : fqA x.tape x.length (x.length - z) z = m5E x.tape x.length k) (z2 : u + 1 ≤ z) (hk9 : x.length - z = k9), ∀ (H : Heap) (locs : List Loc) (ls : Array Slot) (hP : va_P D vwCl (MW dA h ad (MS.s_valueLength x ((x.vo s7 k (q - k)).2.1))) H) (hD : va_D A (MW dA h ad (MS.s_valueLength x ((x.vo s7 k (q - k)).2.1)))) (hS : va_S A s.heap H locs) (hl : lv_has ls 13 [(9, .int (nI (u + 1))), (3, .int (nI z)), (8, .int (nI sg)), (6, .int (voI (x.vo s7 k (q - k)))), (7, .int (nI (x.vo s7 k (q - k)).2.1)), (5, .int (nI k)), (1, .int (nI s7)), (2, .int (nI p7)), (0, .ref h), (4, .int (bI g))]), W p l e ({ frames := 2, cells := 0, slots := 0, locals := 29 } : Room) s m ([.ref h, .int (nI s7), .int (nI p7)] : List Value).toArray below meth c H locs 0 0 (MQ below (va_Qi (fun (r9 : Int32) (u9 : Unit) => r9 = bI (x.mt s7 p7).1) (fun (u9 : Unit) t9 => bW D A (MW dA h ad (MS.s_valueLength x ((x.mt s7 p7).2))) t9) A) ([.ref h, .int (nI s7), .int (nI p7)] : List Value).toArray s 0 0 A) (F0 m 196 ls []) := by
                          intro k9
                          induction k9 using Nat.strongRecOn with
                          | ind k9 ih196 =>
                            intro z z1 z2 hk9 H locs ls hP hD hS hl
                            have z3 : z ≤ m5E x.tape x.length k := by rw [← z1]; exact fqA_ge
                            refine lv_aload_n hx hb d_M_matches_196 rfl (lv_at hl 8 rfl) ?_
                            refine lv_iload_n hx hb d_M_matches_197 rfl (lv_at hl 1 rfl) ?_
                            refine jfI (rnV (As := [.int (nI z)]) (rest := []) hx hb hml hown hE hK (hN _ _ hS) hP hD (k_at l D dA H.size h ad (MS.s_valueLength x ((x.vo s7 k (q - k)).2.1)) z (show z < 2 ^ 31 from by omega) (show x.length ≤ 65536 from by omega)) (q0 := 0) rfl rfl w466 w465 w467 w468 w328 rfl rfl ⟨⟨by decide, by decide⟩, rfl⟩ ⟨(Nat.le_of_ble_eq_true rfl), (Nat.le_of_ble_eq_true rfl)⟩ rfl hl.1 rfl (Nat.le_of_ble_eq_true rfl) d_M_matches_198 ⟨(Nat.le_of_ble_eq_true rfl), (Nat.le_of_ble_eq_true rfl)⟩) hP hD hS hA (fun r24 u25 H locs hp9 hP hD hS => ?_)
                            have hP : va_P D vwCl (MW dA h ad (MS.s_valueLength x ((x.vo s7 k (q - k)).2.1))) H := hP
                            have hD : va_D A (MW dA h ad (MS.s_valueLength x ((x.vo s7 k (q - k)).2.1))) := hD
                            replace hp9 : x.atN z = r24 := Eq.symm hp9
                            subst hp9
                            refine lv_bipush (v := 34) hx hb d_M_matches_201 (by decide) ?_
                            refine lv_icmp_eq hx hb d_M_matches_203 (tgt := 212) rfl (fun g26 => ?_) (fun g26 => ?_)
                            · have g26 := g26
                              exact J212 z (z1.symm.trans (fqA_y g26)) (by omega) H _ ls hP hD hS (lv_sub hl [0, 1, 2, 3, 4, 5, 6, 7, 8, 9] rfl)
                            · have g26 := g26
                              refine lv_iinc (k := 1) (v := nI (z + 1)) hx hb d_M_matches_206 hl rfl (iincN (z) 1 1 (by decide)) (by decide) rfl (fun ls hl => ?_)
                              have hl : lv_has ls 13 [(3, .int (nI (z + 1))), (9, .int (nI (u + 1))), (8, .int (nI sg)), (6, .int (voI (x.vo s7 k (q - k)))), (7, .int (nI (x.vo s7 k (q - k)).2.1)), (5, .int (nI k)), (1, .int (nI s7)), (2, .int (nI p7)), (0, .ref h), (4, .int (bI g))] := hl
                              refine lv_goto hx hb d_M_matches_209 (tgt := 196) rfl ?_
                              exact ih196 _ (by omega) (z + 1) (by rw [← z1, fqA_n (w := x.length - z) (by omega) g26, show x.length - z - 1 = x.length - (z + 1) by omega]) (by omega) rfl H _ ls hP hD hS (lv_sub hl [1, 0, 2, 3, 4, 5, 6, 7, 8, 9] rfl)
                        exact L196 _ (u + 1) (by unfold m5E; rw [h4]) (by omega) rfl H _ ls hP hD hS (lv_sub hl [1, 0, 2, 3, 4, 5, 6, 7, 8, 9] rfl)
                      refine lv_istore_n hx hb d_M_matches_171 rfl hl (by decide) rfl (fun ls hl => ?_)
                      have hl : lv_has ls 13 [(3, .int (nI (r + d))), (8, .int (nI sg)), (6, .int (voI (x.vo s7 k (q - k)))), (7, .int (nI (x.vo s7 k (q - k)).2.1)), (5, .int (nI k)), (1, .int (nI s7)), (2, .int (nI p7)), (0, .ref h), (4, .int (bI g))] := hl
                      have L172 : ∀ (k9 : Nat) (u : Nat) (u1 : skA x.tape x.length (x.length + 1 - u) u = m4E x.tape x.length k) (u2 : u ≤ 65540) (hk9 : 65541 - u = k9), ∀ (H : Heap) (locs : List Loc) (ls : Array Slot) (hP : va_P D vwCl (MW dA h ad (MS.s_valueLength x ((x.vo s7 k (q - k)).2.1))) H) (hD : va_D A (MW dA h ad (MS.s_valueLength x ((x.vo s7 k (q - k)).2.1)))) (hS : va_S A s.heap H locs) (hl : lv_has ls 13 [(3, .int (nI u)), (8, .int (nI sg)), (6, .int (voI (x.vo s7 k (q - k)))), (7, .int (nI (x.vo s7 k (q - k)).2.1)), (5, .int (nI k)), (1, .int (nI s7)), (2, .int (nI p7)), (0, .ref h), (4, .int (bI g))]), W p l e ({ frames := 2, cells := 0, slots := 0, locals := 29 } : Room) s m ([.ref h, .int (nI s7), .int (nI p7)] : List Value).toArray below meth c H locs 0 0 (MQ below (va_Qi (fun (r9 : Int32) (u9 : Unit) => r9 = bI (x.mt s7 p7).1) (fun (u9 : Unit) t9 => bW D A (MW dA h ad (MS.s_valueLength x ((x.mt s7 p7).2))) t9) A) ([.ref h, .int (nI s7), .int (nI p7)] : List Value).toArray s 0 0 A) (F0 m 172 ls []) := by
                        intro k9
                        induction k9 using Nat.strongRecOn with
                        | ind k9 ih172 =>
                          intro u u1 u2 hk9 H locs ls hP hD hS hl
                          refine lv_aload_n hx hb d_M_matches_172 rfl (lv_at hl 7 rfl) ?_
                          refine lv_iload_n hx hb d_M_matches_173 rfl (lv_at hl 0 rfl) ?_
                          refine jfI (rnV (As := [.int (nI u)]) (rest := []) hx hb hml hown hE hK (hN _ _ hS) hP hD (k_at l D dA H.size h ad (MS.s_valueLength x ((x.vo s7 k (q - k)).2.1)) u (show u < 2 ^ 31 from by omega) (show x.length ≤ 65536 from by omega)) (q0 := 0) rfl rfl w466 w465 w467 w468 w328 rfl rfl ⟨⟨by decide, by decide⟩, rfl⟩ ⟨(Nat.le_of_ble_eq_true rfl), (Nat.le_of_ble_eq_true rfl)⟩ rfl hl.1 rfl (Nat.le_of_ble_eq_true rfl) d_M_matches_174 ⟨(Nat.le_of_ble_eq_true rfl), (Nat.le_of_ble_eq_true rfl)⟩) hP hD hS hA (fun r27 u28 H locs hp9 hP hD hS => ?_)
                          have hP : va_P D vwCl (MW dA h ad (MS.s_valueLength x ((x.vo s7 k (q - k)).2.1))) H := hP
                          have hD : va_D A (MW dA h ad (MS.s_valueLength x ((x.vo s7 k (q - k)).2.1))) := hD
                          replace hp9 : x.atN u = r27 := Eq.symm hp9
                          subst hp9
                          refine lv_bipush (v := 32) hx hb d_M_matches_177 (by decide) ?_
                          refine lv_icmp_ne hx hb d_M_matches_179 (tgt := 188) rfl (fun g29 => ?_) (fun g29 => ?_)
                          · have g29 := g29
                            exact J188 u (u1.symm.trans (skA_f g29)) H _ ls hP hD hS (lv_sub hl [0, 1, 2, 3, 4, 5, 6, 7, 8] rfl)
                          · have g29 := g29
                            refine lv_iinc (k := 0) (v := nI (u + 1)) hx hb d_M_matches_182 hl rfl (iincN (u) 1 1 (by decide)) (by decide) rfl (fun ls hl => ?_)
                            have hl : lv_has ls 13 [(3, .int (nI (u + 1))), (8, .int (nI sg)), (6, .int (voI (x.vo s7 k (q - k)))), (7, .int (nI (x.vo s7 k (q - k)).2.1)), (5, .int (nI k)), (1, .int (nI s7)), (2, .int (nI p7)), (0, .ref h), (4, .int (bI g))] := hl
                            refine lv_goto hx hb d_M_matches_185 (tgt := 172) rfl ?_
                            exact ih172 _ (by omega) (u + 1) (by rw [← u1, skA_t (w := x.length + 1 - u) (by have := atI_in g29 (by decide); omega) g29, show x.length + 1 - u - 1 = x.length + 1 - (u + 1) by omega]) (by have := atI_in g29 (by decide); omega) rfl H _ ls hP hD hS (lv_sub hl [0, 1, 2, 3, 4, 5, 6, 7, 8] rfl)
                      exact L172 _ (r + d) (by unfold m4E m3E; rw [f1, sq1, d1]) (by omega) rfl H _ ls hP hD hS (lv_sub hl [0, 1, 2, 3, 4, 5, 6, 7, 8] rfl)
                    refine lv_iload_n hx hb d_M_matches_159 rfl (lv_at hl 1 rfl) ?_
                    refine lv_iload hx hb d_M_matches_160 (lv_at hl 0 rfl) ?_
                    refine lv_if_ne hx hb d_M_matches_162 (tgt := 169) rfl (fun g30 => ?_) (fun g30 => ?_)
                    · have g30 := mt (nI_eq (a := sg) (b := 0) (by omega) (by decide)).mpr g30
                      refine lv_iconst (v := 2) hx hb d_M_matches_169 (by decide) ?_
                      exact J170 2 (if_neg g30) (by decide) H _ ls hP hD hS (lv_sub hl [0, 2, 3, 4, 5, 6, 7, 8] rfl)
                    · have g30 := (nI_eq (a := sg) (b := 0) (by omega) (by decide)).mp g30
                      refine lv_iconst (v := 1) hx hb d_M_matches_165 (by decide) ?_
                      refine lv_goto hx hb d_M_matches_166 (tgt := 170) rfl ?_
                      exact J170 1 (if_pos g30) (by decide) H _ ls hP hD hS (lv_sub hl [0, 2, 3, 4, 5, 6, 7, 8] rfl)
                  refine lv_aload_n hx hb d_M_matches_112 rfl (lv_at hl 6 rfl) ?_
                  refine lv_iload_n hx hb d_M_matches_113 rfl (lv_at hl 0 rfl) ?_
                  refine jfI (rnV (As := [.int (nI r)]) (rest := []) hx hb hml hown hE hK (hN _ _ hS) hP hD (k_at l D dA H.size h ad (MS.s_valueLength x ((x.vo s7 k (q - k)).2.1)) r (show r < 2 ^ 31 from by omega) (show x.length ≤ 65536 from by omega)) (q0 := 0) rfl rfl w466 w465 w467 w468 w328 rfl rfl ⟨⟨by decide, by decide⟩, rfl⟩ ⟨(Nat.le_of_ble_eq_true rfl), (Nat.le_of_ble_eq_true rfl)⟩ rfl hl.1 rfl (Nat.le_of_ble_eq_true rfl) d_M_matches_114 ⟨(Nat.le_of_ble_eq_true rfl), (Nat.le_of_ble_eq_true rfl)⟩) hP hD hS hA (fun r31 u32 H locs hp9 hP hD hS => ?_)
                  have hP : va_P D vwCl (MW dA h ad (MS.s_valueLength x ((x.vo s7 k (q - k)).2.1))) H := hP
                  have hD : va_D A (MW dA h ad (MS.s_valueLength x ((x.vo s7 k (q - k)).2.1))) := hD
                  replace hp9 : x.atN r = r31 := Eq.symm hp9
                  subst hp9
                  refine lv_bipush (v := 61) hx hb d_M_matches_117 (by decide) ?_
                  refine lv_icmp_ne hx hb d_M_matches_119 (tgt := 126) rfl (fun g33 => ?_) (fun g33 => ?_)
                  · have g33 := g33
                    refine lv_aload_n hx hb d_M_matches_126 rfl (lv_at hl 6 rfl) ?_
                    refine lv_iload_n hx hb d_M_matches_127 rfl (lv_at hl 0 rfl) ?_
                    refine lv_iconst (v := 1) hx hb d_M_matches_128 (by decide) ?_
                    refine lv_iadd hx hb d_M_matches_129 (tpi (y := nI (r + 1)) (nI_add (r) (1)) ?_)
                    refine jfI (rnV (As := [.int (nI (r + 1))]) (rest := []) hx hb hml hown hE hK (hN _ _ hS) hP hD (k_at l D dA H.size h ad (MS.s_valueLength x ((x.vo s7 k (q - k)).2.1)) (r + 1) (show (r + 1) < 2 ^ 31 from by omega) (show x.length ≤ 65536 from by omega)) (q0 := 0) rfl rfl w466 w465 w467 w468 w328 rfl rfl ⟨⟨by decide, by decide⟩, rfl⟩ ⟨(Nat.le_of_ble_eq_true rfl), (Nat.le_of_ble_eq_true rfl)⟩ rfl hl.1 rfl (Nat.le_of_ble_eq_true rfl) d_M_matches_130 ⟨(Nat.le_of_ble_eq_true rfl), (Nat.le_of_ble_eq_true rfl)⟩) hP hD hS hA (fun r34 u35 H locs hp9 hP hD hS => ?_)
                    have hP : va_P D vwCl (MW dA h ad (MS.s_valueLength x ((x.vo s7 k (q - k)).2.1))) H := hP
                    have hD : va_D A (MW dA h ad (MS.s_valueLength x ((x.vo s7 k (q - k)).2.1))) := hD
                    replace hp9 : x.atN (r + 1) = r34 := Eq.symm hp9
                    subst hp9
                    refine lv_bipush (v := 61) hx hb d_M_matches_133 (by decide) ?_
                    refine lv_icmp_ne hx hb d_M_matches_135 (tgt := 156) rfl (fun g36 => ?_) (fun g36 => ?_)
                    · have g36 := g36
                      refine lv_iconst (v := 3) hx hb d_M_matches_156 (by decide) ?_
                      exact J157 3 (by show (if x.atN r = 61 then 0 else if x.atN (r + 1) = 61 then (if x.atN r = 33 then 1 else 2) else 3) = _; rw [if_neg g33, if_neg g36]) (by decide) H _ ls hP hD hS (lv_sub hl [0, 1, 2, 3, 4, 5, 6, 7] rfl)
                    · have g36 := g36
                      refine lv_aload_n hx hb d_M_matches_138 rfl (lv_at hl 6 rfl) ?_
                      refine lv_iload_n hx hb d_M_matches_139 rfl (lv_at hl 0 rfl) ?_
                      refine jfI (rnV (As := [.int (nI r)]) (rest := []) hx hb hml hown hE hK (hN _ _ hS) hP hD (k_at l D dA H.size h ad (MS.s_valueLength x ((x.vo s7 k (q - k)).2.1)) r (show r < 2 ^ 31 from by omega) (show x.length ≤ 65536 from by omega)) (q0 := 0) rfl rfl w466 w465 w467 w468 w328 rfl rfl ⟨⟨by decide, by decide⟩, rfl⟩ ⟨(Nat.le_of_ble_eq_true rfl), (Nat.le_of_ble_eq_true rfl)⟩ rfl hl.1 rfl (Nat.le_of_ble_eq_true rfl) d_M_matches_140 ⟨(Nat.le_of_ble_eq_true rfl), (Nat.le_of_ble_eq_true rfl)⟩) hP hD hS hA (fun r37 u38 H locs hp9 hP hD hS => ?_)
                      have hP : va_P D vwCl (MW dA h ad (MS.s_valueLength x ((x.vo s7 k (q - k)).2.1))) H := hP
                      have hD : va_D A (MW dA h ad (MS.s_valueLength x ((x.vo s7 k (q - k)).2.1))) := hD
                      replace hp9 : x.atN r = r37 := Eq.symm hp9
                      subst hp9
                      refine lv_bipush (v := 33) hx hb d_M_matches_143 (by decide) ?_
                      refine lv_icmp_ne hx hb d_M_matches_145 (tgt := 152) rfl (fun g39 => ?_) (fun g39 => ?_)
                      · have g39 := g39
                        refine lv_iconst (v := 2) hx hb d_M_matches_152 (by decide) ?_
                        refine lv_goto hx hb d_M_matches_153 (tgt := 157) rfl ?_
                        exact J157 2 (by show (if x.atN r = 61 then 0 else if x.atN (r + 1) = 61 then (if x.atN r = 33 then 1 else 2) else 3) = _; rw [if_neg g33, if_pos g36, if_neg g39]) (by decide) H _ ls hP hD hS (lv_sub hl [0, 1, 2, 3, 4, 5, 6, 7] rfl)
                      · have g39 := g39
                        refine lv_iconst (v := 1) hx hb d_M_matches_148 (by decide) ?_
                        refine lv_goto hx hb d_M_matches_149 (tgt := 157) rfl ?_
                        exact J157 1 (by show (if x.atN r = 61 then 0 else if x.atN (r + 1) = 61 then (if x.atN r = 33 then 1 else 2) else 3) = _; rw [if_neg g33, if_pos g36, if_pos g39]) (by decide) H _ ls hP hD hS (lv_sub hl [0, 1, 2, 3, 4, 5, 6, 7] rfl)
                  · have g33 := g33
                    refine lv_iconst (v := 0) hx hb d_M_matches_122 (by decide) ?_
                    refine lv_goto hx hb d_M_matches_123 (tgt := 157) rfl ?_
                    exact J157 0 (by show (if x.atN r = 61 then 0 else if x.atN (r + 1) = 61 then (if x.atN r = 33 then 1 else 2) else 3) = _; rw [if_pos g33]) (by decide) H _ ls hP hD hS (lv_sub hl [0, 1, 2, 3, 4, 5, 6, 7] rfl)
                refine lv_istore hx hb d_M_matches_94 hl (by decide) rfl (fun ls hl => ?_)
                have hl : lv_has ls 13 [(7, .int (nI ((x.vo s7 k (q - k)).2.1))), (6, .int (voI (x.vo s7 k (q - k)))), (3, .int (nI q)), (5, .int (nI k)), (1, .int (nI s7)), (2, .int (nI p7)), (0, .ref h), (4, .int (bI g))] := hl
                have L96 : ∀ (k9 : Nat) (r : Nat) (r1 : skA x.tape x.length (x.length + 1 - r) r = m2E x.tape x.length k) (r2 : r ≤ x.length) (hk9 : x.length + 1 - r = k9), ∀ (H : Heap) (locs : List Loc) (ls : Array Slot) (hP : va_P D vwCl (MW dA h ad (MS.s_valueLength x ((x.vo s7 k (q - k)).2.1))) H) (hD : va_D A (MW dA h ad (MS.s_valueLength x ((x.vo s7 k (q - k)).2.1)))) (hS : va_S A s.heap H locs) (hl : lv_has ls 13 [(3, .int (nI r)), (6, .int (voI (x.vo s7 k (q - k)))), (7, .int (nI (x.vo s7 k (q - k)).2.1)), (5, .int (nI k)), (1, .int (nI s7)), (2, .int (nI p7)), (0, .ref h), (4, .int (bI g))]), W p l e ({ frames := 2, cells := 0, slots := 0, locals := 29 } : Room) s m ([.ref h, .int (nI s7), .int (nI p7)] : List Value).toArray below meth c H locs 0 0 (MQ below (va_Qi (fun (r9 : Int32) (u9 : Unit) => r9 = bI (x.mt s7 p7).1) (fun (u9 : Unit) t9 => bW D A (MW dA h ad (MS.s_valueLength x ((x.mt s7 p7).2))) t9) A) ([.ref h, .int (nI s7), .int (nI p7)] : List Value).toArray s 0 0 A) (F0 m 96 ls []) := by
                  intro k9
                  induction k9 using Nat.strongRecOn with
                  | ind k9 ih96 =>
                    intro r r1 r2 hk9 H locs ls hP hD hS hl
                    refine lv_aload_n hx hb d_M_matches_96 rfl (lv_at hl 6 rfl) ?_
                    refine lv_iload_n hx hb d_M_matches_97 rfl (lv_at hl 0 rfl) ?_
                    refine jfI (rnV (As := [.int (nI r)]) (rest := []) hx hb hml hown hE hK (hN _ _ hS) hP hD (k_at l D dA H.size h ad (MS.s_valueLength x ((x.vo s7 k (q - k)).2.1)) r (show r < 2 ^ 31 from by omega) (show x.length ≤ 65536 from by omega)) (q0 := 0) rfl rfl w466 w465 w467 w468 w328 rfl rfl ⟨⟨by decide, by decide⟩, rfl⟩ ⟨(Nat.le_of_ble_eq_true rfl), (Nat.le_of_ble_eq_true rfl)⟩ rfl hl.1 rfl (Nat.le_of_ble_eq_true rfl) d_M_matches_98 ⟨(Nat.le_of_ble_eq_true rfl), (Nat.le_of_ble_eq_true rfl)⟩) hP hD hS hA (fun r40 u41 H locs hp9 hP hD hS => ?_)
                    have hP : va_P D vwCl (MW dA h ad (MS.s_valueLength x ((x.vo s7 k (q - k)).2.1))) H := hP
                    have hD : va_D A (MW dA h ad (MS.s_valueLength x ((x.vo s7 k (q - k)).2.1))) := hD
                    replace hp9 : x.atN r = r40 := Eq.symm hp9
                    subst hp9
                    refine lv_bipush (v := 32) hx hb d_M_matches_101 (by decide) ?_
                    refine lv_icmp_ne hx hb d_M_matches_103 (tgt := 112) rfl (fun g42 => ?_) (fun g42 => ?_)
                    · have g42 := g42
                      exact J112 r (r1.symm.trans (skA_f g42)) (by omega) H _ ls hP hD hS (lv_sub hl [0, 1, 2, 3, 4, 5, 6, 7] rfl)
                    · have g42 := g42
                      refine lv_iinc (k := 0) (v := nI (r + 1)) hx hb d_M_matches_106 hl rfl (iincN (r) 1 1 (by decide)) (by decide) rfl (fun ls hl => ?_)
                      have hl : lv_has ls 13 [(3, .int (nI (r + 1))), (6, .int (voI (x.vo s7 k (q - k)))), (7, .int (nI (x.vo s7 k (q - k)).2.1)), (5, .int (nI k)), (1, .int (nI s7)), (2, .int (nI p7)), (0, .ref h), (4, .int (bI g))] := hl
                      refine lv_goto hx hb d_M_matches_109 (tgt := 96) rfl ?_
                      exact ih96 _ (by omega) (r + 1) (by rw [← r1, skA_t (w := x.length + 1 - r) (by omega) g42, show x.length + 1 - r - 1 = x.length + 1 - (r + 1) by omega]) (atI_in g42 (by decide)) rfl H _ ls hP hD hS (lv_sub hl [0, 1, 2, 3, 4, 5, 6, 7] rfl)
                exact L96 _ q (by unfold m2E; rw [e1]) e2 rfl H _ ls hP hD hS (lv_sub hl [2, 1, 0, 3, 4, 5, 6, 7] rfl)
              refine lv_istore hx hb d_M_matches_47 hl (by decide) rfl (fun ls hl => ?_)
              have hl : lv_has ls 13 [(5, .int (nI k)), (3, .int (nI k)), (1, .int (nI s7)), (2, .int (nI p7)), (0, .ref h), (4, .int (bI g))] := hl
              have L49 : ∀ (k9 : Nat) (q : Nat) (q1 : idG x.tape x.length (x.length + 1 - q) q = m1E x.tape x.length k) (q2 : q ≤ x.length) (q3 : k ≤ q) (hk9 : x.length + 1 - q = k9), ∀ (H : Heap) (locs : List Loc) (ls : Array Slot) (hP : va_P D vwCl (MW dA h ad (MS.s_valueLength x v)) H) (hD : va_D A (MW dA h ad (MS.s_valueLength x v))) (hS : va_S A s.heap H locs) (hl : lv_has ls 13 [(3, .int (nI q)), (5, .int (nI k)), (1, .int (nI s7)), (2, .int (nI p7)), (0, .ref h), (4, .int (bI g))]), W p l e ({ frames := 2, cells := 0, slots := 0, locals := 29 } : Room) s m ([.ref h, .int (nI s7), .int (nI p7)] : List Value).toArray below meth c H locs 0 0 (MQ below (va_Qi (fun (r9 : Int32) (u9 : Unit) => r9 = bI (x.mt s7 p7).1) (fun (u9 : Unit) t9 => bW D A (MW dA h ad (MS.s_valueLength x ((x.mt s7 p7).2))) t9) A) ([.ref h, .int (nI s7), .int (nI p7)] : List Value).toArray s 0 0 A) (F0 m 49 ls []) := by
                intro k9
                induction k9 using Nat.strongRecOn with
                | ind k9 ih49 =>
                  intro q q1 q2 q3 hk9 H locs ls hP hD hS hl
                  refine lv_aload_n hx hb d_M_matches_49 rfl (lv_at hl 4 rfl) ?_
                  have J71 : ∀ (i5 : isNm (x.atN q) = true), ∀ (H : Heap) (locs : List Loc) (ls : Array Slot) (hP : va_P D vwCl (MW dA h ad (MS.s_valueLength x v)) H) (hD : va_D A (MW dA h ad (MS.s_valueLength x v))) (hS : va_S A s.heap H locs) (hl : lv_has ls 13 [(3, .int (nI q)), (5, .int (nI k)), (1, .int (nI s7)), (2, .int (nI p7)), (0, .ref h), (4, .int (bI g))]), W p l e ({ frames := 2, cells := 0, slots := 0, locals := 29 } : Room) s m ([.ref h, .int (nI s7), .int (nI p7)] : List Value).toArray below meth c H locs 0 0 (MQ below (va_Qi (fun (r9 : Int32) (u9 : Unit) => r9 = bI (x.mt s7 p7).1) (fun (u9 : Unit) t9 => bW D A (MW dA h ad (MS.s_valueLength x ((x.mt s7 p7).2))) t9) A) ([.ref h, .int (nI s7), .int (nI p7)] : List Value).toArray s 0 0 A) (F0 m 71 ls []) := by
                    intro i5 H locs ls hP hD hS hl
                    have i6 := nm_at i5
                    refine lv_iinc (k := 0) (v := nI (q + 1)) hx hb d_M_matches_71 hl rfl (iincN (q) 1 1 (by decide)) (by decide) rfl (fun ls hl => ?_)
                    have hl : lv_has ls 13 [(3, .int (nI (q + 1))), (5, .int (nI k)), (1, .int (nI s7)), (2, .int (nI p7)), (0, .ref h), (4, .int (bI g))] := hl
                    refine lv_goto hx hb d_M_matches_74 (tgt := 49) rfl ?_
                    exact ih49 _ (by omega) (q + 1) (by rw [← q1, idG_t (w := x.length + 1 - q) (by omega) i5, show x.length + 1 - q - 1 = x.length + 1 - (q + 1) by omega]) (by omega) (by omega) rfl H _ ls hP hD hS (lv_sub hl [0, 1, 2, 3, 4, 5] rfl)
                  refine lv_iload_n hx hb d_M_matches_50 rfl (lv_at hl 0 rfl) ?_
                  refine jfI (rnV (As := [.int (nI q)]) (rest := []) hx hb hml hown hE hK (hN _ _ hS) hP hD (k_at l D dA H.size h ad (MS.s_valueLength x v) q (show q < 2 ^ 31 from by omega) (show x.length ≤ 65536 from by omega)) (q0 := 0) rfl rfl w466 w465 w467 w468 w328 rfl rfl ⟨⟨by decide, by decide⟩, rfl⟩ ⟨(Nat.le_of_ble_eq_true rfl), (Nat.le_of_ble_eq_true rfl)⟩ rfl hl.1 rfl (Nat.le_of_ble_eq_true rfl) d_M_matches_51 ⟨(Nat.le_of_ble_eq_true rfl), (Nat.le_of_ble_eq_true rfl)⟩) hP hD hS hA (fun r43 u44 H locs hp9 hP hD hS => ?_)
                  have hP : va_P D vwCl (MW dA h ad (MS.s_valueLength x v)) H := hP
                  have hD : va_D A (MW dA h ad (MS.s_valueLength x v)) := hD
                  replace hp9 : x.atN q = r43 := Eq.symm hp9
                  subst hp9
                  have hPc := hP.sub (ws' := []) [] rfl
                  have hDc := hD.sub (ws' := []) [] (by decide) rfl
                  refine jnI (rnS (As := [.int (x.atN q)]) (rest := []) hx hb hml hown hE hK (hN _ _ hS) hPc hDc (k_isLetter l D dA H.size (x.atN q)) w964 w963 w965 w328 rfl rfl ⟨⟨by decide, by decide⟩, rfl⟩ ⟨(Nat.le_of_ble_eq_true rfl), (Nat.le_of_ble_eq_true rfl)⟩ rfl hl.1 rfl (Nat.le_of_ble_eq_true rfl) d_M_matches_54 ⟨(Nat.le_of_ble_eq_true rfl), (Nat.le_of_ble_eq_true rfl)⟩) hP hD hS hA [] [0, 1, 2, 3, 4, 5, 6, 7, 8, 9, 10, 11, 12, 13, 14, 15, 16, 17, 18, 19, 20, 21, 22, 23, 24, 25, 26, 27, 28, 29, 30, 31, 32, 33, 34, 35, 36, 37, 38] (wr := MW dA h ad (MS.s_valueLength x v)) rfl rfl (by decide) (by decide) (fun r45 u9 H locs hp9 hP hD hS => ?_)
                  have hP : va_P D vwCl (MW dA h ad (MS.s_valueLength x v)) H := hP
                  have hD : va_D A (MW dA h ad (MS.s_valueLength x v)) := hD
                  replace hp9 : bI (isLt (x.atN q)) = r45 := Eq.symm hp9
                  subst hp9
                  refine lv_if_ne hx hb d_M_matches_57 (tgt := 71) rfl (fun g47 => ?_) (fun g47 => ?_)
                  · have g47 := bI_n0 g47
                    exact J71 (by show (isLt (x.atN q) || isDg (x.atN q)) = true; rw [g47]; rfl) H _ ls hP hD hS (lv_sub hl [0, 1, 2, 3, 4, 5] rfl)
                  · have g47 := bI_0 g47
                    refine lv_aload_n hx hb d_M_matches_60 rfl (lv_at hl 4 rfl) ?_
                    refine lv_iload_n hx hb d_M_matches_61 rfl (lv_at hl 0 rfl) ?_
                    refine jfI (rnV (As := [.int (nI q)]) (rest := []) hx hb hml hown hE hK (hN _ _ hS) hP hD (k_at l D dA H.size h ad (MS.s_valueLength x v) q (show q < 2 ^ 31 from by omega) (show x.length ≤ 65536 from by omega)) (q0 := 0) rfl rfl w466 w465 w467 w468 w328 rfl rfl ⟨⟨by decide, by decide⟩, rfl⟩ ⟨(Nat.le_of_ble_eq_true rfl), (Nat.le_of_ble_eq_true rfl)⟩ rfl hl.1 rfl (Nat.le_of_ble_eq_true rfl) d_M_matches_62 ⟨(Nat.le_of_ble_eq_true rfl), (Nat.le_of_ble_eq_true rfl)⟩) hP hD hS hA (fun r48 u49 H locs hp9 hP hD hS => ?_)
                    have hP : va_P D vwCl (MW dA h ad (MS.s_valueLength x v)) H := hP
                    have hD : va_D A (MW dA h ad (MS.s_valueLength x v)) := hD
                    replace hp9 : x.atN q = r48 := Eq.symm hp9
                    subst hp9
                    have hPc := hP.sub (ws' := []) [] rfl
                    have hDc := hD.sub (ws' := []) [] (by decide) rfl
                    refine jnI (rnS (As := [.int (x.atN q)]) (rest := []) hx hb hml hown hE hK (hN _ _ hS) hPc hDc (k_isDigit l D dA H.size (x.atN q)) w955 w954 w956 w328 rfl rfl ⟨⟨by decide, by decide⟩, rfl⟩ ⟨(Nat.le_of_ble_eq_true rfl), (Nat.le_of_ble_eq_true rfl)⟩ rfl hl.1 rfl (Nat.le_of_ble_eq_true rfl) d_M_matches_65 ⟨(Nat.le_of_ble_eq_true rfl), (Nat.le_of_ble_eq_true rfl)⟩) hP hD hS hA [] [0, 1, 2, 3, 4, 5, 6, 7, 8, 9, 10, 11, 12, 13, 14, 15, 16, 17, 18, 19, 20, 21, 22, 23, 24, 25, 26, 27, 28, 29, 30, 31, 32, 33, 34, 35, 36, 37, 38] (wr := MW dA h ad (MS.s_valueLength x v)) rfl rfl (by decide) (by decide) (fun r50 u9 H locs hp9 hP hD hS => ?_)
                    have hP : va_P D vwCl (MW dA h ad (MS.s_valueLength x v)) H := hP
                    have hD : va_D A (MW dA h ad (MS.s_valueLength x v)) := hD
                    replace hp9 : bI (isDg (x.atN q)) = r50 := Eq.symm hp9
                    subst hp9
                    refine lv_if_eq hx hb d_M_matches_68 (tgt := 77) rfl (fun g52 => ?_) (fun g52 => ?_)
                    · have g52 := bI_0 g52
                      exact J77 q (q1.symm.trans (idG_f (show (isLt (x.atN q) || isDg (x.atN q)) = false from by rw [g47, g52]; rfl))) (by omega) (by omega) H _ ls hP hD hS (lv_sub hl [0, 1, 2, 3, 4, 5] rfl)
                    · have g52 := bI_n0 g52
                      exact J71 (by show (isLt (x.atN q) || isDg (x.atN q)) = true; rw [g52]; exact Bool.or_true _) H _ ls hP hD hS (lv_sub hl [0, 1, 2, 3, 4, 5] rfl)
              exact L49 _ k rfl (by omega) (by omega) rfl H _ ls hP hD hS (lv_sub hl [1, 0, 2, 3, 4, 5] rfl)
            · have g10 := g10
              refine lv_iinc (k := 0) (v := nI (k + 1)) hx hb d_M_matches_40 hl rfl (iincN (k) 1 1 (by decide)) (by decide) rfl (fun ls hl => ?_)
              have hl : lv_has ls 13 [(3, .int (nI (k + 1))), (1, .int (nI s7)), (2, .int (nI p7)), (0, .ref h), (4, .int (bI g))] := hl
              refine lv_goto hx hb d_M_matches_43 (tgt := 5) rfl ?_
              exact ih5 _ (by have := (mtOK_s i2 g4 (by show (decide (x.atN k = 32) || decide (x.atN k = 44)) = true; rw [decide_eq_true g10]; exact Bool.or_true _)).1; omega) (k + 1) g (w - 1) v (by rw [← i1, mtG_s (tp := x.atN) (mtOK_s i2 g4 (by show (decide (x.atN k = 32) || decide (x.atN k = 44)) = true; rw [decide_eq_true g10]; exact Bool.or_true _)).1 g1 g4 (by show (decide (x.atN k = 32) || decide (x.atN k = 44)) = true; rw [decide_eq_true g10]; exact Bool.or_true _)]) (mtOK_s i2 g4 (by show (decide (x.atN k = 32) || decide (x.atN k = 44)) = true; rw [decide_eq_true g10]; exact Bool.or_true _)).2 (atI_in g10 (by decide)) (Nat.le_refl _) rfl H _ ls hP hD hS (lv_sub hl [0, 1, 2, 3, 4] rfl)
  exact L5 _ p7 true (x.length + 1 - p7) x.valueLength rfl hmo2 hmo1 (Nat.le_refl _) rfl H _ ls hP hD hS (lv_sub hl [1, 3, 4, 2, 0] rfl)
