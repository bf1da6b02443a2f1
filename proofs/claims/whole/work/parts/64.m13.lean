def MS.nwS (x : MS) (q n : Nat) : MS := MS.s_lasts (MS.s_seriesCount (MS.s_textLengths x (va_up x.textLengths q n)) (q + 1)) (va_up x.lasts q (-1))
def MS.com0S (x : MS) (w : Nat) (a : Int64) : MS := MS.s_lasts x (va_up x.lasts w a)
def MS.rp0 (x : MS) (r : Nat) : MS := MS.s_used (MS.s_block x (x.recordBlocks r)) (if x.recordBlocks r = x.block then x.used + x.units r else x.units r)
theorem tdT_all {α : Type} {P : α → Prop} {c : Nat → Bool} {f : Nat → α} {n : Nat} (h : ∀ q, q < n → P (f q)) : ∀ k, k ≤ n → ∀ q, q < cnt k c → P (tdT c f k q)
  | 0, _, q, hq => absurd hq (Nat.not_lt_zero q)
  | k + 1, hk, q, hq => by
    have ih := tdT_all h (c := c) k (by omega)
    cases e : c k with
    | false =>
      rw [tdT_f e]
      rw [cnt_f e] at hq
      exact ih q hq
    | true =>
      rw [tdT_t e rfl]
      rw [cnt_t e] at hq
      show P (if q = cnt k c then f k else tdT c f k q)
      by_cases z : q = cnt k c
      · rw [if_pos z]; exact h k (by omega)
      · rw [if_neg z]; exact ih q (by omega)
theorem up_all {f : Nat → Nat} {n v : Nat} (h : ∀ q, q < n → f q < 256) (hv : v < 256) : ∀ q, q < n + 1 → va_up f n v q < 256 := by
  intro q hq
  show (if q = n then v else f q) < 256
  by_cases z : q = n
  · rw [if_pos z]; exact hv
  · rw [if_neg z]; exact h q (by omega)
/-- a kept record done again -/
def MS.rp1 (x : MS) (fN : Nat → Nat) (r : Nat) : MS :=
  if x.kinds r = 0 then (x.rp0 r).nwS (x.recordSeries r) (fN r) else if x.kinds r = 1 then (if x.firsts r < x.horizon then (x.rp0 r).com0S (x.recordSeries r) (x.firsts r) else (x.rp0 r).comS (x.recordSeries r) (x.firsts r) (x.seconds r)) else (x.rp0 r).goS (x.recordSeries r) (x.firsts r) (x.seconds r)
def MS.rpS (x : MS) (fN : Nat → Nat) : Nat → MS
  | 0 => x
  | r + 1 => (x.rpS fN r).rp1 fN r
theorem rpS_s (x : MS) (fN : Nat → Nat) (r : Nat) : x.rpS fN (r + 1) = (x.rpS fN r).rp1 fN r := rfl
def MS.st1 (x : MS) : MS := MS.s_horizon (MS.s_hidden (MS.s_places (MS.s_lasts (MS.s_seriesCount (MS.s_on (MS.s_cod x 0) true) x.baseSeries) (mapT x.baseSeries (fun _ => true) x.baseLasts x.lasts)) (mapT x.points x.isM1 m2F x.places)) (mapT x.points (fun _ => true) x.baseHidden x.hidden)) x.baseHorizon
def MS.st2 (x : MS) : MS := ((((x.st1.tidS).s_records x.kept).s_fresh false).s_block 0).s_used 0
theorem st2_hs {x : MS} (h : ∀ q : Nat, q < x.points → x.pointSeries q < 256) : ∀ q : Nat, q < x.st2.points → x.st2.pointSeries q < 256 := fun q hq => tdT_all (P := fun z => z < 256) h x.points (Nat.le_refl _) q hq
set_option maxHeartbeats 4000000 in
set_option maxRecDepth 100000 in
theorem k_start_1 (l : Launch) (D : va_G) (dA : Nat → ClassId) (sz : Nat) (h : Nat) (ad : Nat → Nat) (x : MS) (ho : x.on = true) : Met l ⟨"SeriesVaultModel", "start", "()I"⟩ [Cond.code ⟨"SeriesVaultModel", "start", "()I"⟩ prog_14_method_53_code 2 (some FieldType.int)] { frames := 1, cells := 0, slots := 0, locals := 0 } (pC D dA [.ref h] (MW dA h ad x) sz) (va_Qi (fun (r9 : Int32) (u9 : Unit) => r9 = 0) (fun (u9 : Unit) t9 => bW D (va_A (MW dA h ad x) sz) (MW dA h ad (MS.s_cod x 1)) t9) (va_A (MW dA h ad x) sz)) 0 0 (va_A (MW dA h ad x) sz) := by
  refine mkC (y := ⟨"SeriesVaultModel", "start", "()I"⟩) (cc := prog_14_method_53_code) (maxL := 2) (av := [.ref h]) (ws := MW dA h ad x) (sz := sz) (Qc := fun A => va_Qi (fun (r9 : Int32) (u9 : Unit) => r9 = 0) (fun (u9 : Unit) t9 => bW D A (MW dA h ad (MS.s_cod x 1)) t9) A) (by decide) (Nat.le_of_ble_eq_true rfl) ?_
  intro A p e s m below meth c ls hsz hB
  obtain ⟨hx, hb, hr, hml, hown, hin, hlk, hE, hK, hP, hD, hS, hA, hN, hl⟩ := hB
  have hown : s.vm.findClass "SeriesVaultModel" = some m.cls := hown
  have hl : lv_has ls 2 [(0, .ref h)] := hl
  obtain ⟨H, hH⟩ : ∃ z, z = s.heap := ⟨_, rfl⟩
  have hP : va_P D vwCl (MW dA h ad x) H := by rw [hH]; exact hP
  have hS : va_S A s.heap H [] := by rw [hH]; exact hS
  rw [← hH]
  refine lv_aload_n hx hb d_M_start_0 rfl (lv_at hl 0 rfl) ?_
  refine lv_aload_n hx hb d_M_start_1 rfl (lv_at hl 0 rfl) ?_
  refine gF (v := .int (bI x.on)) hx hb hown hE hK hP 0 rfl rfl layM 7 (by decide) w324 rfl d_M_start_2 ?_
  refine lv_if_eq hx hb d_M_start_5 (tgt := 12) rfl (fun h9 => absurd h9 (by rw [ho]; decide)) (fun _ => ?_)
  refine lv_iconst (v := 1) hx hb d_M_start_8 (by decide) ?_
  refine lv_goto hx hb d_M_start_9 (tgt := 13) rfl ?_
  refine pF (v := .int 1) hx hb hown hE hK hP hD hS 0 rfl rfl layM tyM tokM nmM 0 (by decide) w319 rfl rfl rfl (Nat.le_of_ble_eq_true rfl) d_M_start_13 (fun H locs hP hD hS => ?_)
  have hP : va_P D vwCl (MW dA h ad (MS.s_cod x 1)) H := hP
  have hD : va_D A (MW dA h ad (MS.s_cod x 1)) := hD
  refine lv_aload_n hx hb d_M_start_16 rfl (lv_at hl 0 rfl) ?_
  refine gF (v := .int 1) hx hb hown hE hK hP 0 rfl rfl layM 0 (by decide) w319 rfl d_M_start_17 ?_
  refine lv_if_le hx hb d_M_start_20 (tgt := 25) rfl (fun h9 => absurd h9 (by decide)) (fun _ => ?_)
  refine lv_iconst (v := 0) hx hb d_M_start_23 (by decide) ?_
  exact rfI hx hb hr hlk hS () rfl hP hD (Nat.le_of_ble_eq_true rfl) (Nat.le_of_ble_eq_true rfl) d_M_start_24
theorem d_M_start_12 : decode prog_14_method_53_code 12 = .ok (.iconst 0, 1) := by decide +kernel
theorem d_M_start_25 : decode prog_14_method_53_code 25 = .ok (.aload_n 0, 1) := by decide +kernel
theorem d_M_start_26 : decode prog_14_method_53_code 26 = .ok (.iconst 1, 1) := by decide +kernel
theorem d_M_start_27 : decode prog_14_method_53_code 27 = .ok (.putfield 21, 3) := by decide +kernel
theorem d_M_start_30 : decode prog_14_method_53_code 30 = .ok (.aload_n 0, 1) := by decide +kernel
theorem d_M_start_31 : decode prog_14_method_53_code 31 = .ok (.aload_n 0, 1) := by decide +kernel
theorem d_M_start_32 : decode prog_14_method_53_code 32 = .ok (.getfield 176, 3) := by decide +kernel
theorem d_M_start_35 : decode prog_14_method_53_code 35 = .ok (.putfield 172, 3) := by decide +kernel
theorem d_M_start_38 : decode prog_14_method_53_code 38 = .ok (.aload_n 0, 1) := by decide +kernel
theorem d_M_start_39 : decode prog_14_method_53_code 39 = .ok (.aload_n 0, 1) := by decide +kernel
theorem d_M_start_40 : decode prog_14_method_53_code 40 = .ok (.getfield 163, 3) := by decide +kernel
theorem d_M_start_43 : decode prog_14_method_53_code 43 = .ok (.putfield 160, 3) := by decide +kernel
theorem d_M_start_156 : decode prog_14_method_53_code 156 = .ok (.iconst 0, 1) := by decide +kernel
theorem d_M_start_157 : decode prog_14_method_53_code 157 = .ok (.istore_n 1, 1) := by decide +kernel
theorem d_M_start_158 : decode prog_14_method_53_code 158 = .ok (.iload_n 1, 1) := by decide +kernel
theorem d_M_start_159 : decode prog_14_method_53_code 159 = .ok (.aload_n 0, 1) := by decide +kernel
theorem d_M_start_160 : decode prog_14_method_53_code 160 = .ok (.getfield 182, 3) := by decide +kernel
theorem d_M_start_163 : decode prog_14_method_53_code 163 = .ok (.if_icmp .ge 143, 3) := by decide +kernel
theorem d_M_start_306 : decode prog_14_method_53_code 306 = .ok (.aload_n 0, 1) := by decide +kernel
theorem d_M_start_307 : decode prog_14_method_53_code 307 = .ok (.getfield 182, 3) := by decide +kernel
theorem d_M_start_310 : decode prog_14_method_53_code 310 = .ok (.ireturn, 1) := by decide +kernel
theorem d_M_start_200 : decode prog_14_method_53_code 200 = .ok (.putfield 191, 3) := by decide +kernel
theorem d_M_start_203 : decode prog_14_method_53_code 203 = .ok (.aload_n 0, 1) := by decide +kernel
theorem d_M_start_204 : decode prog_14_method_53_code 204 = .ok (.aload_n 0, 1) := by decide +kernel
theorem d_M_start_205 : decode prog_14_method_53_code 205 = .ok (.getfield 82, 3) := by decide +kernel
theorem d_M_start_208 : decode prog_14_method_53_code 208 = .ok (.iload_n 1, 1) := by decide +kernel
theorem d_M_start_209 : decode prog_14_method_53_code 209 = .ok (.iaload, 1) := by decide +kernel
theorem d_M_start_210 : decode prog_14_method_53_code 210 = .ok (.putfield 188, 3) := by decide +kernel
theorem d_M_start_213 : decode prog_14_method_53_code 213 = .ok (.aload_n 0, 1) := by decide +kernel
theorem d_M_start_214 : decode prog_14_method_53_code 214 = .ok (.getfield 67, 3) := by decide +kernel
theorem d_M_start_217 : decode prog_14_method_53_code 217 = .ok (.iload_n 1, 1) := by decide +kernel
theorem d_M_start_218 : decode prog_14_method_53_code 218 = .ok (.baload, 1) := by decide +kernel
theorem d_M_start_219 : decode prog_14_method_53_code 219 = .ok (.ifCond .ne 23, 3) := by decide +kernel
theorem d_M_start_242 : decode prog_14_method_53_code 242 = .ok (.aload_n 0, 1) := by decide +kernel
theorem d_M_start_243 : decode prog_14_method_53_code 243 = .ok (.getfield 67, 3) := by decide +kernel
theorem d_M_start_246 : decode prog_14_method_53_code 246 = .ok (.iload_n 1, 1) := by decide +kernel
theorem d_M_start_247 : decode prog_14_method_53_code 247 = .ok (.baload, 1) := by decide +kernel
theorem d_M_start_248 : decode prog_14_method_53_code 248 = .ok (.iconst 1, 1) := by decide +kernel
theorem d_M_start_249 : decode prog_14_method_53_code 249 = .ok (.if_icmp .ne 28, 3) := by decide +kernel
theorem d_M_start_277 : decode prog_14_method_53_code 277 = .ok (.aload_n 0, 1) := by decide +kernel
theorem d_M_start_278 : decode prog_14_method_53_code 278 = .ok (.aload_n 0, 1) := by decide +kernel
theorem d_M_start_279 : decode prog_14_method_53_code 279 = .ok (.getfield 70, 3) := by decide +kernel
theorem d_M_start_282 : decode prog_14_method_53_code 282 = .ok (.iload_n 1, 1) := by decide +kernel
theorem d_M_start_283 : decode prog_14_method_53_code 283 = .ok (.iaload, 1) := by decide +kernel
theorem d_M_start_284 : decode prog_14_method_53_code 284 = .ok (.aload_n 0, 1) := by decide +kernel
theorem d_M_start_285 : decode prog_14_method_53_code 285 = .ok (.getfield 73, 3) := by decide +kernel
theorem d_M_start_288 : decode prog_14_method_53_code 288 = .ok (.iload_n 1, 1) := by decide +kernel
theorem d_M_start_289 : decode prog_14_method_53_code 289 = .ok (.laload, 1) := by decide +kernel
theorem d_M_start_290 : decode prog_14_method_53_code 290 = .ok (.aload_n 0, 1) := by decide +kernel
theorem d_M_start_291 : decode prog_14_method_53_code 291 = .ok (.getfield 76, 3) := by decide +kernel
theorem d_M_start_294 : decode prog_14_method_53_code 294 = .ok (.iload_n 1, 1) := by decide +kernel
theorem d_M_start_295 : decode prog_14_method_53_code 295 = .ok (.laload, 1) := by decide +kernel
theorem d_M_start_296 : decode prog_14_method_53_code 296 = .ok (.invokevirtual 285, 3) := by decide +kernel
theorem d_M_start_299 : decode prog_14_method_53_code 299 = .ok (.pop, 1) := by decide +kernel
theorem d_M_start_300 : decode prog_14_method_53_code 300 = .ok (.iinc 1 1, 3) := by decide +kernel
theorem d_M_start_303 : decode prog_14_method_53_code 303 = .ok (.goto (-145), 3) := by decide +kernel
theorem d_M_start_252 : decode prog_14_method_53_code 252 = .ok (.aload_n 0, 1) := by decide +kernel
theorem d_M_start_253 : decode prog_14_method_53_code 253 = .ok (.aload_n 0, 1) := by decide +kernel
theorem d_M_start_254 : decode prog_14_method_53_code 254 = .ok (.getfield 70, 3) := by decide +kernel
theorem d_M_start_257 : decode prog_14_method_53_code 257 = .ok (.iload_n 1, 1) := by decide +kernel
theorem d_M_start_258 : decode prog_14_method_53_code 258 = .ok (.iaload, 1) := by decide +kernel
theorem d_M_start_259 : decode prog_14_method_53_code 259 = .ok (.aload_n 0, 1) := by decide +kernel
theorem d_M_start_260 : decode prog_14_method_53_code 260 = .ok (.getfield 73, 3) := by decide +kernel
theorem d_M_start_263 : decode prog_14_method_53_code 263 = .ok (.iload_n 1, 1) := by decide +kernel
theorem d_M_start_264 : decode prog_14_method_53_code 264 = .ok (.laload, 1) := by decide +kernel
theorem d_M_start_265 : decode prog_14_method_53_code 265 = .ok (.aload_n 0, 1) := by decide +kernel
theorem d_M_start_266 : decode prog_14_method_53_code 266 = .ok (.getfield 76, 3) := by decide +kernel
theorem d_M_start_269 : decode prog_14_method_53_code 269 = .ok (.iload_n 1, 1) := by decide +kernel
theorem d_M_start_270 : decode prog_14_method_53_code 270 = .ok (.laload, 1) := by decide +kernel
theorem d_M_start_271 : decode prog_14_method_53_code 271 = .ok (.invokevirtual 267, 3) := by decide +kernel
theorem d_M_start_274 : decode prog_14_method_53_code 274 = .ok (.goto 26, 3) := by decide +kernel
theorem d_M_start_222 : decode prog_14_method_53_code 222 = .ok (.aload_n 0, 1) := by decide +kernel
theorem d_M_start_223 : decode prog_14_method_53_code 223 = .ok (.aload_n 0, 1) := by decide +kernel
theorem d_M_start_224 : decode prog_14_method_53_code 224 = .ok (.getfield 70, 3) := by decide +kernel
theorem d_M_start_227 : decode prog_14_method_53_code 227 = .ok (.iload_n 1, 1) := by decide +kernel
theorem d_M_start_228 : decode prog_14_method_53_code 228 = .ok (.iaload, 1) := by decide +kernel
theorem d_M_start_229 : decode prog_14_method_53_code 229 = .ok (.aload_n 0, 1) := by decide +kernel
theorem d_M_start_230 : decode prog_14_method_53_code 230 = .ok (.getfield 73, 3) := by decide +kernel
theorem d_M_start_233 : decode prog_14_method_53_code 233 = .ok (.iload_n 1, 1) := by decide +kernel
theorem d_M_start_234 : decode prog_14_method_53_code 234 = .ok (.laload, 1) := by decide +kernel
theorem d_M_start_235 : decode prog_14_method_53_code 235 = .ok (.l2i, 1) := by decide +kernel
theorem d_M_start_236 : decode prog_14_method_53_code 236 = .ok (.invokevirtual 254, 3) := by decide +kernel
theorem d_M_start_239 : decode prog_14_method_53_code 239 = .ok (.goto 61, 3) := by decide +kernel
theorem d_M_start_166 : decode prog_14_method_53_code 166 = .ok (.aload_n 0, 1) := by decide +kernel
theorem d_M_start_167 : decode prog_14_method_53_code 167 = .ok (.aload_n 0, 1) := by decide +kernel
theorem d_M_start_168 : decode prog_14_method_53_code 168 = .ok (.getfield 82, 3) := by decide +kernel
theorem d_M_start_171 : decode prog_14_method_53_code 171 = .ok (.iload_n 1, 1) := by decide +kernel
theorem d_M_start_172 : decode prog_14_method_53_code 172 = .ok (.iaload, 1) := by decide +kernel
theorem d_M_start_173 : decode prog_14_method_53_code 173 = .ok (.aload_n 0, 1) := by decide +kernel
theorem d_M_start_174 : decode prog_14_method_53_code 174 = .ok (.getfield 188, 3) := by decide +kernel
theorem d_M_start_177 : decode prog_14_method_53_code 177 = .ok (.if_icmp .ne 17, 3) := by decide +kernel
theorem d_M_start_194 : decode prog_14_method_53_code 194 = .ok (.aload_n 0, 1) := by decide +kernel
theorem d_M_start_195 : decode prog_14_method_53_code 195 = .ok (.getfield 79, 3) := by decide +kernel
theorem d_M_start_198 : decode prog_14_method_53_code 198 = .ok (.iload_n 1, 1) := by decide +kernel
theorem d_M_start_199 : decode prog_14_method_53_code 199 = .ok (.iaload, 1) := by decide +kernel
theorem d_M_start_180 : decode prog_14_method_53_code 180 = .ok (.aload_n 0, 1) := by decide +kernel
theorem d_M_start_181 : decode prog_14_method_53_code 181 = .ok (.getfield 191, 3) := by decide +kernel
theorem d_M_start_184 : decode prog_14_method_53_code 184 = .ok (.aload_n 0, 1) := by decide +kernel
theorem d_M_start_185 : decode prog_14_method_53_code 185 = .ok (.getfield 79, 3) := by decide +kernel
theorem d_M_start_188 : decode prog_14_method_53_code 188 = .ok (.iload_n 1, 1) := by decide +kernel
theorem d_M_start_189 : decode prog_14_method_53_code 189 = .ok (.iaload, 1) := by decide +kernel
theorem d_M_start_190 : decode prog_14_method_53_code 190 = .ok (.iadd, 1) := by decide +kernel
theorem d_M_start_191 : decode prog_14_method_53_code 191 = .ok (.goto 9, 3) := by decide +kernel
theorem d_M_start_129 : decode prog_14_method_53_code 129 = .ok (.aload_n 0, 1) := by decide +kernel
theorem d_M_start_130 : decode prog_14_method_53_code 130 = .ok (.invokevirtual 333, 3) := by decide +kernel
theorem d_M_start_133 : decode prog_14_method_53_code 133 = .ok (.aload_n 0, 1) := by decide +kernel
theorem d_M_start_134 : decode prog_14_method_53_code 134 = .ok (.aload_n 0, 1) := by decide +kernel
theorem d_M_start_135 : decode prog_14_method_53_code 135 = .ok (.getfield 185, 3) := by decide +kernel
theorem d_M_start_138 : decode prog_14_method_53_code 138 = .ok (.putfield 182, 3) := by decide +kernel
theorem d_M_start_141 : decode prog_14_method_53_code 141 = .ok (.aload_n 0, 1) := by decide +kernel
theorem d_M_start_142 : decode prog_14_method_53_code 142 = .ok (.iconst 0, 1) := by decide +kernel
theorem d_M_start_143 : decode prog_14_method_53_code 143 = .ok (.putfield 194, 3) := by decide +kernel
theorem d_M_start_146 : decode prog_14_method_53_code 146 = .ok (.aload_n 0, 1) := by decide +kernel
theorem d_M_start_147 : decode prog_14_method_53_code 147 = .ok (.iconst 0, 1) := by decide +kernel
theorem d_M_start_148 : decode prog_14_method_53_code 148 = .ok (.putfield 188, 3) := by decide +kernel
theorem d_M_start_151 : decode prog_14_method_53_code 151 = .ok (.aload_n 0, 1) := by decide +kernel
theorem d_M_start_152 : decode prog_14_method_53_code 152 = .ok (.iconst 0, 1) := by decide +kernel
theorem d_M_start_153 : decode prog_14_method_53_code 153 = .ok (.putfield 191, 3) := by decide +kernel
theorem d_M_start_74 : decode prog_14_method_53_code 74 = .ok (.iconst 0, 1) := by decide +kernel
theorem d_M_start_75 : decode prog_14_method_53_code 75 = .ok (.istore_n 1, 1) := by decide +kernel
theorem d_M_start_76 : decode prog_14_method_53_code 76 = .ok (.iload_n 1, 1) := by decide +kernel
theorem d_M_start_77 : decode prog_14_method_53_code 77 = .ok (.aload_n 0, 1) := by decide +kernel
theorem d_M_start_78 : decode prog_14_method_53_code 78 = .ok (.getfield 169, 3) := by decide +kernel
theorem d_M_start_81 : decode prog_14_method_53_code 81 = .ok (.if_icmp .ge 48, 3) := by decide +kernel
theorem d_M_start_84 : decode prog_14_method_53_code 84 = .ok (.aload_n 0, 1) := by decide +kernel
theorem d_M_start_85 : decode prog_14_method_53_code 85 = .ok (.getfield 52, 3) := by decide +kernel
theorem d_M_start_88 : decode prog_14_method_53_code 88 = .ok (.iload_n 1, 1) := by decide +kernel
theorem d_M_start_89 : decode prog_14_method_53_code 89 = .ok (.aload_n 0, 1) := by decide +kernel
theorem d_M_start_90 : decode prog_14_method_53_code 90 = .ok (.getfield 52, 3) := by decide +kernel
theorem d_M_start_93 : decode prog_14_method_53_code 93 = .ok (.iload_n 1, 1) := by decide +kernel
theorem d_M_start_94 : decode prog_14_method_53_code 94 = .ok (.iaload, 1) := by decide +kernel
theorem d_M_start_95 : decode prog_14_method_53_code 95 = .ok (.iconst (-1), 1) := by decide +kernel
theorem d_M_start_96 : decode prog_14_method_53_code 96 = .ok (.if_icmp .ne 8, 3) := by decide +kernel
theorem d_M_start_104 : decode prog_14_method_53_code 104 = .ok (.aload_n 0, 1) := by decide +kernel
theorem d_M_start_105 : decode prog_14_method_53_code 105 = .ok (.getfield 52, 3) := by decide +kernel
theorem d_M_start_108 : decode prog_14_method_53_code 108 = .ok (.iload_n 1, 1) := by decide +kernel
theorem d_M_start_109 : decode prog_14_method_53_code 109 = .ok (.iaload, 1) := by decide +kernel
theorem d_M_start_110 : decode prog_14_method_53_code 110 = .ok (.iastore, 1) := by decide +kernel
theorem d_M_start_111 : decode prog_14_method_53_code 111 = .ok (.aload_n 0, 1) := by decide +kernel
theorem d_M_start_112 : decode prog_14_method_53_code 112 = .ok (.getfield 55, 3) := by decide +kernel
theorem d_M_start_115 : decode prog_14_method_53_code 115 = .ok (.iload_n 1, 1) := by decide +kernel
theorem d_M_start_116 : decode prog_14_method_53_code 116 = .ok (.aload_n 0, 1) := by decide +kernel
theorem d_M_start_117 : decode prog_14_method_53_code 117 = .ok (.getfield 58, 3) := by decide +kernel
theorem d_M_start_120 : decode prog_14_method_53_code 120 = .ok (.iload_n 1, 1) := by decide +kernel
theorem d_M_start_121 : decode prog_14_method_53_code 121 = .ok (.iaload, 1) := by decide +kernel
theorem d_M_start_122 : decode prog_14_method_53_code 122 = .ok (.iastore, 1) := by decide +kernel
theorem d_M_start_123 : decode prog_14_method_53_code 123 = .ok (.iinc 1 1, 3) := by decide +kernel
theorem d_M_start_126 : decode prog_14_method_53_code 126 = .ok (.goto (-50), 3) := by decide +kernel
theorem d_M_start_99 : decode prog_14_method_53_code 99 = .ok (.bipush (-2), 2) := by decide +kernel
theorem d_M_start_101 : decode prog_14_method_53_code 101 = .ok (.goto 9, 3) := by decide +kernel
theorem d_M_start_46 : decode prog_14_method_53_code 46 = .ok (.iconst 0, 1) := by decide +kernel
theorem d_M_start_47 : decode prog_14_method_53_code 47 = .ok (.istore_n 1, 1) := by decide +kernel
theorem d_M_start_48 : decode prog_14_method_53_code 48 = .ok (.iload_n 1, 1) := by decide +kernel
theorem d_M_start_49 : decode prog_14_method_53_code 49 = .ok (.aload_n 0, 1) := by decide +kernel
theorem d_M_start_50 : decode prog_14_method_53_code 50 = .ok (.getfield 160, 3) := by decide +kernel
theorem d_M_start_53 : decode prog_14_method_53_code 53 = .ok (.if_icmp .ge 21, 3) := by decide +kernel
theorem d_M_start_56 : decode prog_14_method_53_code 56 = .ok (.aload_n 0, 1) := by decide +kernel
theorem d_M_start_57 : decode prog_14_method_53_code 57 = .ok (.getfield 36, 3) := by decide +kernel
theorem d_M_start_60 : decode prog_14_method_53_code 60 = .ok (.iload_n 1, 1) := by decide +kernel
theorem d_M_start_61 : decode prog_14_method_53_code 61 = .ok (.aload_n 0, 1) := by decide +kernel
theorem d_M_start_62 : decode prog_14_method_53_code 62 = .ok (.getfield 40, 3) := by decide +kernel
theorem d_M_start_65 : decode prog_14_method_53_code 65 = .ok (.iload_n 1, 1) := by decide +kernel
theorem d_M_start_66 : decode prog_14_method_53_code 66 = .ok (.laload, 1) := by decide +kernel
theorem d_M_start_67 : decode prog_14_method_53_code 67 = .ok (.lastore, 1) := by decide +kernel
theorem d_M_start_68 : decode prog_14_method_53_code 68 = .ok (.iinc 1 1, 3) := by decide +kernel
theorem d_M_start_71 : decode prog_14_method_53_code 71 = .ok (.goto (-23), 3) := by decide +kernel
theorem w934 : Cond.methodLink "SeriesVaultModel" 254 ⟨"SeriesVaultModel", "newSeries", "(II)V"⟩ ∈ aW := aw_of (tb_10 (List.mem_of_getElem? (i := 2) rfl)) rfl
theorem w935 : Cond.code ⟨"SeriesVaultModel", "newSeries", "(II)V"⟩ prog_14_method_28_code 3 none ∈ aW := aw_of (tb_10 (List.mem_of_getElem? (i := 5) rfl)) rfl
theorem w936 : Cond.instanceMethod ⟨"SeriesVaultModel", "newSeries", "(II)V"⟩ ∈ aW := aw_of (tb_10 (List.mem_of_getElem? (i := 4) rfl)) rfl
theorem w937 : Cond.selects "SeriesVaultModel" ⟨"SeriesVaultModel", "newSeries", "(II)V"⟩ ⟨"SeriesVaultModel", "newSeries", "(II)V"⟩ ∈ aW := aw_pr (List.mem_map.mpr ⟨_, pv_5 (List.mem_of_getElem? (i := 13) rfl), rfl⟩) rfl
set_option maxHeartbeats 4000000 in
set_option maxRecDepth 100000 in
theorem k_start_0 (l : Launch) (D : va_G) (dA : Nat → ClassId) (sz : Nat) (h : Nat) (ad : Nat → Nat) (x : MS) (fN : Nat → Nat) (ho : x.on = false) (r1 : x.kept ≤ 32000) (h2 : x.baseSeries ≤ 256) (h1 : x.points + x.kept < 12000) (h3 : x.deletes + x.kept < 2 ^ 30) (hs : ∀ q : Nat, q < x.points → x.pointSeries q < 256) (hk : ∀ r : Nat, r < x.kept → x.recordSeries r < 256 ∧ x.units r ≤ 126 ∧ x.recordBlocks r < 2 ^ 20 ∧ (x.kinds r = 0 → x.firsts r = lN (fN r))) : Met l ⟨"SeriesVaultModel", "start", "()I"⟩ [Cond.code ⟨"SeriesVaultModel", "start", "()I"⟩ prog_14_method_53_code 2 (some FieldType.int)] { frames := 3, cells := 0, slots := 0, locals := 48 } (pC D dA [.ref h] (MW dA h ad x) sz) (va_Qi (fun (r9 : Int32) (u9 : MS) => r9 = nI x.kept ∧ u9 = x.st2.rpS fN x.kept) (fun (u9 : MS) t9 => bW D (va_A (MW dA h ad x) sz) (MW dA h ad u9) t9) (va_A (MW dA h ad x) sz)) 0 0 (va_A (MW dA h ad x) sz) := by
  refine mkC (y := ⟨"SeriesVaultModel", "start", "()I"⟩) (cc := prog_14_method_53_code) (maxL := 2) (av := [.ref h]) (ws := MW dA h ad x) (sz := sz) (Qc := fun A => va_Qi (fun (r9 : Int32) (u9 : MS) => r9 = nI x.kept ∧ u9 = x.st2.rpS fN x.kept) (fun (u9 : MS) t9 => bW D A (MW dA h ad u9) t9) A) (by decide) (Nat.le_of_ble_eq_true rfl) ?_
  intro A p e s m below meth c ls hsz hB
  obtain ⟨hx, hb, hr, hml, hown, hin, hlk, hE, hK, hP, hD, hS, hA, hN, hl⟩ := hB
  have hown : s.vm.findClass "SeriesVaultModel" = some m.cls := hown
  have hl : lv_has ls 2 [(0, .ref h)] := hl
  obtain ⟨H, hH⟩ : ∃ z, z = s.heap := ⟨_, rfl⟩
  have hP : va_P D vwCl (MW dA h ad x) H := by rw [hH]; exact hP
  have hS : va_S A s.heap H [] := by rw [hH]; exact hS
  rw [← hH]
  refine lv_aload_n hx hb d_M_start_0 rfl (lv_at hl 0 rfl) ?_
  refine lv_aload_n hx hb d_M_start_1 rfl (lv_at hl 0 rfl) ?_
  refine gF (v := .int (bI x.on)) hx hb hown hE hK hP 0 rfl rfl layM 7 (by decide) w324 rfl d_M_start_2 ?_
  refine lv_if_eq hx hb d_M_start_5 (tgt := 12) rfl (fun _ => ?_) (fun h9 => absurd (by rw [ho]; decide) h9)
  refine lv_iconst (v := 0) hx hb d_M_start_12 (by decide) ?_
  refine pF (v := .int 0) hx hb hown hE hK hP hD hS 0 rfl rfl layM tyM tokM nmM 0 (by decide) w319 rfl rfl rfl (Nat.le_of_ble_eq_true rfl) d_M_start_13 (fun H locs hP hD hS => ?_)
  have hP : va_P D vwCl (MW dA h ad (MS.s_cod x 0)) H := hP
  have hD : va_D A (MW dA h ad (MS.s_cod x 0)) := hD
  refine lv_aload_n hx hb d_M_start_16 rfl (lv_at hl 0 rfl) ?_
  refine gF (v := .int 0) hx hb hown hE hK hP 0 rfl rfl layM 0 (by decide) w319 rfl d_M_start_17 ?_
  refine lv_if_le hx hb d_M_start_20 (tgt := 25) rfl (fun _ => ?_) (fun h9 => absurd (by decide) h9)
  refine lv_aload_n hx hb d_M_start_25 rfl (lv_at hl 0 rfl) ?_
  refine lv_iconst (v := 1) hx hb d_M_start_26 (by decide) ?_
  refine pF (v := .int (bI true)) hx hb hown hE hK hP hD hS 0 rfl rfl layM tyM tokM nmM 7 (by decide) w324 rfl (bI_nar true) (bI_fit true) (Nat.le_of_ble_eq_true rfl) d_M_start_27 (fun H locs hP hD hS => ?_)
  have hP : va_P D vwCl (MW dA h ad (MS.s_on (MS.s_cod x 0) true)) H := hP
  have hD : va_D A (MW dA h ad (MS.s_on (MS.s_cod x 0) true)) := hD
  refine lv_aload_n hx hb d_M_start_30 rfl (lv_at hl 0 rfl) ?_
  refine lv_aload_n hx hb d_M_start_31 rfl (lv_at hl 0 rfl) ?_
  refine gF (v := .long x.baseHorizon) hx hb hown hE hK hP 0 rfl rfl layM 25 (by decide) w422 rfl d_M_start_32 ?_
  refine pF (v := .long x.baseHorizon) hx hb hown hE hK hP hD hS 0 rfl rfl layM tyM tokM nmM 24 (by decide) w421 rfl rfl rfl (Nat.le_of_ble_eq_true rfl) d_M_start_35 (fun H locs hP hD hS => ?_)
  have hP : va_P D vwCl (MW dA h ad (MS.s_horizon (MS.s_on (MS.s_cod x 0) true) x.baseHorizon)) H := hP
  have hD : va_D A (MW dA h ad (MS.s_horizon (MS.s_on (MS.s_cod x 0) true) x.baseHorizon)) := hD
  refine lv_aload_n hx hb d_M_start_38 rfl (lv_at hl 0 rfl) ?_
  refine lv_aload_n hx hb d_M_start_39 rfl (lv_at hl 0 rfl) ?_
  refine gF (v := .int (nI x.baseSeries)) hx hb hown hE hK hP 0 rfl rfl layM 14 (by decide) w418 rfl d_M_start_40 ?_
  refine pF (v := .int (nI x.baseSeries)) hx hb hown hE hK hP hD hS 0 rfl rfl layM tyM tokM nmM 12 (by decide) w332 rfl rfl rfl (Nat.le_of_ble_eq_true rfl) d_M_start_43 (fun H locs hP hD hS => ?_)
  have hP : va_P D vwCl (MW dA h ad (MS.s_horizon (MS.s_seriesCount (MS.s_on (MS.s_cod x 0) true) x.baseSeries) x.baseHorizon)) H := hP
  have hD : va_D A (MW dA h ad (MS.s_horizon (MS.s_seriesCount (MS.s_on (MS.s_cod x 0) true) x.baseSeries) x.baseHorizon)) := hD
  have J74 : ∀ (H : Heap) (locs : List Loc) (ls : Array Slot) (hP : va_P D vwCl (MW dA h ad (MS.s_horizon (MS.s_lasts (MS.s_seriesCount (MS.s_on (MS.s_cod x 0) true) x.baseSeries) (mapT x.baseSeries (fun _ => true) x.baseLasts x.lasts)) x.baseHorizon)) H) (hD : va_D A (MW dA h ad (MS.s_horizon (MS.s_lasts (MS.s_seriesCount (MS.s_on (MS.s_cod x 0) true) x.baseSeries) (mapT x.baseSeries (fun _ => true) x.baseLasts x.lasts)) x.baseHorizon))) (hS : va_S A s.heap H locs) (hl : lv_has ls 2 [(0, .ref h)]), W p l e ({ frames := 3, cells := 0, slots := 0, locals := 48 } : Room) s m ([.ref h] : List Value).toArray below meth c H locs 0 0 (MQ below (va_Qi (fun (r9 : Int32) (u9 : MS) => r9 = nI x.kept ∧ u9 = x.st2.rpS fN x.kept) (fun (u9 : MS) t9 => bW D A (MW dA h ad u9) t9) A) ([.ref h] : List Value).toArray s 0 0 A) (F0 m 74 ls []) := by
    intro  H locs ls hP hD hS hl
    have J129 : ∀ (y7 : MS) (ey7 : y7 = x.st1) (y1 : y7.points = x.points) (y2 : y7.kept = x.kept), ∀ (H : Heap) (locs : List Loc) (ls : Array Slot) (hP : va_P D vwCl (MW dA h ad y7) H) (hD : va_D A (MW dA h ad y7)) (hS : va_S A s.heap H locs) (hl : lv_has ls 2 [(0, .ref h)]), W p l e ({ frames := 3, cells := 0, slots := 0, locals := 48 } : Room) s m ([.ref h] : List Value).toArray below meth c H locs 0 0 (MQ below (va_Qi (fun (r9 : Int32) (u9 : MS) => r9 = nI x.kept ∧ u9 = x.st2.rpS fN x.kept) (fun (u9 : MS) t9 => bW D A (MW dA h ad u9) t9) A) ([.ref h] : List Value).toArray s 0 0 A) (F0 m 129 ls []) := by
      intro y7 ey7 y1 y2 H locs ls hP hD hS hl
      have J156 : ∀ (y : MS) (ey : y = x.st2), ∀ (H : Heap) (locs : List Loc) (ls : Array Slot) (hP : va_P D vwCl (MW dA h ad y) H) (hD : va_D A (MW dA h ad y)) (hS : va_S A s.heap H locs) (hl : lv_has ls 2 [(0, .ref h)]), W p l e ({ frames := 3, cells := 0, slots := 0, locals := 48 } : Room) s m ([.ref h] : List Value).toArray below meth c H locs 0 0 (MQ below (va_Qi (fun (r9 : Int32) (u9 : MS) => r9 = nI x.kept ∧ u9 = x.st2.rpS fN x.kept) (fun (u9 : MS) t9 => bW D A (MW dA h ad u9) t9) A) ([.ref h] : List Value).toArray s 0 0 A) (F0 m 156 ls []) := by
        intro y ey H locs ls hP hD hS hl
        refine lv_iconst (v := 0) hx hb d_M_start_156 (by decide) ?_
        refine lv_istore_n hx hb d_M_start_157 rfl hl (by decide) rfl (fun ls hl => ?_)
        have hl : lv_has ls 2 [(1, .int 0), (0, .ref h)] := hl
        have L158 : ∀ (k9 : Nat) (k : Nat) (z : MS) (ez : z = x.st2.rpS fN k) (k1 : k ≤ x.kept) (a1 : z.kinds = x.kinds) (a2 : z.recordSeries = x.recordSeries) (a3 : z.firsts = x.firsts) (a4 : z.seconds = x.seconds) (a5 : z.units = x.units) (a6 : z.recordBlocks = x.recordBlocks) (a7 : z.records = x.kept) (a8 : z.points ≤ x.points + k) (a9 : z.deletes ≤ x.deletes + k) (b1 : ∀ q : Nat, q < z.points → z.pointSeries q < 256) (b2 : z.used ≤ 126 * (k + 1)) (b3 : z.block < 2 ^ 20) (hk9 : x.kept - k = k9), ∀ (H : Heap) (locs : List Loc) (ls : Array Slot) (hP : va_P D vwCl (MW dA h ad z) H) (hD : va_D A (MW dA h ad z)) (hS : va_S A s.heap H locs) (hl : lv_has ls 2 [(1, .int (nI k)), (0, .ref h)]), W p l e ({ frames := 3, cells := 0, slots := 0, locals := 48 } : Room) s m ([.ref h] : List Value).toArray below meth c H locs 0 0 (MQ below (va_Qi (fun (r9 : Int32) (u9 : MS) => r9 = nI x.kept ∧ u9 = x.st2.rpS fN x.kept) (fun (u9 : MS) t9 => bW D A (MW dA h ad u9) t9) A) ([.ref h] : List Value).toArray s 0 0 A) (F0 m 158 ls []) := by
          intro k9
          induction k9 using Nat.strongRecOn with
          | ind k9 ih158 =>
            intro k z ez k1 a1 a2 a3 a4 a5 a6 a7 a8 a9 b1 b2 b3 hk9 H locs ls hP hD hS hl
            refine lv_iload_n hx hb d_M_start_158 rfl (lv_at hl 0 rfl) ?_
            refine lv_aload_n hx hb d_M_start_159 rfl (lv_at hl 1 rfl) ?_
            refine gF (v := .int (nI z.records)) hx hb hown hE hK hP 0 rfl rfl layM 37 (by decide) w338 rfl d_M_start_160 ?_
            refine lv_icmp_ge hx hb d_M_start_163 (tgt := 306) rfl (fun g1 => ?_) (fun g1 => ?_)
            · have g1 := (nI_leI (a := z.records) (b := k) (by omega) (by omega)).mp g1
              refine lv_aload_n hx hb d_M_start_306 rfl (lv_at hl 1 rfl) ?_
              refine gF (v := .int (nI z.records)) hx hb hown hE hK hP 0 rfl rfl layM 37 (by decide) w338 rfl d_M_start_307 ?_
              exact rfI hx hb hr hlk hS z ⟨by rw [a7], by rw [ez, show k = x.kept by omega]⟩ hP hD (Nat.le_of_ble_eq_true rfl) (Nat.le_of_ble_eq_true rfl) d_M_start_310
            · have g1 := mt (nI_leI (a := z.records) (b := k) (by omega) (by omega)).mpr g1
              have J200 : ∀ (v : Nat) (hv9 : (if z.recordBlocks k = z.block then z.used + z.units k else z.units k) = v) (hv8 : v ≤ 126 * (k + 2)), ∀ (H : Heap) (locs : List Loc) (ls : Array Slot) (hP : va_P D vwCl (MW dA h ad z) H) (hD : va_D A (MW dA h ad z)) (hS : va_S A s.heap H locs) (hl : lv_has ls 2 [(1, .int (nI k)), (0, .ref h)]), W p l e ({ frames := 3, cells := 0, slots := 0, locals := 48 } : Room) s m ([.ref h] : List Value).toArray below meth c H locs 0 0 (MQ below (va_Qi (fun (r9 : Int32) (u9 : MS) => r9 = nI x.kept ∧ u9 = x.st2.rpS fN x.kept) (fun (u9 : MS) t9 => bW D A (MW dA h ad u9) t9) A) ([.ref h] : List Value).toArray s 0 0 A) (F0 m 200 ls [.int (nI v), .ref h]) := by
                intro v hv9 hv8 H locs ls hP hD hS hl
                have h5 := hk k (by omega)
                rw [← a2, ← a5, ← a6, ← a1, ← a3] at h5
                have h6 := h5.1
                have h7 := h5.2.1
                have h8 := h5.2.2.1
                refine pF (v := .int (nI v)) hx hb hown hE hK hP hD hS 0 rfl rfl layM tyM tokM nmM 40 (by decide) w424 rfl rfl rfl (Nat.le_of_ble_eq_true rfl) d_M_start_200 (fun H locs hP hD hS => ?_)
                have hP : va_P D vwCl (MW dA h ad (MS.s_used z v)) H := hP
                have hD : va_D A (MW dA h ad (MS.s_used z v)) := hD
                refine lv_aload_n hx hb d_M_start_203 rfl (lv_at hl 1 rfl) ?_
                refine lv_aload_n hx hb d_M_start_204 rfl (lv_at hl 1 rfl) ?_
                refine gF (v := .ref (ad 36)) hx hb hown hE hK hP 0 rfl rfl layM 36 (by decide) w516 rfl d_M_start_205 ?_
                refine lv_iload_n hx hb d_M_start_208 rfl (lv_at hl 0 rfl) ?_
                refine nild (f := (fun z9 => nI (z.recordBlocks z9))) hx hb hK hP 19 1 rfl rfl (k) (by omega) (by decide) d_M_start_209 ?_
                refine pF (v := .int (nI (z.recordBlocks k))) hx hb hown hE hK hP hD hS 0 rfl rfl layM tyM tokM nmM 39 (by decide) w423 rfl rfl rfl (Nat.le_of_ble_eq_true rfl) d_M_start_210 (fun H locs hP hD hS => ?_)
                have hP : va_P D vwCl (MW dA h ad (MS.s_used (MS.s_block z (z.recordBlocks k)) v)) H := hP
                have hD : va_D A (MW dA h ad (MS.s_used (MS.s_block z (z.recordBlocks k)) v)) := hD
                refine lv_aload_n hx hb d_M_start_213 rfl (lv_at hl 1 rfl) ?_
                refine gF (v := .ref (ad 31)) hx hb hown hE hK hP 0 rfl rfl layM 31 (by decide) w511 rfl d_M_start_214 ?_
                refine lv_iload_n hx hb d_M_start_217 rfl (lv_at hl 0 rfl) ?_
                refine nbld (f := z.kinds) hx hb hK hP 14 0 rfl rfl (k) (by omega) (by decide) d_M_start_218 ?_
                refine lv_if_ne hx hb d_M_start_219 (tgt := 242) rfl (fun g2 => ?_) (fun g2 => ?_)
                · have g2 := g2
                  refine lv_aload_n hx hb d_M_start_242 rfl (lv_at hl 1 rfl) ?_
                  refine gF (v := .ref (ad 31)) hx hb hown hE hK hP 0 rfl rfl layM 31 (by decide) w511 rfl d_M_start_243 ?_
                  refine lv_iload_n hx hb d_M_start_246 rfl (lv_at hl 0 rfl) ?_
                  refine nbld (f := z.kinds) hx hb hK hP 14 0 rfl rfl (k) (by omega) (by decide) d_M_start_247 ?_
                  refine lv_iconst (v := 1) hx hb d_M_start_248 (by decide) ?_
                  refine lv_icmp_ne hx hb d_M_start_249 (tgt := 277) rfl (fun g3 => ?_) (fun g3 => ?_)
                  · have g3 := g3
                    refine lv_aload_n hx hb d_M_start_277 rfl (lv_at hl 1 rfl) ?_
                    refine lv_aload_n hx hb d_M_start_278 rfl (lv_at hl 1 rfl) ?_
                    refine gF (v := .ref (ad 32)) hx hb hown hE hK hP 0 rfl rfl layM 32 (by decide) w512 rfl d_M_start_279 ?_
                    refine lv_iload_n hx hb d_M_start_282 rfl (lv_at hl 0 rfl) ?_
                    refine nild (f := (fun z9 => nI (z.recordSeries z9))) hx hb hK hP 15 1 rfl rfl (k) (by omega) (by decide) d_M_start_283 ?_
                    refine lv_aload_n hx hb d_M_start_284 rfl (lv_at hl 1 rfl) ?_
                    refine gF (v := .ref (ad 33)) hx hb hown hE hK hP 0 rfl rfl layM 33 (by decide) w513 rfl d_M_start_285 ?_
                    refine lv_iload_n hx hb d_M_start_288 rfl (lv_at hl 0 rfl) ?_
                    refine nlld (f := z.firsts) hx hb hK hP 16 2 rfl rfl (k) (by omega) (by decide) d_M_start_289 ?_
                    refine lv_aload_n hx hb d_M_start_290 rfl (lv_at hl 1 rfl) ?_
                    refine gF (v := .ref (ad 34)) hx hb hown hE hK hP 0 rfl rfl layM 34 (by decide) w514 rfl d_M_start_291 ?_
                    refine lv_iload_n hx hb d_M_start_294 rfl (lv_at hl 0 rfl) ?_
                    refine nlld (f := z.seconds) hx hb hK hP 17 2 rfl rfl (k) (by omega) (by decide) d_M_start_295 ?_
                    refine jfI (rnV (As := [.int (nI (z.recordSeries k)), .long (z.firsts k), .long (z.seconds k)]) (rest := []) hx hb hml hown hE hK (hN _ _ hS) hP hD (k_go l D dA H.size h ad (MS.s_used (MS.s_block z (z.recordBlocks k)) v) (z.recordSeries k) (z.firsts k) (z.seconds k) (show z.points ≤ 12000 from by omega) (show z.deletes < 2 ^ 30 from by omega) (show (z.recordSeries k) < 256 from by omega) b1) (q0 := 0) rfl rfl w901 w900 w902 w903 w328 rfl rfl ⟨⟨by decide, by decide⟩, rfl⟩ ⟨(Nat.le_of_ble_eq_true rfl), (Nat.le_of_ble_eq_true rfl)⟩ rfl hl.1 rfl (Nat.le_of_ble_eq_true rfl) d_M_start_296 ⟨(Nat.le_of_ble_eq_true rfl), (Nat.le_of_ble_eq_true rfl)⟩) hP hD hS hA (fun r4 u5 H locs hp9 hP hD hS => ?_)
                    have hP : va_P D vwCl (MW dA h ad (MS.s_used (MS.s_block (MS.s_deletes (MS.s_hidden (MS.s_places z (mapT z.points (z.hit (z.recordSeries k) (z.firsts k) (z.seconds k)) z.gP z.places)) (mapT z.points (z.hit (z.recordSeries k) (z.firsts k) (z.seconds k)) z.gH z.hidden)) (z.deletes + 1)) (z.recordBlocks k)) v)) H := hP
                    have hD : va_D A (MW dA h ad (MS.s_used (MS.s_block (MS.s_deletes (MS.s_hidden (MS.s_places z (mapT z.points (z.hit (z.recordSeries k) (z.firsts k) (z.seconds k)) z.gP z.places)) (mapT z.points (z.hit (z.recordSeries k) (z.firsts k) (z.seconds k)) z.gH z.hidden)) (z.deletes + 1)) (z.recordBlocks k)) v)) := hD
                    replace hp9 : nI (cnt z.points (z.hit (z.recordSeries k) (z.firsts k) (z.seconds k))) = r4 := Eq.symm hp9
                    subst hp9
                    refine lv_pop hx hb d_M_start_299 rfl ?_
                    refine lv_iinc (k := 0) (v := nI (k + 1)) hx hb d_M_start_300 hl rfl (iincN (k) 1 1 (by decide)) (by decide) rfl (fun ls hl => ?_)
                    have hl : lv_has ls 2 [(1, .int (nI (k + 1))), (0, .ref h)] := hl
                    refine lv_goto hx hb d_M_start_303 (tgt := 158) rfl ?_
                    exact ih158 _ (by omega) (k + 1) (MS.s_used (MS.s_block (MS.s_deletes (MS.s_hidden (MS.s_places z (mapT z.points (z.hit (z.recordSeries k) (z.firsts k) (z.seconds k)) z.gP z.places)) (mapT z.points (z.hit (z.recordSeries k) (z.firsts k) (z.seconds k)) z.gH z.hidden)) (z.deletes + 1)) (z.recordBlocks k)) v) (by rw [rpS_s, ← ez]; unfold MS.rp1; rw [if_neg g2]; rw [if_neg g3]; rw [← hv9]; rfl) (by omega) a1 a2 a3 a4 a5 a6 a7 (show z.points ≤ _ from by omega) (show z.deletes + 1 ≤ _ from by omega) b1 (show v ≤ _ from by omega) (show z.recordBlocks k < _ from by omega) rfl H _ ls hP hD hS (lv_sub hl [0, 1] rfl)
                  · have g3 := g3
                    refine lv_aload_n hx hb d_M_start_252 rfl (lv_at hl 1 rfl) ?_
                    refine lv_aload_n hx hb d_M_start_253 rfl (lv_at hl 1 rfl) ?_
                    refine gF (v := .ref (ad 32)) hx hb hown hE hK hP 0 rfl rfl layM 32 (by decide) w512 rfl d_M_start_254 ?_
                    refine lv_iload_n hx hb d_M_start_257 rfl (lv_at hl 0 rfl) ?_
                    refine nild (f := (fun z9 => nI (z.recordSeries z9))) hx hb hK hP 15 1 rfl rfl (k) (by omega) (by decide) d_M_start_258 ?_
                    refine lv_aload_n hx hb d_M_start_259 rfl (lv_at hl 1 rfl) ?_
                    refine gF (v := .ref (ad 33)) hx hb hown hE hK hP 0 rfl rfl layM 33 (by decide) w513 rfl d_M_start_260 ?_
                    refine lv_iload_n hx hb d_M_start_263 rfl (lv_at hl 0 rfl) ?_
                    refine nlld (f := z.firsts) hx hb hK hP 16 2 rfl rfl (k) (by omega) (by decide) d_M_start_264 ?_
                    refine lv_aload_n hx hb d_M_start_265 rfl (lv_at hl 1 rfl) ?_
                    refine gF (v := .ref (ad 34)) hx hb hown hE hK hP 0 rfl rfl layM 34 (by decide) w514 rfl d_M_start_266 ?_
                    refine lv_iload_n hx hb d_M_start_269 rfl (lv_at hl 0 rfl) ?_
                    refine nlld (f := z.seconds) hx hb hK hP 17 2 rfl rfl (k) (by omega) (by decide) d_M_start_270 ?_
                    rcases (Classical.em (z.firsts k < z.horizon)) with c1 | c1
                    · refine jfV (rnV (As := [.int (nI (z.recordSeries k)), .long (z.firsts k), .long (z.seconds k)]) (rest := []) hx hb hml hown hE hK (hN _ _ hS) hP hD (k_come_0 l D dA H.size h ad (MS.s_used (MS.s_block z (z.recordBlocks k)) v) (z.recordSeries k) (z.firsts k) (z.seconds k) (show (z.recordSeries k) < 256 from by omega) c1) (q0 := 0) rfl rfl w893 w892 w894 w895 w328 rfl rfl ⟨⟨by decide, by decide⟩, rfl⟩ ⟨(Nat.le_of_ble_eq_true rfl), (Nat.le_of_ble_eq_true rfl)⟩ rfl hl.1 rfl (Nat.le_of_ble_eq_true rfl) d_M_start_271 ⟨(Nat.le_of_ble_eq_true rfl), (Nat.le_of_ble_eq_true rfl)⟩) hP hD hS hA (fun u7 H locs hp9 hP hD hS => ?_)
                      have hP : va_P D vwCl (MW dA h ad (MS.s_used (MS.s_block (MS.s_lasts z (va_up z.lasts (z.recordSeries k) (z.firsts k))) (z.recordBlocks k)) v)) H := hP
                      have hD : va_D A (MW dA h ad (MS.s_used (MS.s_block (MS.s_lasts z (va_up z.lasts (z.recordSeries k) (z.firsts k))) (z.recordBlocks k)) v)) := hD
                      refine lv_goto hx hb d_M_start_274 (tgt := 300) rfl ?_
                      refine lv_iinc (k := 0) (v := nI (k + 1)) hx hb d_M_start_300 hl rfl (iincN (k) 1 1 (by decide)) (by decide) rfl (fun ls hl => ?_)
                      have hl : lv_has ls 2 [(1, .int (nI (k + 1))), (0, .ref h)] := hl
                      refine lv_goto hx hb d_M_start_303 (tgt := 158) rfl ?_
                      exact ih158 _ (by omega) (k + 1) (MS.s_used (MS.s_block (MS.s_lasts z (va_up z.lasts (z.recordSeries k) (z.firsts k))) (z.recordBlocks k)) v) (by rw [rpS_s, ← ez]; unfold MS.rp1; rw [if_neg g2]; rw [if_pos g3]; rw [if_pos c1]; rw [← hv9]; rfl) (by omega) a1 a2 a3 a4 a5 a6 a7 (show z.points ≤ _ from by omega) (show z.deletes ≤ _ from by omega) b1 (show v ≤ _ from by omega) (show z.recordBlocks k < _ from by omega) rfl H _ ls hP hD hS (lv_sub hl [0, 1] rfl)
                    · refine jfV (rnV (As := [.int (nI (z.recordSeries k)), .long (z.firsts k), .long (z.seconds k)]) (rest := []) hx hb hml hown hE hK (hN _ _ hS) hP hD (k_come l D dA H.size h ad (MS.s_used (MS.s_block z (z.recordBlocks k)) v) (z.recordSeries k) (z.firsts k) (z.seconds k) (show (z.recordSeries k) < 256 from by omega) c1 (show z.points < 12000 from by omega)) (q0 := 0) rfl rfl w893 w892 w894 w895 w328 rfl rfl ⟨⟨by decide, by decide⟩, rfl⟩ ⟨(Nat.le_of_ble_eq_true rfl), (Nat.le_of_ble_eq_true rfl)⟩ rfl hl.1 rfl (Nat.le_of_ble_eq_true rfl) d_M_start_271 ⟨(Nat.le_of_ble_eq_true rfl), (Nat.le_of_ble_eq_true rfl)⟩) hP hD hS hA (fun u9 H locs hp9 hP hD hS => ?_)
                      have hP : va_P D vwCl (MW dA h ad (MS.s_used (MS.s_block (MS.s_points (MS.s_baseHidden (MS.s_hidden (MS.s_places (MS.s_pointValues (MS.s_pointTimes (MS.s_pointSeries (MS.s_lasts z (va_up z.lasts (z.recordSeries k) (z.firsts k))) (va_up z.pointSeries z.points (z.recordSeries k))) (va_up z.pointTimes z.points (z.firsts k))) (va_up z.pointValues z.points (z.seconds k))) (va_up z.places z.points (-1))) (va_up z.hidden z.points (-1))) (va_up z.baseHidden z.points (-1))) (z.points + 1)) (z.recordBlocks k)) v)) H := hP
                      have hD : va_D A (MW dA h ad (MS.s_used (MS.s_block (MS.s_points (MS.s_baseHidden (MS.s_hidden (MS.s_places (MS.s_pointValues (MS.s_pointTimes (MS.s_pointSeries (MS.s_lasts z (va_up z.lasts (z.recordSeries k) (z.firsts k))) (va_up z.pointSeries z.points (z.recordSeries k))) (va_up z.pointTimes z.points (z.firsts k))) (va_up z.pointValues z.points (z.seconds k))) (va_up z.places z.points (-1))) (va_up z.hidden z.points (-1))) (va_up z.baseHidden z.points (-1))) (z.points + 1)) (z.recordBlocks k)) v)) := hD
                      refine lv_goto hx hb d_M_start_274 (tgt := 300) rfl ?_
                      refine lv_iinc (k := 0) (v := nI (k + 1)) hx hb d_M_start_300 hl rfl (iincN (k) 1 1 (by decide)) (by decide) rfl (fun ls hl => ?_)
                      have hl : lv_has ls 2 [(1, .int (nI (k + 1))), (0, .ref h)] := hl
                      refine lv_goto hx hb d_M_start_303 (tgt := 158) rfl ?_
                      exact ih158 _ (by omega) (k + 1) (MS.s_used (MS.s_block (MS.s_points (MS.s_baseHidden (MS.s_hidden (MS.s_places (MS.s_pointValues (MS.s_pointTimes (MS.s_pointSeries (MS.s_lasts z (va_up z.lasts (z.recordSeries k) (z.firsts k))) (va_up z.pointSeries z.points (z.recordSeries k))) (va_up z.pointTimes z.points (z.firsts k))) (va_up z.pointValues z.points (z.seconds k))) (va_up z.places z.points (-1))) (va_up z.hidden z.points (-1))) (va_up z.baseHidden z.points (-1))) (z.points + 1)) (z.recordBlocks k)) v) (by rw [rpS_s, ← ez]; unfold MS.rp1; rw [if_neg g2]; rw [if_pos g3]; rw [if_neg c1]; rw [← hv9]; rfl) (by omega) a1 a2 a3 a4 a5 a6 a7 (show z.points + 1 ≤ _ from by omega) (show z.deletes ≤ _ from by omega) (up_all b1 (by rw [a2]; exact (hk k (by omega)).1)) (show v ≤ _ from by omega) (show z.recordBlocks k < _ from by omega) rfl H _ ls hP hD hS (lv_sub hl [0, 1] rfl)
                · have g2 := g2
                  refine lv_aload_n hx hb d_M_start_222 rfl (lv_at hl 1 rfl) ?_
                  refine lv_aload_n hx hb d_M_start_223 rfl (lv_at hl 1 rfl) ?_
                  refine gF (v := .ref (ad 32)) hx hb hown hE hK hP 0 rfl rfl layM 32 (by decide) w512 rfl d_M_start_224 ?_
                  refine lv_iload_n hx hb d_M_start_227 rfl (lv_at hl 0 rfl) ?_
                  refine nild (f := (fun z9 => nI (z.recordSeries z9))) hx hb hK hP 15 1 rfl rfl (k) (by omega) (by decide) d_M_start_228 ?_
                  refine lv_aload_n hx hb d_M_start_229 rfl (lv_at hl 1 rfl) ?_
                  refine gF (v := .ref (ad 33)) hx hb hown hE hK hP 0 rfl rfl layM 33 (by decide) w513 rfl d_M_start_230 ?_
                  refine lv_iload_n hx hb d_M_start_233 rfl (lv_at hl 0 rfl) ?_
                  refine nlld (f := z.firsts) hx hb hK hP 16 2 rfl rfl (k) (by omega) (by decide) d_M_start_234 ?_
                  refine lv_l2i hx hb d_M_start_235 rfl ?_
                  refine tpi (y := nI (fN k)) (by rw [h5.2.2.2 g2]; exact lN_i _) ?_
                  refine jfV (rnV (As := [.int (nI (z.recordSeries k)), .int (nI (fN k))]) (rest := []) hx hb hml hown hE hK (hN _ _ hS) hP hD (k_newSeries l D dA H.size h ad (MS.s_used (MS.s_block z (z.recordBlocks k)) v) (z.recordSeries k) (fN k) (show (z.recordSeries k) < 256 from by omega)) (q0 := 0) rfl rfl w935 w934 w936 w937 w328 rfl rfl ⟨⟨by decide, by decide⟩, rfl⟩ ⟨(Nat.le_of_ble_eq_true rfl), (Nat.le_of_ble_eq_true rfl)⟩ rfl hl.1 rfl (Nat.le_of_ble_eq_true rfl) d_M_start_236 ⟨(Nat.le_of_ble_eq_true rfl), (Nat.le_of_ble_eq_true rfl)⟩) hP hD hS hA (fun u11 H locs hp9 hP hD hS => ?_)
                  have hP : va_P D vwCl (MW dA h ad (MS.s_used (MS.s_block (MS.s_lasts (MS.s_seriesCount (MS.s_textLengths z (va_up z.textLengths (z.recordSeries k) (fN k))) ((z.recordSeries k) + 1)) (va_up z.lasts (z.recordSeries k) (-1))) (z.recordBlocks k)) v)) H := hP
                  have hD : va_D A (MW dA h ad (MS.s_used (MS.s_block (MS.s_lasts (MS.s_seriesCount (MS.s_textLengths z (va_up z.textLengths (z.recordSeries k) (fN k))) ((z.recordSeries k) + 1)) (va_up z.lasts (z.recordSeries k) (-1))) (z.recordBlocks k)) v)) := hD
                  refine lv_goto hx hb d_M_start_239 (tgt := 300) rfl ?_
                  refine lv_iinc (k := 0) (v := nI (k + 1)) hx hb d_M_start_300 hl rfl (iincN (k) 1 1 (by decide)) (by decide) rfl (fun ls hl => ?_)
                  have hl : lv_has ls 2 [(1, .int (nI (k + 1))), (0, .ref h)] := hl
                  refine lv_goto hx hb d_M_start_303 (tgt := 158) rfl ?_
                  exact ih158 _ (by omega) (k + 1) (MS.s_used (MS.s_block (MS.s_lasts (MS.s_seriesCount (MS.s_textLengths z (va_up z.textLengths (z.recordSeries k) (fN k))) ((z.recordSeries k) + 1)) (va_up z.lasts (z.recordSeries k) (-1))) (z.recordBlocks k)) v) (by rw [rpS_s, ← ez]; unfold MS.rp1; rw [if_pos g2]; rw [← hv9]; rfl) (by omega) a1 a2 a3 a4 a5 a6 a7 (show z.points ≤ _ from by omega) (show z.deletes ≤ _ from by omega) b1 (show v ≤ _ from by omega) (show z.recordBlocks k < _ from by omega) rfl H _ ls hP hD hS (lv_sub hl [0, 1] rfl)
              have h5 := hk k (by omega)
              rw [← a2, ← a5, ← a6, ← a1, ← a3] at h5
              have h6 := h5.1
              have h7 := h5.2.1
              have h8 := h5.2.2.1
              refine lv_aload_n hx hb d_M_start_166 rfl (lv_at hl 1 rfl) ?_
              refine lv_aload_n hx hb d_M_start_167 rfl (lv_at hl 1 rfl) ?_
              refine gF (v := .ref (ad 36)) hx hb hown hE hK hP 0 rfl rfl layM 36 (by decide) w516 rfl d_M_start_168 ?_
              refine lv_iload_n hx hb d_M_start_171 rfl (lv_at hl 0 rfl) ?_
              refine nild (f := (fun z9 => nI (z.recordBlocks z9))) hx hb hK hP 19 1 rfl rfl (k) (by omega) (by decide) d_M_start_172 ?_
              refine lv_aload_n hx hb d_M_start_173 rfl (lv_at hl 1 rfl) ?_
              refine gF (v := .int (nI z.block)) hx hb hown hE hK hP 0 rfl rfl layM 39 (by decide) w423 rfl d_M_start_174 ?_
              refine lv_icmp_ne hx hb d_M_start_177 (tgt := 194) rfl (fun g12 => ?_) (fun g12 => ?_)
              · have g12 := mt (nI_eq (a := z.recordBlocks k) (b := z.block) (by omega) (by omega)).mpr g12
                refine lv_aload_n hx hb d_M_start_194 rfl (lv_at hl 1 rfl) ?_
                refine gF (v := .ref (ad 35)) hx hb hown hE hK hP 0 rfl rfl layM 35 (by decide) w515 rfl d_M_start_195 ?_
                refine lv_iload_n hx hb d_M_start_198 rfl (lv_at hl 0 rfl) ?_
                refine nild (f := (fun z9 => nI (z.units z9))) hx hb hK hP 18 1 rfl rfl (k) (by omega) (by decide) d_M_start_199 ?_
                exact J200 (z.units k) (if_neg g12) (by omega) H _ ls hP hD hS (lv_sub hl [0, 1] rfl)
              · have g12 := (nI_eq (a := z.recordBlocks k) (b := z.block) (by omega) (by omega)).mp g12
                refine lv_aload_n hx hb d_M_start_180 rfl (lv_at hl 1 rfl) ?_
                refine gF (v := .int (nI z.used)) hx hb hown hE hK hP 0 rfl rfl layM 40 (by decide) w424 rfl d_M_start_181 ?_
                refine lv_aload_n hx hb d_M_start_184 rfl (lv_at hl 1 rfl) ?_
                refine gF (v := .ref (ad 35)) hx hb hown hE hK hP 0 rfl rfl layM 35 (by decide) w515 rfl d_M_start_185 ?_
                refine lv_iload_n hx hb d_M_start_188 rfl (lv_at hl 0 rfl) ?_
                refine nild (f := (fun z9 => nI (z.units z9))) hx hb hK hP 18 1 rfl rfl (k) (by omega) (by decide) d_M_start_189 ?_
                refine lv_iadd hx hb d_M_start_190 (tpi (y := nI (z.used + (z.units k))) (nI_add (z.used) (z.units k)) ?_)
                refine lv_goto hx hb d_M_start_191 (tgt := 200) rfl ?_
                exact J200 (z.used + (z.units k)) (if_pos g12) (by omega) H _ ls hP hD hS (lv_sub hl [0, 1] rfl)
        exact L158 _ 0 y ey (Nat.zero_le _) (by rw [ey]; rfl) (by rw [ey]; rfl) (by rw [ey]; rfl) (by rw [ey]; rfl) (by rw [ey]; rfl) (by rw [ey]; rfl) (by rw [ey]; rfl) (by rw [ey]; exact cnt_le x.points _) (by rw [ey]; exact Nat.le_refl _) (by rw [ey]; exact st2_hs hs) (by rw [ey]; exact Nat.zero_le _) (by rw [ey]; show 0 < 2 ^ 20; decide) rfl H _ ls hP hD hS (lv_sub hl [0, 1] rfl)
      refine lv_aload_n hx hb d_M_start_129 rfl (lv_at hl 0 rfl) ?_
      refine jfV (rnV (As := []) (rest := []) hx hb hml hown hE hK (hN _ _ hS) hP hD (k_tidy l D dA H.size h ad y7 (show y7.points ≤ 12000 from by omega)) (q0 := 0) rfl rfl w456 w455 w457 w458 w328 rfl rfl ⟨⟨by decide, by decide⟩, rfl⟩ ⟨(Nat.le_of_ble_eq_true rfl), (Nat.le_of_ble_eq_true rfl)⟩ rfl hl.1 rfl (Nat.le_of_ble_eq_true rfl) d_M_start_130 ⟨(Nat.le_of_ble_eq_true rfl), (Nat.le_of_ble_eq_true rfl)⟩) hP hD hS hA (fun u14 H locs hp9 hP hD hS => ?_)
      have hP : va_P D vwCl (MW dA h ad (MS.s_points (MS.s_baseHidden (MS.s_hidden (MS.s_places (MS.s_pointValues (MS.s_pointTimes (MS.s_pointSeries y7 (tdT y7.stay y7.pointSeries y7.points)) (tdT y7.stay y7.pointTimes y7.points)) (tdT y7.stay y7.pointValues y7.points)) (tdT y7.stay y7.places y7.points)) (tdT y7.stay y7.hidden y7.points)) (tdT y7.stay y7.baseHidden y7.points)) (cnt y7.points y7.stay))) H := hP
      have hD : va_D A (MW dA h ad (MS.s_points (MS.s_baseHidden (MS.s_hidden (MS.s_places (MS.s_pointValues (MS.s_pointTimes (MS.s_pointSeries y7 (tdT y7.stay y7.pointSeries y7.points)) (tdT y7.stay y7.pointTimes y7.points)) (tdT y7.stay y7.pointValues y7.points)) (tdT y7.stay y7.places y7.points)) (tdT y7.stay y7.hidden y7.points)) (tdT y7.stay y7.baseHidden y7.points)) (cnt y7.points y7.stay))) := hD
      refine lv_aload_n hx hb d_M_start_133 rfl (lv_at hl 0 rfl) ?_
      refine lv_aload_n hx hb d_M_start_134 rfl (lv_at hl 0 rfl) ?_
      refine gF (v := .int (nI y7.kept)) hx hb hown hE hK hP 0 rfl rfl layM 38 (by decide) w339 rfl d_M_start_135 ?_
      refine pF (v := .int (nI y7.kept)) hx hb hown hE hK hP hD hS 0 rfl rfl layM tyM tokM nmM 37 (by decide) w338 rfl rfl rfl (Nat.le_of_ble_eq_true rfl) d_M_start_138 (fun H locs hP hD hS => ?_)
      have hP : va_P D vwCl (MW dA h ad (MS.s_records (MS.s_points (MS.s_baseHidden (MS.s_hidden (MS.s_places (MS.s_pointValues (MS.s_pointTimes (MS.s_pointSeries y7 (tdT y7.stay y7.pointSeries y7.points)) (tdT y7.stay y7.pointTimes y7.points)) (tdT y7.stay y7.pointValues y7.points)) (tdT y7.stay y7.places y7.points)) (tdT y7.stay y7.hidden y7.points)) (tdT y7.stay y7.baseHidden y7.points)) (cnt y7.points y7.stay)) y7.kept)) H := hP
      have hD : va_D A (MW dA h ad (MS.s_records (MS.s_points (MS.s_baseHidden (MS.s_hidden (MS.s_places (MS.s_pointValues (MS.s_pointTimes (MS.s_pointSeries y7 (tdT y7.stay y7.pointSeries y7.points)) (tdT y7.stay y7.pointTimes y7.points)) (tdT y7.stay y7.pointValues y7.points)) (tdT y7.stay y7.places y7.points)) (tdT y7.stay y7.hidden y7.points)) (tdT y7.stay y7.baseHidden y7.points)) (cnt y7.points y7.stay)) y7.kept)) := hD
      refine lv_aload_n hx hb d_M_start_141 rfl (lv_at hl 0 rfl) ?_
      refine lv_iconst (v := 0) hx hb d_M_start_142 (by decide) ?_
      refine pF (v := .int (bI false)) hx hb hown hE hK hP hD hS 0 rfl rfl layM tyM tokM nmM 41 (by decide) w337 rfl (bI_nar false) (bI_fit false) (Nat.le_of_ble_eq_true rfl) d_M_start_143 (fun H locs hP hD hS => ?_)
      have hP : va_P D vwCl (MW dA h ad (MS.s_fresh (MS.s_records (MS.s_points (MS.s_baseHidden (MS.s_hidden (MS.s_places (MS.s_pointValues (MS.s_pointTimes (MS.s_pointSeries y7 (tdT y7.stay y7.pointSeries y7.points)) (tdT y7.stay y7.pointTimes y7.points)) (tdT y7.stay y7.pointValues y7.points)) (tdT y7.stay y7.places y7.points)) (tdT y7.stay y7.hidden y7.points)) (tdT y7.stay y7.baseHidden y7.points)) (cnt y7.points y7.stay)) y7.kept) false)) H := hP
      have hD : va_D A (MW dA h ad (MS.s_fresh (MS.s_records (MS.s_points (MS.s_baseHidden (MS.s_hidden (MS.s_places (MS.s_pointValues (MS.s_pointTimes (MS.s_pointSeries y7 (tdT y7.stay y7.pointSeries y7.points)) (tdT y7.stay y7.pointTimes y7.points)) (tdT y7.stay y7.pointValues y7.points)) (tdT y7.stay y7.places y7.points)) (tdT y7.stay y7.hidden y7.points)) (tdT y7.stay y7.baseHidden y7.points)) (cnt y7.points y7.stay)) y7.kept) false)) := hD
      refine lv_aload_n hx hb d_M_start_146 rfl (lv_at hl 0 rfl) ?_
      refine lv_iconst (v := 0) hx hb d_M_start_147 (by decide) ?_
      refine pF (v := .int (nI 0)) hx hb hown hE hK hP hD hS 0 rfl rfl layM tyM tokM nmM 39 (by decide) w423 rfl rfl rfl (Nat.le_of_ble_eq_true rfl) d_M_start_148 (fun H locs hP hD hS => ?_)
      have hP : va_P D vwCl (MW dA h ad (MS.s_fresh (MS.s_block (MS.s_records (MS.s_points (MS.s_baseHidden (MS.s_hidden (MS.s_places (MS.s_pointValues (MS.s_pointTimes (MS.s_pointSeries y7 (tdT y7.stay y7.pointSeries y7.points)) (tdT y7.stay y7.pointTimes y7.points)) (tdT y7.stay y7.pointValues y7.points)) (tdT y7.stay y7.places y7.points)) (tdT y7.stay y7.hidden y7.points)) (tdT y7.stay y7.baseHidden y7.points)) (cnt y7.points y7.stay)) y7.kept) 0) false)) H := hP
      have hD : va_D A (MW dA h ad (MS.s_fresh (MS.s_block (MS.s_records (MS.s_points (MS.s_baseHidden (MS.s_hidden (MS.s_places (MS.s_pointValues (MS.s_pointTimes (MS.s_pointSeries y7 (tdT y7.stay y7.pointSeries y7.points)) (tdT y7.stay y7.pointTimes y7.points)) (tdT y7.stay y7.pointValues y7.points)) (tdT y7.stay y7.places y7.points)) (tdT y7.stay y7.hidden y7.points)) (tdT y7.stay y7.baseHidden y7.points)) (cnt y7.points y7.stay)) y7.kept) 0) false)) := hD
      refine lv_aload_n hx hb d_M_start_151 rfl (lv_at hl 0 rfl) ?_
      refine lv_iconst (v := 0) hx hb d_M_start_152 (by decide) ?_
      refine pF (v := .int (nI 0)) hx hb hown hE hK hP hD hS 0 rfl rfl layM tyM tokM nmM 40 (by decide) w424 rfl rfl rfl (Nat.le_of_ble_eq_true rfl) d_M_start_153 (fun H locs hP hD hS => ?_)
      have hP : va_P D vwCl (MW dA h ad (MS.s_fresh (MS.s_used (MS.s_block (MS.s_records (MS.s_points (MS.s_baseHidden (MS.s_hidden (MS.s_places (MS.s_pointValues (MS.s_pointTimes (MS.s_pointSeries y7 (tdT y7.stay y7.pointSeries y7.points)) (tdT y7.stay y7.pointTimes y7.points)) (tdT y7.stay y7.pointValues y7.points)) (tdT y7.stay y7.places y7.points)) (tdT y7.stay y7.hidden y7.points)) (tdT y7.stay y7.baseHidden y7.points)) (cnt y7.points y7.stay)) y7.kept) 0) 0) false)) H := hP
      have hD : va_D A (MW dA h ad (MS.s_fresh (MS.s_used (MS.s_block (MS.s_records (MS.s_points (MS.s_baseHidden (MS.s_hidden (MS.s_places (MS.s_pointValues (MS.s_pointTimes (MS.s_pointSeries y7 (tdT y7.stay y7.pointSeries y7.points)) (tdT y7.stay y7.pointTimes y7.points)) (tdT y7.stay y7.pointValues y7.points)) (tdT y7.stay y7.places y7.points)) (tdT y7.stay y7.hidden y7.points)) (tdT y7.stay y7.baseHidden y7.points)) (cnt y7.points y7.stay)) y7.kept) 0) 0) false)) := hD
      exact J156 (MS.s_fresh (MS.s_used (MS.s_block (MS.s_records (MS.s_points (MS.s_baseHidden (MS.s_hidden (MS.s_places (MS.s_pointValues (MS.s_pointTimes (MS.s_pointSeries y7 (tdT y7.stay y7.pointSeries y7.points)) (tdT y7.stay y7.pointTimes y7.points)) (tdT y7.stay y7.pointValues y7.points)) (tdT y7.stay y7.places y7.points)) (tdT y7.stay y7.hidden y7.points)) (tdT y7.stay y7.baseHidden y7.points)) (cnt y7.points y7.stay)) y7.kept) 0) 0) false) (by rw [ey7]; rfl) H _ ls hP hD hS (lv_sub hl [0] rfl)
    refine lv_iconst (v := 0) hx hb d_M_start_74 (by decide) ?_
    refine lv_istore_n hx hb d_M_start_75 rfl hl (by decide) rfl (fun ls hl => ?_)
    have hl : lv_has ls 2 [(1, .int 0), (0, .ref h)] := hl
    have L76 : ∀ (k9 : Nat) (q : Nat) (i1 : q ≤ x.points) (hk9 : x.points - q = k9), ∀ (H : Heap) (locs : List Loc) (ls : Array Slot) (hP : va_P D vwCl (MW dA h ad (MS.s_horizon (MS.s_hidden (MS.s_places (MS.s_lasts (MS.s_seriesCount (MS.s_on (MS.s_cod x 0) true) x.baseSeries) (mapT x.baseSeries (fun _ => true) x.baseLasts x.lasts)) (mapT q x.isM1 m2F x.places)) (mapT q (fun _ => true) x.baseHidden x.hidden)) x.baseHorizon)) H) (hD : va_D A (MW dA h ad (MS.s_horizon (MS.s_hidden (MS.s_places (MS.s_lasts (MS.s_seriesCount (MS.s_on (MS.s_cod x 0) true) x.baseSeries) (mapT x.baseSeries (fun _ => true) x.baseLasts x.lasts)) (mapT q x.isM1 m2F x.places)) (mapT q (fun _ => true) x.baseHidden x.hidden)) x.baseHorizon))) (hS : va_S A s.heap H locs) (hl : lv_has ls 2 [(1, .int (nI q)), (0, .ref h)]), W p l e ({ frames := 3, cells := 0, slots := 0, locals := 48 } : Room) s m ([.ref h] : List Value).toArray below meth c H locs 0 0 (MQ below (va_Qi (fun (r9 : Int32) (u9 : MS) => r9 = nI x.kept ∧ u9 = x.st2.rpS fN x.kept) (fun (u9 : MS) t9 => bW D A (MW dA h ad u9) t9) A) ([.ref h] : List Value).toArray s 0 0 A) (F0 m 76 ls []) := by
      intro k9
      induction k9 using Nat.strongRecOn with
      | ind k9 ih76 =>
        intro q i1 hk9 H locs ls hP hD hS hl
        refine lv_iload_n hx hb d_M_start_76 rfl (lv_at hl 0 rfl) ?_
        refine lv_aload_n hx hb d_M_start_77 rfl (lv_at hl 1 rfl) ?_
        refine gF (v := .int (nI x.points)) hx hb hown hE hK hP 0 rfl rfl layM 23 (by decide) w420 rfl d_M_start_78 ?_
        refine lv_icmp_ge hx hb d_M_start_81 (tgt := 129) rfl (fun g15 => ?_) (fun g15 => ?_)
        · have g15 := (nI_leI (a := x.points) (b := q) (by omega) (by omega)).mp g15
          exact J129 (MS.s_horizon (MS.s_hidden (MS.s_places (MS.s_lasts (MS.s_seriesCount (MS.s_on (MS.s_cod x 0) true) x.baseSeries) (mapT x.baseSeries (fun _ => true) x.baseLasts x.lasts)) (mapT q x.isM1 m2F x.places)) (mapT q (fun _ => true) x.baseHidden x.hidden)) x.baseHorizon) (by rw [show q = x.points by omega]; rfl) rfl rfl H _ ls hP hD hS (lv_sub hl [1] rfl)
        · have g15 := mt (nI_leI (a := x.points) (b := q) (by omega) (by omega)).mpr g15
          refine lv_aload_n hx hb d_M_start_84 rfl (lv_at hl 1 rfl) ?_
          refine gF (v := .ref (ad 20)) hx hb hown hE hK hP 0 rfl rfl layM 20 (by decide) w506 rfl d_M_start_85 ?_
          refine lv_iload_n hx hb d_M_start_88 rfl (lv_at hl 0 rfl) ?_
          refine lv_aload_n hx hb d_M_start_89 rfl (lv_at hl 1 rfl) ?_
          refine gF (v := .ref (ad 20)) hx hb hown hE hK hP 0 rfl rfl layM 20 (by decide) w506 rfl d_M_start_90 ?_
          refine lv_iload_n hx hb d_M_start_93 rfl (lv_at hl 0 rfl) ?_
          refine nild (f := (mapT q x.isM1 m2F x.places)) hx hb hK hP 9 1 rfl rfl (q) (by omega) (by decide) d_M_start_94 ?_
          refine tpi (y := (x.places q)) (mapT_at _ _ _ (Nat.le_refl q)) ?_
          refine lv_iconst (v := (-1)) hx hb d_M_start_95 (by decide) ?_
          refine lv_icmp_ne hx hb d_M_start_96 (tgt := 104) rfl (fun g16 => ?_) (fun g16 => ?_)
          · have g16 := g16
            refine lv_aload_n hx hb d_M_start_104 rfl (lv_at hl 1 rfl) ?_
            refine gF (v := .ref (ad 20)) hx hb hown hE hK hP 0 rfl rfl layM 20 (by decide) w506 rfl d_M_start_105 ?_
            refine lv_iload_n hx hb d_M_start_108 rfl (lv_at hl 0 rfl) ?_
            refine nild (f := (mapT q x.isM1 m2F x.places)) hx hb hK hP 9 1 rfl rfl (q) (by omega) (by decide) d_M_start_109 ?_
            refine tpi (y := (x.places q)) (mapT_at _ _ _ (Nat.le_refl q)) ?_
            refine nist hx hb hK hP hD hS 9 1 rfl rfl (q) (by omega) (by decide) d_M_start_110 (fun H locs hP hD hS => ?_)
            have hP : va_P D vwCl (MW dA h ad (MS.s_horizon (MS.s_hidden (MS.s_places (MS.s_lasts (MS.s_seriesCount (MS.s_on (MS.s_cod x 0) true) x.baseSeries) (mapT x.baseSeries (fun _ => true) x.baseLasts x.lasts)) (va_up (mapT q x.isM1 m2F x.places) q (x.places q))) (mapT q (fun _ => true) x.baseHidden x.hidden)) x.baseHorizon)) H := hP
            have hD : va_D A (MW dA h ad (MS.s_horizon (MS.s_hidden (MS.s_places (MS.s_lasts (MS.s_seriesCount (MS.s_on (MS.s_cod x 0) true) x.baseSeries) (mapT x.baseSeries (fun _ => true) x.baseLasts x.lasts)) (va_up (mapT q x.isM1 m2F x.places) q (x.places q))) (mapT q (fun _ => true) x.baseHidden x.hidden)) x.baseHorizon)) := hD
            refine lv_aload_n hx hb d_M_start_111 rfl (lv_at hl 1 rfl) ?_
            refine gF (v := .ref (ad 21)) hx hb hown hE hK hP 0 rfl rfl layM 21 (by decide) w507 rfl d_M_start_112 ?_
            refine lv_iload_n hx hb d_M_start_115 rfl (lv_at hl 0 rfl) ?_
            refine lv_aload_n hx hb d_M_start_116 rfl (lv_at hl 1 rfl) ?_
            refine gF (v := .ref (ad 22)) hx hb hown hE hK hP 0 rfl rfl layM 22 (by decide) w508 rfl d_M_start_117 ?_
            refine lv_iload_n hx hb d_M_start_120 rfl (lv_at hl 0 rfl) ?_
            refine nild (f := x.baseHidden) hx hb hK hP 11 1 rfl rfl (q) (by omega) (by decide) d_M_start_121 ?_
            refine nist hx hb hK hP hD hS 10 1 rfl rfl (q) (by omega) (by decide) d_M_start_122 (fun H locs hP hD hS => ?_)
            have hP : va_P D vwCl (MW dA h ad (MS.s_horizon (MS.s_hidden (MS.s_places (MS.s_lasts (MS.s_seriesCount (MS.s_on (MS.s_cod x 0) true) x.baseSeries) (mapT x.baseSeries (fun _ => true) x.baseLasts x.lasts)) (va_up (mapT q x.isM1 m2F x.places) q (x.places q))) (va_up (mapT q (fun _ => true) x.baseHidden x.hidden) q (x.baseHidden q))) x.baseHorizon)) H := hP
            have hD : va_D A (MW dA h ad (MS.s_horizon (MS.s_hidden (MS.s_places (MS.s_lasts (MS.s_seriesCount (MS.s_on (MS.s_cod x 0) true) x.baseSeries) (mapT x.baseSeries (fun _ => true) x.baseLasts x.lasts)) (va_up (mapT q x.isM1 m2F x.places) q (x.places q))) (va_up (mapT q (fun _ => true) x.baseHidden x.hidden) q (x.baseHidden q))) x.baseHorizon)) := hD
            refine lv_iinc (k := 0) (v := nI (q + 1)) hx hb d_M_start_123 hl rfl (iincN (q) 1 1 (by decide)) (by decide) rfl (fun ls hl => ?_)
            have hl : lv_has ls 2 [(1, .int (nI (q + 1))), (0, .ref h)] := hl
            refine lv_goto hx hb d_M_start_126 (tgt := 76) rfl ?_
            have e9 : (MS.s_horizon (MS.s_hidden (MS.s_places (MS.s_lasts (MS.s_seriesCount (MS.s_on (MS.s_cod x 0) true) x.baseSeries) (mapT x.baseSeries (fun _ => true) x.baseLasts x.lasts)) (va_up (mapT q x.isM1 m2F x.places) q (x.places q))) (va_up (mapT q (fun _ => true) x.baseHidden x.hidden) q (x.baseHidden q))) x.baseHorizon : MS) = MS.s_horizon (MS.s_hidden (MS.s_places (MS.s_lasts (MS.s_seriesCount (MS.s_on (MS.s_cod x 0) true) x.baseSeries) (mapT x.baseSeries (fun _ => true) x.baseLasts x.lasts)) (mapT (q + 1) x.isM1 m2F x.places)) (mapT (q + 1) (fun _ => true) x.baseHidden x.hidden)) x.baseHorizon := by rw [show (mapT (q + 1) (fun _ => true) x.baseHidden x.hidden) = (va_up (mapT q (fun _ => true) x.baseHidden x.hidden) q (x.baseHidden q)) from (mapT_t rfl rfl), show (mapT (q + 1) x.isM1 m2F x.places) = (va_up (mapT q x.isM1 m2F x.places) q (x.places q)) from (mapT_u (decide_eq_false g16) rfl)] <;> rfl
            exact ih76 _ (by omega) (q + 1) (by omega) rfl H _ ls (cvP e9 hP) (cvD e9 hD) hS (lv_sub hl [0, 1] rfl)
          · have g16 := g16
            refine lv_bipush (v := (-2)) hx hb d_M_start_99 (by decide) ?_
            refine lv_goto hx hb d_M_start_101 (tgt := 110) rfl ?_
            refine nist hx hb hK hP hD hS 9 1 rfl rfl (q) (by omega) (by decide) d_M_start_110 (fun H locs hP hD hS => ?_)
            have hP : va_P D vwCl (MW dA h ad (MS.s_horizon (MS.s_hidden (MS.s_places (MS.s_lasts (MS.s_seriesCount (MS.s_on (MS.s_cod x 0) true) x.baseSeries) (mapT x.baseSeries (fun _ => true) x.baseLasts x.lasts)) (va_up (mapT q x.isM1 m2F x.places) q (-2))) (mapT q (fun _ => true) x.baseHidden x.hidden)) x.baseHorizon)) H := hP
            have hD : va_D A (MW dA h ad (MS.s_horizon (MS.s_hidden (MS.s_places (MS.s_lasts (MS.s_seriesCount (MS.s_on (MS.s_cod x 0) true) x.baseSeries) (mapT x.baseSeries (fun _ => true) x.baseLasts x.lasts)) (va_up (mapT q x.isM1 m2F x.places) q (-2))) (mapT q (fun _ => true) x.baseHidden x.hidden)) x.baseHorizon)) := hD
            refine lv_aload_n hx hb d_M_start_111 rfl (lv_at hl 1 rfl) ?_
            refine gF (v := .ref (ad 21)) hx hb hown hE hK hP 0 rfl rfl layM 21 (by decide) w507 rfl d_M_start_112 ?_
            refine lv_iload_n hx hb d_M_start_115 rfl (lv_at hl 0 rfl) ?_
            refine lv_aload_n hx hb d_M_start_116 rfl (lv_at hl 1 rfl) ?_
            refine gF (v := .ref (ad 22)) hx hb hown hE hK hP 0 rfl rfl layM 22 (by decide) w508 rfl d_M_start_117 ?_
            refine lv_iload_n hx hb d_M_start_120 rfl (lv_at hl 0 rfl) ?_
            refine nild (f := x.baseHidden) hx hb hK hP 11 1 rfl rfl (q) (by omega) (by decide) d_M_start_121 ?_
            refine nist hx hb hK hP hD hS 10 1 rfl rfl (q) (by omega) (by decide) d_M_start_122 (fun H locs hP hD hS => ?_)
            have hP : va_P D vwCl (MW dA h ad (MS.s_horizon (MS.s_hidden (MS.s_places (MS.s_lasts (MS.s_seriesCount (MS.s_on (MS.s_cod x 0) true) x.baseSeries) (mapT x.baseSeries (fun _ => true) x.baseLasts x.lasts)) (va_up (mapT q x.isM1 m2F x.places) q (-2))) (va_up (mapT q (fun _ => true) x.baseHidden x.hidden) q (x.baseHidden q))) x.baseHorizon)) H := hP
            have hD : va_D A (MW dA h ad (MS.s_horizon (MS.s_hidden (MS.s_places (MS.s_lasts (MS.s_seriesCount (MS.s_on (MS.s_cod x 0) true) x.baseSeries) (mapT x.baseSeries (fun _ => true) x.baseLasts x.lasts)) (va_up (mapT q x.isM1 m2F x.places) q (-2))) (va_up (mapT q (fun _ => true) x.baseHidden x.hidden) q (x.baseHidden q))) x.baseHorizon)) := hD
            refine lv_iinc (k := 0) (v := nI (q + 1)) hx hb d_M_start_123 hl rfl (iincN (q) 1 1 (by decide)) (by decide) rfl (fun ls hl => ?_)
            have hl : lv_has ls 2 [(1, .int (nI (q + 1))), (0, .ref h)] := hl
            refine lv_goto hx hb d_M_start_126 (tgt := 76) rfl ?_
            have e9 : (MS.s_horizon (MS.s_hidden (MS.s_places (MS.s_lasts (MS.s_seriesCount (MS.s_on (MS.s_cod x 0) true) x.baseSeries) (mapT x.baseSeries (fun _ => true) x.baseLasts x.lasts)) (va_up (mapT q x.isM1 m2F x.places) q (-2))) (va_up (mapT q (fun _ => true) x.baseHidden x.hidden) q (x.baseHidden q))) x.baseHorizon : MS) = MS.s_horizon (MS.s_hidden (MS.s_places (MS.s_lasts (MS.s_seriesCount (MS.s_on (MS.s_cod x 0) true) x.baseSeries) (mapT x.baseSeries (fun _ => true) x.baseLasts x.lasts)) (mapT (q + 1) x.isM1 m2F x.places)) (mapT (q + 1) (fun _ => true) x.baseHidden x.hidden)) x.baseHorizon := by rw [show (mapT (q + 1) (fun _ => true) x.baseHidden x.hidden) = (va_up (mapT q (fun _ => true) x.baseHidden x.hidden) q (x.baseHidden q)) from (mapT_t rfl rfl), show (mapT (q + 1) x.isM1 m2F x.places) = (va_up (mapT q x.isM1 m2F x.places) q (-2)) from (mapT_t (decide_eq_true g16) rfl)] <;> rfl
            exact ih76 _ (by omega) (q + 1) (by omega) rfl H _ ls (cvP e9 hP) (cvD e9 hD) hS (lv_sub hl [0, 1] rfl)
    have e9 : (MS.s_horizon (MS.s_lasts (MS.s_seriesCount (MS.s_on (MS.s_cod x 0) true) x.baseSeries) (mapT x.baseSeries (fun _ => true) x.baseLasts x.lasts)) x.baseHorizon : MS) = MS.s_horizon (MS.s_hidden (MS.s_places (MS.s_lasts (MS.s_seriesCount (MS.s_on (MS.s_cod x 0) true) x.baseSeries) (mapT x.baseSeries (fun _ => true) x.baseLasts x.lasts)) (mapT 0 x.isM1 m2F x.places)) (mapT 0 (fun _ => true) x.baseHidden x.hidden)) x.baseHorizon := by rw [show (mapT 0 (fun _ => true) x.baseHidden x.hidden) = x.hidden from (mapT_0 _ _ _), show (mapT 0 x.isM1 m2F x.places) = x.places from (mapT_0 _ _ _)] <;> rfl
    exact L76 _ 0 (Nat.zero_le _) rfl H _ ls (cvP e9 hP) (cvD e9 hD) hS (lv_sub hl [0, 1] rfl)
  refine lv_iconst (v := 0) hx hb d_M_start_46 (by decide) ?_
  refine lv_istore_n hx hb d_M_start_47 rfl hl (by decide) rfl (fun ls hl => ?_)
  have hl : lv_has ls 2 [(1, .int 0), (0, .ref h)] := hl
  have L48 : ∀ (k9 : Nat) (k : Nat) (k1 : k ≤ x.baseSeries) (hk9 : x.baseSeries - k = k9), ∀ (H : Heap) (locs : List Loc) (ls : Array Slot) (hP : va_P D vwCl (MW dA h ad (MS.s_horizon (MS.s_lasts (MS.s_seriesCount (MS.s_on (MS.s_cod x 0) true) x.baseSeries) (mapT k (fun _ => true) x.baseLasts x.lasts)) x.baseHorizon)) H) (hD : va_D A (MW dA h ad (MS.s_horizon (MS.s_lasts (MS.s_seriesCount (MS.s_on (MS.s_cod x 0) true) x.baseSeries) (mapT k (fun _ => true) x.baseLasts x.lasts)) x.baseHorizon))) (hS : va_S A s.heap H locs) (hl : lv_has ls 2 [(1, .int (nI k)), (0, .ref h)]), W p l e ({ frames := 3, cells := 0, slots := 0, locals := 48 } : Room) s m ([.ref h] : List Value).toArray below meth c H locs 0 0 (MQ below (va_Qi (fun (r9 : Int32) (u9 : MS) => r9 = nI x.kept ∧ u9 = x.st2.rpS fN x.kept) (fun (u9 : MS) t9 => bW D A (MW dA h ad u9) t9) A) ([.ref h] : List Value).toArray s 0 0 A) (F0 m 48 ls []) := by
    intro k9
    induction k9 using Nat.strongRecOn with
    | ind k9 ih48 =>
      intro k k1 hk9 H locs ls hP hD hS hl
      refine lv_iload_n hx hb d_M_start_48 rfl (lv_at hl 0 rfl) ?_
      refine lv_aload_n hx hb d_M_start_49 rfl (lv_at hl 1 rfl) ?_
      refine gF (v := .int (nI x.baseSeries)) hx hb hown hE hK hP 0 rfl rfl layM 12 (by decide) w332 rfl d_M_start_50 ?_
      refine lv_icmp_ge hx hb d_M_start_53 (tgt := 74) rfl (fun g17 => ?_) (fun g17 => ?_)
      · have g17 := (nI_leI (a := x.baseSeries) (b := k) (by omega) (by omega)).mp g17
        have e9 : (MS.s_horizon (MS.s_lasts (MS.s_seriesCount (MS.s_on (MS.s_cod x 0) true) x.baseSeries) (mapT k (fun _ => true) x.baseLasts x.lasts)) x.baseHorizon : MS) = MS.s_horizon (MS.s_lasts (MS.s_seriesCount (MS.s_on (MS.s_cod x 0) true) x.baseSeries) (mapT x.baseSeries (fun _ => true) x.baseLasts x.lasts)) x.baseHorizon := by rw [show (mapT x.baseSeries (fun _ => true) x.baseLasts x.lasts) = (mapT k (fun _ => true) x.baseLasts x.lasts) from (by rw [show k = x.baseSeries by omega])] <;> rfl
        exact J74  H _ ls (cvP e9 hP) (cvD e9 hD) hS (lv_sub hl [1] rfl)
      · have g17 := mt (nI_leI (a := x.baseSeries) (b := k) (by omega) (by omega)).mpr g17
        refine lv_aload_n hx hb d_M_start_56 rfl (lv_at hl 1 rfl) ?_
        refine gF (v := .ref (ad 13)) hx hb hown hE hK hP 0 rfl rfl layM 13 (by decide) w501 rfl d_M_start_57 ?_
        refine lv_iload_n hx hb d_M_start_60 rfl (lv_at hl 0 rfl) ?_
        refine lv_aload_n hx hb d_M_start_61 rfl (lv_at hl 1 rfl) ?_
        refine gF (v := .ref (ad 15)) hx hb hown hE hK hP 0 rfl rfl layM 15 (by decide) w502 rfl d_M_start_62 ?_
        refine lv_iload_n hx hb d_M_start_65 rfl (lv_at hl 0 rfl) ?_
        refine nlld (f := x.baseLasts) hx hb hK hP 5 2 rfl rfl (k) (by omega) (by decide) d_M_start_66 ?_
        refine nlst hx hb hK hP hD hS 4 2 rfl rfl (k) (by omega) (by decide) d_M_start_67 (fun H locs hP hD hS => ?_)
        have hP : va_P D vwCl (MW dA h ad (MS.s_horizon (MS.s_lasts (MS.s_seriesCount (MS.s_on (MS.s_cod x 0) true) x.baseSeries) (va_up (mapT k (fun _ => true) x.baseLasts x.lasts) k (x.baseLasts k))) x.baseHorizon)) H := hP
        have hD : va_D A (MW dA h ad (MS.s_horizon (MS.s_lasts (MS.s_seriesCount (MS.s_on (MS.s_cod x 0) true) x.baseSeries) (va_up (mapT k (fun _ => true) x.baseLasts x.lasts) k (x.baseLasts k))) x.baseHorizon)) := hD
        refine lv_iinc (k := 0) (v := nI (k + 1)) hx hb d_M_start_68 hl rfl (iincN (k) 1 1 (by decide)) (by decide) rfl (fun ls hl => ?_)
        have hl : lv_has ls 2 [(1, .int (nI (k + 1))), (0, .ref h)] := hl
        refine lv_goto hx hb d_M_start_71 (tgt := 48) rfl ?_
        have e9 : (MS.s_horizon (MS.s_lasts (MS.s_seriesCount (MS.s_on (MS.s_cod x 0) true) x.baseSeries) (va_up (mapT k (fun _ => true) x.baseLasts x.lasts) k (x.baseLasts k))) x.baseHorizon : MS) = MS.s_horizon (MS.s_lasts (MS.s_seriesCount (MS.s_on (MS.s_cod x 0) true) x.baseSeries) (mapT (k + 1) (fun _ => true) x.baseLasts x.lasts)) x.baseHorizon := by rw [show (mapT (k + 1) (fun _ => true) x.baseLasts x.lasts) = (va_up (mapT k (fun _ => true) x.baseLasts x.lasts) k (x.baseLasts k)) from (mapT_t rfl rfl)] <;> rfl
        exact ih48 _ (by omega) (k + 1) (by omega) rfl H _ ls (cvP e9 hP) (cvD e9 hD) hS (lv_sub hl [0, 1] rfl)
  have e9 : (MS.s_horizon (MS.s_seriesCount (MS.s_on (MS.s_cod x 0) true) x.baseSeries) x.baseHorizon : MS) = MS.s_horizon (MS.s_lasts (MS.s_seriesCount (MS.s_on (MS.s_cod x 0) true) x.baseSeries) (mapT 0 (fun _ => true) x.baseLasts x.lasts)) x.baseHorizon := by rw [show (mapT 0 (fun _ => true) x.baseLasts x.lasts) = x.lasts from (mapT_0 _ _ _)] <;> rfl
  exact L48 _ 0 (Nat.zero_le _) rfl H _ ls (cvP e9 hP) (cvD e9 hD) hS (lv_sub hl [0, 1] rfl)
