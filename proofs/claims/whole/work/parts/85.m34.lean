abbrev ktT : Type := (Nat → Nat) × (Nat → Int32) × Nat
def MS.ktV (x : MS) (r k : Nat) : Nat × Nat × Bool := x.vo (x.rowSeries r) (x.nameFroms k) (x.nameLengths k)
def MS.kt1 (x : MS) (r k : Nat) (g : ktT) : ktT := (va_up g.1 (6 * r + k) (x.ktV r k).2.1, cpG x.texts g.2.1 (x.ktV r k).1 ((6 * r + k) * 24) (x.ktV r k).2.1, (x.ktV r k).2.1)
/-- k texts of row r kept, r rows' texts kept -/
def MS.ktK (x : MS) (r : Nat) (g : ktT) : Nat → ktT
  | 0 => g
  | k + 1 => x.kt1 r k (x.ktK r g k)
def MS.ktR (x : MS) : Nat → ktT
  | 0 => (x.rowLengths, x.rowTexts, x.valueLength)
  | r + 1 => x.ktK r (x.ktR r) (x.tableNames 0)
theorem kt_k {x : MS} {r k v : Nat} {g : ktT} {rl : Nat → Nat} {rt : Nat → Int32} (h : x.ktK r g k = (rl, rt, v)) : x.ktK r g (k + 1) = (va_up rl (6 * r + k) (x.ktV r k).2.1, cpG x.texts rt (x.ktV r k).1 ((6 * r + k) * 24) (x.ktV r k).2.1, (x.ktV r k).2.1) := by
  show x.kt1 r k (x.ktK r g k) = _
  rw [h]
  rfl
theorem kt_r {x : MS} {r v : Nat} {rl : Nat → Nat} {rt : Nat → Int32} (h : x.ktR r = (rl, rt, v)) : x.ktR (r + 1) = x.ktK r (rl, rt, v) (x.tableNames 0) := by
  show x.ktK r (x.ktR r) (x.tableNames 0) = _
  rw [h]
/-- k of f's places from a on copied to g's from b on -/
def cpA {α : Type} (f g : Nat → α) (a b : Nat) : Nat → Nat → α
  | 0 => g
  | j + 1 => va_up (cpA f g a b j) (b + j) (f (a + j))
/-- r rows of w cells shown -/
def shG {α : Type} (f g : Nat → α) (w : Nat) : Nat → Nat → α
  | 0 => g
  | r + 1 => cpA f (shG f g w r) (cA 0 r) (64 * r) w
theorem d_M_keepTable_0 : decode prog_14_method_90_code 0 = .ok (.aload_n 0, 1) := by decide +kernel
theorem d_M_keepTable_1 : decode prog_14_method_90_code 1 = .ok (.iconst 1, 1) := by decide +kernel
theorem d_M_keepTable_2 : decode prog_14_method_90_code 2 = .ok (.putfield 197, 3) := by decide +kernel
theorem d_M_keepTable_5 : decode prog_14_method_90_code 5 = .ok (.aload_n 0, 1) := by decide +kernel
theorem d_M_keepTable_6 : decode prog_14_method_90_code 6 = .ok (.aload_n 0, 1) := by decide +kernel
theorem d_M_keepTable_7 : decode prog_14_method_90_code 7 = .ok (.getfield 88, 3) := by decide +kernel
theorem d_M_keepTable_10 : decode prog_14_method_90_code 10 = .ok (.iconst 0, 1) := by decide +kernel
theorem d_M_keepTable_11 : decode prog_14_method_90_code 11 = .ok (.iaload, 1) := by decide +kernel
theorem d_M_keepTable_12 : decode prog_14_method_90_code 12 = .ok (.putfield 495, 3) := by decide +kernel
theorem d_M_keepTable_15 : decode prog_14_method_90_code 15 = .ok (.aload_n 0, 1) := by decide +kernel
theorem d_M_keepTable_16 : decode prog_14_method_90_code 16 = .ok (.aload_n 0, 1) := by decide +kernel
theorem d_M_keepTable_17 : decode prog_14_method_90_code 17 = .ok (.getfield 97, 3) := by decide +kernel
theorem d_M_keepTable_20 : decode prog_14_method_90_code 20 = .ok (.iconst 0, 1) := by decide +kernel
theorem d_M_keepTable_21 : decode prog_14_method_90_code 21 = .ok (.iaload, 1) := by decide +kernel
theorem d_M_keepTable_22 : decode prog_14_method_90_code 22 = .ok (.putfield 498, 3) := by decide +kernel
theorem d_M_keepTable_25 : decode prog_14_method_90_code 25 = .ok (.aload_n 0, 1) := by decide +kernel
theorem d_M_keepTable_26 : decode prog_14_method_90_code 26 = .ok (.aload_n 0, 1) := by decide +kernel
theorem d_M_keepTable_27 : decode prog_14_method_90_code 27 = .ok (.getfield 412, 3) := by decide +kernel
theorem d_M_keepTable_30 : decode prog_14_method_90_code 30 = .ok (.putfield 501, 3) := by decide +kernel
theorem d_M_keepTable_33 : decode prog_14_method_90_code 33 = .ok (.iconst 0, 1) := by decide +kernel
theorem d_M_keepTable_34 : decode prog_14_method_90_code 34 = .ok (.istore_n 1, 1) := by decide +kernel
theorem d_M_keepTable_35 : decode prog_14_method_90_code 35 = .ok (.iload_n 1, 1) := by decide +kernel
theorem d_M_keepTable_36 : decode prog_14_method_90_code 36 = .ok (.aload_n 0, 1) := by decide +kernel
theorem d_M_keepTable_37 : decode prog_14_method_90_code 37 = .ok (.getfield 498, 3) := by decide +kernel
theorem d_M_keepTable_40 : decode prog_14_method_90_code 40 = .ok (.if_icmp .ge 167, 3) := by decide +kernel
theorem d_M_keepTable_207 : decode prog_14_method_90_code 207 = .ok (.return_, 1) := by decide +kernel
theorem d_M_keepTable_141 : decode prog_14_method_90_code 141 = .ok (.iconst 0, 1) := by decide +kernel
theorem d_M_keepTable_142 : decode prog_14_method_90_code 142 = .ok (.istore_n 2, 1) := by decide +kernel
theorem d_M_keepTable_143 : decode prog_14_method_90_code 143 = .ok (.iload_n 2, 1) := by decide +kernel
theorem d_M_keepTable_144 : decode prog_14_method_90_code 144 = .ok (.aload_n 0, 1) := by decide +kernel
theorem d_M_keepTable_145 : decode prog_14_method_90_code 145 = .ok (.getfield 412, 3) := by decide +kernel
theorem d_M_keepTable_148 : decode prog_14_method_90_code 148 = .ok (.if_icmp .ge 53, 3) := by decide +kernel
theorem d_M_keepTable_201 : decode prog_14_method_90_code 201 = .ok (.iinc 1 1, 3) := by decide +kernel
theorem d_M_keepTable_204 : decode prog_14_method_90_code 204 = .ok (.goto (-169), 3) := by decide +kernel
theorem d_M_keepTable_151 : decode prog_14_method_90_code 151 = .ok (.aload_n 0, 1) := by decide +kernel
theorem d_M_keepTable_152 : decode prog_14_method_90_code 152 = .ok (.getfield 139, 3) := by decide +kernel
theorem d_M_keepTable_155 : decode prog_14_method_90_code 155 = .ok (.bipush 64, 2) := by decide +kernel
theorem d_M_keepTable_157 : decode prog_14_method_90_code 157 = .ok (.iload_n 1, 1) := by decide +kernel
theorem d_M_keepTable_158 : decode prog_14_method_90_code 158 = .ok (.imul, 1) := by decide +kernel
theorem d_M_keepTable_159 : decode prog_14_method_90_code 159 = .ok (.iload_n 2, 1) := by decide +kernel
theorem d_M_keepTable_160 : decode prog_14_method_90_code 160 = .ok (.iadd, 1) := by decide +kernel
theorem d_M_keepTable_161 : decode prog_14_method_90_code 161 = .ok (.aload_n 0, 1) := by decide +kernel
theorem d_M_keepTable_162 : decode prog_14_method_90_code 162 = .ok (.getfield 104, 3) := by decide +kernel
theorem d_M_keepTable_165 : decode prog_14_method_90_code 165 = .ok (.iconst 0, 1) := by decide +kernel
theorem d_M_keepTable_166 : decode prog_14_method_90_code 166 = .ok (.iload_n 1, 1) := by decide +kernel
theorem d_M_keepTable_167 : decode prog_14_method_90_code 167 = .ok (.iload_n 2, 1) := by decide +kernel
theorem d_M_keepTable_168 : decode prog_14_method_90_code 168 = .ok (.invokestatic 397, 3) := by decide +kernel
theorem d_M_keepTable_171 : decode prog_14_method_90_code 171 = .ok (.laload, 1) := by decide +kernel
theorem d_M_keepTable_172 : decode prog_14_method_90_code 172 = .ok (.lastore, 1) := by decide +kernel
theorem d_M_keepTable_173 : decode prog_14_method_90_code 173 = .ok (.aload_n 0, 1) := by decide +kernel
theorem d_M_keepTable_174 : decode prog_14_method_90_code 174 = .ok (.getfield 142, 3) := by decide +kernel
theorem d_M_keepTable_177 : decode prog_14_method_90_code 177 = .ok (.bipush 64, 2) := by decide +kernel
theorem d_M_keepTable_179 : decode prog_14_method_90_code 179 = .ok (.iload_n 1, 1) := by decide +kernel
theorem d_M_keepTable_180 : decode prog_14_method_90_code 180 = .ok (.imul, 1) := by decide +kernel
theorem d_M_keepTable_181 : decode prog_14_method_90_code 181 = .ok (.iload_n 2, 1) := by decide +kernel
theorem d_M_keepTable_182 : decode prog_14_method_90_code 182 = .ok (.iadd, 1) := by decide +kernel
theorem d_M_keepTable_183 : decode prog_14_method_90_code 183 = .ok (.aload_n 0, 1) := by decide +kernel
theorem d_M_keepTable_184 : decode prog_14_method_90_code 184 = .ok (.getfield 107, 3) := by decide +kernel
theorem d_M_keepTable_187 : decode prog_14_method_90_code 187 = .ok (.iconst 0, 1) := by decide +kernel
theorem d_M_keepTable_188 : decode prog_14_method_90_code 188 = .ok (.iload_n 1, 1) := by decide +kernel
theorem d_M_keepTable_189 : decode prog_14_method_90_code 189 = .ok (.iload_n 2, 1) := by decide +kernel
theorem d_M_keepTable_190 : decode prog_14_method_90_code 190 = .ok (.invokestatic 397, 3) := by decide +kernel
theorem d_M_keepTable_193 : decode prog_14_method_90_code 193 = .ok (.baload, 1) := by decide +kernel
theorem d_M_keepTable_194 : decode prog_14_method_90_code 194 = .ok (.bastore, 1) := by decide +kernel
theorem d_M_keepTable_195 : decode prog_14_method_90_code 195 = .ok (.iinc 2 1, 3) := by decide +kernel
theorem d_M_keepTable_198 : decode prog_14_method_90_code 198 = .ok (.goto (-55), 3) := by decide +kernel
theorem d_M_keepTable_43 : decode prog_14_method_90_code 43 = .ok (.iconst 0, 1) := by decide +kernel
theorem d_M_keepTable_44 : decode prog_14_method_90_code 44 = .ok (.istore_n 2, 1) := by decide +kernel
theorem d_M_keepTable_45 : decode prog_14_method_90_code 45 = .ok (.iload_n 2, 1) := by decide +kernel
theorem d_M_keepTable_46 : decode prog_14_method_90_code 46 = .ok (.aload_n 0, 1) := by decide +kernel
theorem d_M_keepTable_47 : decode prog_14_method_90_code 47 = .ok (.getfield 495, 3) := by decide +kernel
theorem d_M_keepTable_50 : decode prog_14_method_90_code 50 = .ok (.if_icmp .ge 91, 3) := by decide +kernel
theorem d_M_keepTable_53 : decode prog_14_method_90_code 53 = .ok (.aload_n 0, 1) := by decide +kernel
theorem d_M_keepTable_54 : decode prog_14_method_90_code 54 = .ok (.aload_n 0, 1) := by decide +kernel
theorem d_M_keepTable_55 : decode prog_14_method_90_code 55 = .ok (.getfield 100, 3) := by decide +kernel
theorem d_M_keepTable_58 : decode prog_14_method_90_code 58 = .ok (.iload_n 1, 1) := by decide +kernel
theorem d_M_keepTable_59 : decode prog_14_method_90_code 59 = .ok (.iaload, 1) := by decide +kernel
theorem d_M_keepTable_60 : decode prog_14_method_90_code 60 = .ok (.aload_n 0, 1) := by decide +kernel
theorem d_M_keepTable_61 : decode prog_14_method_90_code 61 = .ok (.getfield 91, 3) := by decide +kernel
theorem d_M_keepTable_64 : decode prog_14_method_90_code 64 = .ok (.iload_n 2, 1) := by decide +kernel
theorem d_M_keepTable_65 : decode prog_14_method_90_code 65 = .ok (.iaload, 1) := by decide +kernel
theorem d_M_keepTable_66 : decode prog_14_method_90_code 66 = .ok (.aload_n 0, 1) := by decide +kernel
theorem d_M_keepTable_67 : decode prog_14_method_90_code 67 = .ok (.getfield 94, 3) := by decide +kernel
theorem d_M_keepTable_70 : decode prog_14_method_90_code 70 = .ok (.iload_n 2, 1) := by decide +kernel
theorem d_M_keepTable_71 : decode prog_14_method_90_code 71 = .ok (.iaload, 1) := by decide +kernel
theorem d_M_keepTable_72 : decode prog_14_method_90_code 72 = .ok (.invokevirtual 387, 3) := by decide +kernel
theorem d_M_keepTable_75 : decode prog_14_method_90_code 75 = .ok (.istore_n 3, 1) := by decide +kernel
theorem d_M_keepTable_76 : decode prog_14_method_90_code 76 = .ok (.aload_n 0, 1) := by decide +kernel
theorem d_M_keepTable_77 : decode prog_14_method_90_code 77 = .ok (.getfield 136, 3) := by decide +kernel
theorem d_M_keepTable_80 : decode prog_14_method_90_code 80 = .ok (.bipush 6, 2) := by decide +kernel
theorem d_M_keepTable_82 : decode prog_14_method_90_code 82 = .ok (.iload_n 1, 1) := by decide +kernel
theorem d_M_keepTable_83 : decode prog_14_method_90_code 83 = .ok (.imul, 1) := by decide +kernel
theorem d_M_keepTable_84 : decode prog_14_method_90_code 84 = .ok (.iload_n 2, 1) := by decide +kernel
theorem d_M_keepTable_85 : decode prog_14_method_90_code 85 = .ok (.iadd, 1) := by decide +kernel
theorem d_M_keepTable_86 : decode prog_14_method_90_code 86 = .ok (.aload_n 0, 1) := by decide +kernel
theorem d_M_keepTable_87 : decode prog_14_method_90_code 87 = .ok (.getfield 384, 3) := by decide +kernel
theorem d_M_keepTable_90 : decode prog_14_method_90_code 90 = .ok (.iastore, 1) := by decide +kernel
theorem d_M_keepTable_91 : decode prog_14_method_90_code 91 = .ok (.iconst 0, 1) := by decide +kernel
theorem d_M_keepTable_92 : decode prog_14_method_90_code 92 = .ok (.istore 4, 2) := by decide +kernel
theorem d_M_keepTable_94 : decode prog_14_method_90_code 94 = .ok (.iload 4, 2) := by decide +kernel
theorem d_M_keepTable_96 : decode prog_14_method_90_code 96 = .ok (.aload_n 0, 1) := by decide +kernel
theorem d_M_keepTable_97 : decode prog_14_method_90_code 97 = .ok (.getfield 384, 3) := by decide +kernel
theorem d_M_keepTable_100 : decode prog_14_method_90_code 100 = .ok (.if_icmp .ge 35, 3) := by decide +kernel
theorem d_M_keepTable_135 : decode prog_14_method_90_code 135 = .ok (.iinc 2 1, 3) := by decide +kernel
theorem d_M_keepTable_138 : decode prog_14_method_90_code 138 = .ok (.goto (-93), 3) := by decide +kernel
theorem d_M_keepTable_103 : decode prog_14_method_90_code 103 = .ok (.aload_n 0, 1) := by decide +kernel
theorem d_M_keepTable_104 : decode prog_14_method_90_code 104 = .ok (.getfield 133, 3) := by decide +kernel
theorem d_M_keepTable_107 : decode prog_14_method_90_code 107 = .ok (.bipush 6, 2) := by decide +kernel
theorem d_M_keepTable_109 : decode prog_14_method_90_code 109 = .ok (.iload_n 1, 1) := by decide +kernel
theorem d_M_keepTable_110 : decode prog_14_method_90_code 110 = .ok (.imul, 1) := by decide +kernel
theorem d_M_keepTable_111 : decode prog_14_method_90_code 111 = .ok (.iload_n 2, 1) := by decide +kernel
theorem d_M_keepTable_112 : decode prog_14_method_90_code 112 = .ok (.iadd, 1) := by decide +kernel
theorem d_M_keepTable_113 : decode prog_14_method_90_code 113 = .ok (.bipush 24, 2) := by decide +kernel
theorem d_M_keepTable_115 : decode prog_14_method_90_code 115 = .ok (.imul, 1) := by decide +kernel
theorem d_M_keepTable_116 : decode prog_14_method_90_code 116 = .ok (.iload 4, 2) := by decide +kernel
theorem d_M_keepTable_118 : decode prog_14_method_90_code 118 = .ok (.iadd, 1) := by decide +kernel
theorem d_M_keepTable_119 : decode prog_14_method_90_code 119 = .ok (.aload_n 0, 1) := by decide +kernel
theorem d_M_keepTable_120 : decode prog_14_method_90_code 120 = .ok (.getfield 29, 3) := by decide +kernel
theorem d_M_keepTable_123 : decode prog_14_method_90_code 123 = .ok (.iload_n 3, 1) := by decide +kernel
theorem d_M_keepTable_124 : decode prog_14_method_90_code 124 = .ok (.iload 4, 2) := by decide +kernel
theorem d_M_keepTable_126 : decode prog_14_method_90_code 126 = .ok (.iadd, 1) := by decide +kernel
theorem d_M_keepTable_127 : decode prog_14_method_90_code 127 = .ok (.baload, 1) := by decide +kernel
theorem d_M_keepTable_128 : decode prog_14_method_90_code 128 = .ok (.bastore, 1) := by decide +kernel
theorem d_M_keepTable_129 : decode prog_14_method_90_code 129 = .ok (.iinc 4 1, 3) := by decide +kernel
theorem d_M_keepTable_132 : decode prog_14_method_90_code 132 = .ok (.goto (-38), 3) := by decide +kernel
set_option maxHeartbeats 4000000 in
set_option maxRecDepth 100000 in
theorem k_keepTable (l : Launch) (D : va_G) (dA : Nat → ClassId) (sz : Nat) (h : Nat) (ad : Nat → Nat) (x : MS) (rl9 : Nat → Nat) (rt9 : Nat → Int32) (v9 : Nat) (h6 : x.tableNames 0 ≤ 6) (h3 : x.tableRows 0 ≤ 256) (hwi : x.windows ≤ 64) (hra : ∀ q : Nat, q < x.tableRows 0 → x.tableNames 0 = 0 ∨ x.tOK (x.rowSeries q)) (hnm : ∀ k : Nat, k < x.tableNames 0 → x.nameFroms k + x.nameLengths k ≤ 65536) (hby : byteF x.texts) (hkt : x.ktR (x.tableRows 0) = (rl9, rt9, v9)) : Met l ⟨"SeriesVaultModel", "keepTable", "()V"⟩ [Cond.code ⟨"SeriesVaultModel", "keepTable", "()V"⟩ prog_14_method_90_code 5 none] { frames := 2, cells := 0, slots := 0, locals := 29 } (pC D dA [.ref h] (MW dA h ad x) sz) (va_Qv (fun (u9 : Unit) => True) (fun (u9 : Unit) t9 => bW D (va_A (MW dA h ad x) sz) (MW dA h ad (MS.s_isShown (MS.s_shown (MS.s_rowLengths (MS.s_rowTexts (MS.s_shownWindows (MS.s_rows (MS.s_names (MS.s_isTable (MS.s_valueLength x v9) true) (x.tableNames 0)) (x.tableRows 0)) x.windows) rt9) rl9) (shG x.cells x.shown x.windows (x.tableRows 0))) (shG x.isCell x.isShown x.windows (x.tableRows 0)))) t9) (va_A (MW dA h ad x) sz)) 0 0 (va_A (MW dA h ad x) sz) := by
  refine mkC (y := ⟨"SeriesVaultModel", "keepTable", "()V"⟩) (cc := prog_14_method_90_code) (maxL := 5) (av := [.ref h]) (ws := MW dA h ad x) (sz := sz) (Qc := fun A => va_Qv (fun (u9 : Unit) => True) (fun (u9 : Unit) t9 => bW D A (MW dA h ad (MS.s_isShown (MS.s_shown (MS.s_rowLengths (MS.s_rowTexts (MS.s_shownWindows (MS.s_rows (MS.s_names (MS.s_isTable (MS.s_valueLength x v9) true) (x.tableNames 0)) (x.tableRows 0)) x.windows) rt9) rl9) (shG x.cells x.shown x.windows (x.tableRows 0))) (shG x.isCell x.isShown x.windows (x.tableRows 0)))) t9) A) (by decide) (Nat.le_of_ble_eq_true rfl) ?_
  intro A p e s m below meth c ls hsz hB
  obtain ⟨hx, hb, hr, hml, hown, hin, hlk, hE, hK, hP, hD, hS, hA, hN, hl⟩ := hB
  have hown : s.vm.findClass "SeriesVaultModel" = some m.cls := hown
  have hl : lv_has ls 5 [(0, .ref h)] := hl
  obtain ⟨H, hH⟩ : ∃ z, z = s.heap := ⟨_, rfl⟩
  have hP : va_P D vwCl (MW dA h ad x) H := by rw [hH]; exact hP
  have hS : va_S A s.heap H [] := by rw [hH]; exact hS
  rw [← hH]
  refine lv_aload_n hx hb d_M_keepTable_0 rfl (lv_at hl 0 rfl) ?_
  refine lv_iconst (v := 1) hx hb d_M_keepTable_1 (by decide) ?_
  refine pF (v := .int (bI true)) hx hb hown hE hK hP hD hS 0 rfl rfl layM tyM tokM nmM 71 (by decide) w326 rfl (bI_nar true) (bI_fit true) (Nat.le_of_ble_eq_true rfl) d_M_keepTable_2 (fun H locs hP hD hS => ?_)
  have hP : va_P D vwCl (MW dA h ad (MS.s_isTable x true)) H := hP
  have hD : va_D A (MW dA h ad (MS.s_isTable x true)) := hD
  refine lv_aload_n hx hb d_M_keepTable_5 rfl (lv_at hl 0 rfl) ?_
  refine lv_aload_n hx hb d_M_keepTable_6 rfl (lv_at hl 0 rfl) ?_
  refine gF (v := .ref (ad 48)) hx hb hown hE hK hP 0 rfl rfl layM 48 (by decide) w518 rfl d_M_keepTable_7 ?_
  refine lv_iconst (v := 0) hx hb d_M_keepTable_10 (by decide) ?_
  refine nild (f := (fun z9 => nI (x.tableNames z9))) hx hb hK hP 21 1 rfl rfl (0) (by omega) (by decide) d_M_keepTable_11 ?_
  refine pF (v := .int (nI (x.tableNames 0))) hx hb hown hE hK hP hD hS 0 rfl rfl layM tyM tokM nmM 72 (by decide) w950 rfl rfl rfl (Nat.le_of_ble_eq_true rfl) d_M_keepTable_12 (fun H locs hP hD hS => ?_)
  have hP : va_P D vwCl (MW dA h ad (MS.s_names (MS.s_isTable x true) (x.tableNames 0))) H := hP
  have hD : va_D A (MW dA h ad (MS.s_names (MS.s_isTable x true) (x.tableNames 0))) := hD
  refine lv_aload_n hx hb d_M_keepTable_15 rfl (lv_at hl 0 rfl) ?_
  refine lv_aload_n hx hb d_M_keepTable_16 rfl (lv_at hl 0 rfl) ?_
  refine gF (v := .ref (ad 51)) hx hb hown hE hK hP 0 rfl rfl layM 51 (by decide) w521 rfl d_M_keepTable_17 ?_
  refine lv_iconst (v := 0) hx hb d_M_keepTable_20 (by decide) ?_
  refine nild (f := (fun z9 => nI (x.tableRows z9))) hx hb hK hP 24 1 rfl rfl (0) (by omega) (by decide) d_M_keepTable_21 ?_
  refine pF (v := .int (nI (x.tableRows 0))) hx hb hown hE hK hP hD hS 0 rfl rfl layM tyM tokM nmM 73 (by decide) w951 rfl rfl rfl (Nat.le_of_ble_eq_true rfl) d_M_keepTable_22 (fun H locs hP hD hS => ?_)
  have hP : va_P D vwCl (MW dA h ad (MS.s_rows (MS.s_names (MS.s_isTable x true) (x.tableNames 0)) (x.tableRows 0))) H := hP
  have hD : va_D A (MW dA h ad (MS.s_rows (MS.s_names (MS.s_isTable x true) (x.tableNames 0)) (x.tableRows 0))) := hD
  refine lv_aload_n hx hb d_M_keepTable_25 rfl (lv_at hl 0 rfl) ?_
  refine lv_aload_n hx hb d_M_keepTable_26 rfl (lv_at hl 0 rfl) ?_
  refine gF (v := .int (nI x.windows)) hx hb hown hE hK hP 0 rfl rfl layM 59 (by decide) w489 rfl d_M_keepTable_27 ?_
  refine pF (v := .int (nI x.windows)) hx hb hown hE hK hP hD hS 0 rfl rfl layM tyM tokM nmM 74 (by decide) w952 rfl rfl rfl (Nat.le_of_ble_eq_true rfl) d_M_keepTable_30 (fun H locs hP hD hS => ?_)
  have hP : va_P D vwCl (MW dA h ad (MS.s_shownWindows (MS.s_rows (MS.s_names (MS.s_isTable x true) (x.tableNames 0)) (x.tableRows 0)) x.windows)) H := hP
  have hD : va_D A (MW dA h ad (MS.s_shownWindows (MS.s_rows (MS.s_names (MS.s_isTable x true) (x.tableNames 0)) (x.tableRows 0)) x.windows)) := hD
  refine lv_iconst (v := 0) hx hb d_M_keepTable_33 (by decide) ?_
  refine lv_istore_n hx hb d_M_keepTable_34 rfl hl (by decide) rfl (fun ls hl => ?_)
  have hl : lv_has ls 5 [(1, .int 0), (0, .ref h)] := hl
  have L35 : ∀ (k9 : Nat) (r : Nat) (rl : Nat → Nat) (rt : Nat → Int32) (v : Nat) (i1 : r ≤ x.tableRows 0) (i2 : x.ktR r = (rl, rt, v)) (hk9 : x.tableRows 0 - r = k9), ∀ (H : Heap) (locs : List Loc) (ls : Array Slot) (hP : va_P D vwCl (MW dA h ad (MS.s_isShown (MS.s_shown (MS.s_rowLengths (MS.s_rowTexts (MS.s_shownWindows (MS.s_rows (MS.s_names (MS.s_isTable (MS.s_valueLength x v) true) (x.tableNames 0)) (x.tableRows 0)) x.windows) rt) rl) (shG x.cells x.shown x.windows r)) (shG x.isCell x.isShown x.windows r))) H) (hD : va_D A (MW dA h ad (MS.s_isShown (MS.s_shown (MS.s_rowLengths (MS.s_rowTexts (MS.s_shownWindows (MS.s_rows (MS.s_names (MS.s_isTable (MS.s_valueLength x v) true) (x.tableNames 0)) (x.tableRows 0)) x.windows) rt) rl) (shG x.cells x.shown x.windows r)) (shG x.isCell x.isShown x.windows r)))) (hS : va_S A s.heap H locs) (hl : lv_has ls 5 [(1, .int (nI r)), (0, .ref h)]), W p l e ({ frames := 2, cells := 0, slots := 0, locals := 29 } : Room) s m ([.ref h] : List Value).toArray below meth c H locs 0 0 (MQ below (va_Qv (fun (u9 : Unit) => True) (fun (u9 : Unit) t9 => bW D A (MW dA h ad (MS.s_isShown (MS.s_shown (MS.s_rowLengths (MS.s_rowTexts (MS.s_shownWindows (MS.s_rows (MS.s_names (MS.s_isTable (MS.s_valueLength x v9) true) (x.tableNames 0)) (x.tableRows 0)) x.windows) rt9) rl9) (shG x.cells x.shown x.windows (x.tableRows 0))) (shG x.isCell x.isShown x.windows (x.tableRows 0)))) t9) A) ([.ref h] : List Value).toArray s 0 0 A) (F0 m 35 ls []) := by
    intro k9
    induction k9 using Nat.strongRecOn with
    | ind k9 ih35 =>
      intro r rl rt v i1 i2 hk9 H locs ls hP hD hS hl
      refine lv_iload_n hx hb d_M_keepTable_35 rfl (lv_at hl 0 rfl) ?_
      refine lv_aload_n hx hb d_M_keepTable_36 rfl (lv_at hl 1 rfl) ?_
      refine gF (v := .int (nI (x.tableRows 0))) hx hb hown hE hK hP 0 rfl rfl layM 73 (by decide) w951 rfl d_M_keepTable_37 ?_
      refine lv_icmp_ge hx hb d_M_keepTable_40 (tgt := 207) rfl (fun g1 => ?_) (fun g1 => ?_)
      · have g1 := (nI_leI (a := x.tableRows 0) (b := r) (by omega) (by omega)).mp g1
        have e9 : (MS.s_isShown (MS.s_shown (MS.s_rowLengths (MS.s_rowTexts (MS.s_shownWindows (MS.s_rows (MS.s_names (MS.s_isTable (MS.s_valueLength x v) true) (x.tableNames 0)) (x.tableRows 0)) x.windows) rt) rl) (shG x.cells x.shown x.windows r)) (shG x.isCell x.isShown x.windows r) : MS) = MS.s_isShown (MS.s_shown (MS.s_rowLengths (MS.s_rowTexts (MS.s_shownWindows (MS.s_rows (MS.s_names (MS.s_isTable (MS.s_valueLength x v9) true) (x.tableNames 0)) (x.tableRows 0)) x.windows) rt9) rl9) (shG x.cells x.shown x.windows (x.tableRows 0))) (shG x.isCell x.isShown x.windows (x.tableRows 0)) := by rw [show (shG x.isCell x.isShown x.windows (x.tableRows 0)) = (shG x.isCell x.isShown x.windows r) from by (rw [show x.tableRows 0 = r by omega]), show (shG x.cells x.shown x.windows (x.tableRows 0)) = (shG x.cells x.shown x.windows r) from by (rw [show x.tableRows 0 = r by omega]), show rl9 = rl from by (exact congrArg (fun z => z.1) (hkt.symm.trans ((congrArg x.ktR (show x.tableRows 0 = r by omega)).trans i2))), show rt9 = rt from by (exact congrArg (fun z => z.2.1) (hkt.symm.trans ((congrArg x.ktR (show x.tableRows 0 = r by omega)).trans i2))), show v9 = v from by (exact congrArg (fun z => z.2.2) (hkt.symm.trans ((congrArg x.ktR (show x.tableRows 0 = r by omega)).trans i2)))] <;> rfl
        exact rfV hx hb hr hlk hS () trivial (cvP e9 hP) (cvD e9 hD) (Nat.le_of_ble_eq_true rfl) (Nat.le_of_ble_eq_true rfl) d_M_keepTable_207
      · have g1 := mt (nI_leI (a := x.tableRows 0) (b := r) (by omega) (by omega)).mpr g1
        have J141 : ∀ (rl2 : Nat → Nat) (rt2 : Nat → Int32) (v2 : Nat) (kk9 : x.ktK r (rl, rt, v) (x.tableNames 0) = (rl2, rt2, v2)), ∀ (H : Heap) (locs : List Loc) (ls : Array Slot) (hP : va_P D vwCl (MW dA h ad (MS.s_isShown (MS.s_shown (MS.s_rowLengths (MS.s_rowTexts (MS.s_shownWindows (MS.s_rows (MS.s_names (MS.s_isTable (MS.s_valueLength x v2) true) (x.tableNames 0)) (x.tableRows 0)) x.windows) rt2) rl2) (shG x.cells x.shown x.windows r)) (shG x.isCell x.isShown x.windows r))) H) (hD : va_D A (MW dA h ad (MS.s_isShown (MS.s_shown (MS.s_rowLengths (MS.s_rowTexts (MS.s_shownWindows (MS.s_rows (MS.s_names (MS.s_isTable (MS.s_valueLength x v2) true) (x.tableNames 0)) (x.tableRows 0)) x.windows) rt2) rl2) (shG x.cells x.shown x.windows r)) (shG x.isCell x.isShown x.windows r)))) (hS : va_S A s.heap H locs) (hl : lv_has ls 5 [(1, .int (nI r)), (0, .ref h)]), W p l e ({ frames := 2, cells := 0, slots := 0, locals := 29 } : Room) s m ([.ref h] : List Value).toArray below meth c H locs 0 0 (MQ below (va_Qv (fun (u9 : Unit) => True) (fun (u9 : Unit) t9 => bW D A (MW dA h ad (MS.s_isShown (MS.s_shown (MS.s_rowLengths (MS.s_rowTexts (MS.s_shownWindows (MS.s_rows (MS.s_names (MS.s_isTable (MS.s_valueLength x v9) true) (x.tableNames 0)) (x.tableRows 0)) x.windows) rt9) rl9) (shG x.cells x.shown x.windows (x.tableRows 0))) (shG x.isCell x.isShown x.windows (x.tableRows 0)))) t9) A) ([.ref h] : List Value).toArray s 0 0 A) (F0 m 141 ls []) := by
          intro rl2 rt2 v2 kk9 H locs ls hP hD hS hl
          refine lv_iconst (v := 0) hx hb d_M_keepTable_141 (by decide) ?_
          refine lv_istore_n hx hb d_M_keepTable_142 rfl hl (by decide) rfl (fun ls hl => ?_)
          have hl : lv_has ls 5 [(2, .int 0), (1, .int (nI r)), (0, .ref h)] := hl
          have L143 : ∀ (k9 : Nat) (w : Nat) (w1 : w ≤ x.windows) (hk9 : x.windows - w = k9), ∀ (H : Heap) (locs : List Loc) (ls : Array Slot) (hP : va_P D vwCl (MW dA h ad (MS.s_isShown (MS.s_shown (MS.s_rowLengths (MS.s_rowTexts (MS.s_shownWindows (MS.s_rows (MS.s_names (MS.s_isTable (MS.s_valueLength x v2) true) (x.tableNames 0)) (x.tableRows 0)) x.windows) rt2) rl2) (cpA x.cells (shG x.cells x.shown x.windows r) (cA 0 r) (64 * r) w)) (cpA x.isCell (shG x.isCell x.isShown x.windows r) (cA 0 r) (64 * r) w))) H) (hD : va_D A (MW dA h ad (MS.s_isShown (MS.s_shown (MS.s_rowLengths (MS.s_rowTexts (MS.s_shownWindows (MS.s_rows (MS.s_names (MS.s_isTable (MS.s_valueLength x v2) true) (x.tableNames 0)) (x.tableRows 0)) x.windows) rt2) rl2) (cpA x.cells (shG x.cells x.shown x.windows r) (cA 0 r) (64 * r) w)) (cpA x.isCell (shG x.isCell x.isShown x.windows r) (cA 0 r) (64 * r) w)))) (hS : va_S A s.heap H locs) (hl : lv_has ls 5 [(2, .int (nI w)), (1, .int (nI r)), (0, .ref h)]), W p l e ({ frames := 2, cells := 0, slots := 0, locals := 29 } : Room) s m ([.ref h] : List Value).toArray below meth c H locs 0 0 (MQ below (va_Qv (fun (u9 : Unit) => True) (fun (u9 : Unit) t9 => bW D A (MW dA h ad (MS.s_isShown (MS.s_shown (MS.s_rowLengths (MS.s_rowTexts (MS.s_shownWindows (MS.s_rows (MS.s_names (MS.s_isTable (MS.s_valueLength x v9) true) (x.tableNames 0)) (x.tableRows 0)) x.windows) rt9) rl9) (shG x.cells x.shown x.windows (x.tableRows 0))) (shG x.isCell x.isShown x.windows (x.tableRows 0)))) t9) A) ([.ref h] : List Value).toArray s 0 0 A) (F0 m 143 ls []) := by
            intro k9
            induction k9 using Nat.strongRecOn with
            | ind k9 ih143 =>
              intro w w1 hk9 H locs ls hP hD hS hl
              refine lv_iload_n hx hb d_M_keepTable_143 rfl (lv_at hl 0 rfl) ?_
              refine lv_aload_n hx hb d_M_keepTable_144 rfl (lv_at hl 2 rfl) ?_
              refine gF (v := .int (nI x.windows)) hx hb hown hE hK hP 0 rfl rfl layM 59 (by decide) w489 rfl d_M_keepTable_145 ?_
              refine lv_icmp_ge hx hb d_M_keepTable_148 (tgt := 201) rfl (fun g2 => ?_) (fun g2 => ?_)
              · have g2 := (nI_leI (a := x.windows) (b := w) (by omega) (by omega)).mp g2
                refine lv_iinc (k := 1) (v := nI (r + 1)) hx hb d_M_keepTable_201 hl rfl (iincN (r) 1 1 (by decide)) (by decide) rfl (fun ls hl => ?_)
                have hl : lv_has ls 5 [(1, .int (nI (r + 1))), (2, .int (nI w)), (0, .ref h)] := hl
                refine lv_goto hx hb d_M_keepTable_204 (tgt := 35) rfl ?_
                have e9 : (MS.s_isShown (MS.s_shown (MS.s_rowLengths (MS.s_rowTexts (MS.s_shownWindows (MS.s_rows (MS.s_names (MS.s_isTable (MS.s_valueLength x v2) true) (x.tableNames 0)) (x.tableRows 0)) x.windows) rt2) rl2) (cpA x.cells (shG x.cells x.shown x.windows r) (cA 0 r) (64 * r) w)) (cpA x.isCell (shG x.isCell x.isShown x.windows r) (cA 0 r) (64 * r) w) : MS) = MS.s_isShown (MS.s_shown (MS.s_rowLengths (MS.s_rowTexts (MS.s_shownWindows (MS.s_rows (MS.s_names (MS.s_isTable (MS.s_valueLength x v2) true) (x.tableNames 0)) (x.tableRows 0)) x.windows) rt2) rl2) (shG x.cells x.shown x.windows (r + 1))) (shG x.isCell x.isShown x.windows (r + 1)) := by rw [show (shG x.isCell x.isShown x.windows (r + 1)) = (cpA x.isCell (shG x.isCell x.isShown x.windows r) (cA 0 r) (64 * r) w) from (by rw [show w = x.windows by omega]; rfl), show (shG x.cells x.shown x.windows (r + 1)) = (cpA x.cells (shG x.cells x.shown x.windows r) (cA 0 r) (64 * r) w) from (by rw [show w = x.windows by omega]; rfl)] <;> rfl
                exact ih35 _ (by omega) (r + 1) rl2 rt2 v2 (by omega) ((kt_r i2).trans kk9) rfl H _ ls (cvP e9 hP) (cvD e9 hD) hS (lv_sub hl [0, 2] rfl)
              · have g2 := mt (nI_leI (a := x.windows) (b := w) (by omega) (by omega)).mpr g2
                refine lv_aload_n hx hb d_M_keepTable_151 rfl (lv_at hl 2 rfl) ?_
                refine gF (v := .ref (ad 77)) hx hb hown hE hK hP 0 rfl rfl layM 77 (by decide) w537 rfl d_M_keepTable_152 ?_
                refine lv_bipush (v := 64) hx hb d_M_keepTable_155 (by decide) ?_
                refine lv_iload_n hx hb d_M_keepTable_157 rfl (lv_at hl 1 rfl) ?_
                refine lv_imul hx hb d_M_keepTable_158 (tpi (y := nI (64 * r)) (pk_mul (64) (r)) ?_)
                refine lv_iload_n hx hb d_M_keepTable_159 rfl (lv_at hl 0 rfl) ?_
                refine lv_iadd hx hb d_M_keepTable_160 (tpi (y := nI ((64 * r) + w)) (nI_add (64 * r) (w)) ?_)
                refine lv_aload_n hx hb d_M_keepTable_161 rfl (lv_at hl 2 rfl) ?_
                refine gF (v := .ref (ad 53)) hx hb hown hE hK hP 0 rfl rfl layM 53 (by decide) w524 rfl d_M_keepTable_162 ?_
                refine lv_iconst (v := 0) hx hb d_M_keepTable_165 (by decide) ?_
                refine lv_iload_n hx hb d_M_keepTable_166 rfl (lv_at hl 1 rfl) ?_
                refine lv_iload_n hx hb d_M_keepTable_167 rfl (lv_at hl 0 rfl) ?_
                have hPc := hP.sub (ws' := []) [] rfl
                have hDc := hD.sub (ws' := []) [] (by decide) rfl
                refine jnI (rnS (As := [.int 0, .int (nI r), .int (nI w)]) (rest := [.ref (ad 53), .int (nI ((64 * r) + w)), .ref (ad 77)]) hx hb hml hown hE hK (hN _ _ hS) hPc hDc (k_cellAt l D dA H.size 0 r w) w971 w970 w972 w328 rfl rfl ⟨⟨by decide, by decide⟩, rfl⟩ ⟨(Nat.le_of_ble_eq_true rfl), (Nat.le_of_ble_eq_true rfl)⟩ rfl hl.1 rfl (Nat.le_of_ble_eq_true rfl) d_M_keepTable_168 ⟨(Nat.le_of_ble_eq_true rfl), (Nat.le_of_ble_eq_true rfl)⟩) hP hD hS hA [] [0, 1, 2, 3, 4, 5, 6, 7, 8, 9, 10, 11, 12, 13, 14, 15, 16, 17, 18, 19, 20, 21, 22, 23, 24, 25, 26, 27, 28, 29, 30, 31, 32, 33, 34, 35, 36, 37, 38] (wr := MW dA h ad (MS.s_isShown (MS.s_shown (MS.s_rowLengths (MS.s_rowTexts (MS.s_shownWindows (MS.s_rows (MS.s_names (MS.s_isTable (MS.s_valueLength x v2) true) (x.tableNames 0)) (x.tableRows 0)) x.windows) rt2) rl2) (cpA x.cells (shG x.cells x.shown x.windows r) (cA 0 r) (64 * r) w)) (cpA x.isCell (shG x.isCell x.isShown x.windows r) (cA 0 r) (64 * r) w))) rfl rfl (by decide) (by decide) (fun r3 u9 H locs hp9 hP hD hS => ?_)
                have hP : va_P D vwCl (MW dA h ad (MS.s_isShown (MS.s_shown (MS.s_rowLengths (MS.s_rowTexts (MS.s_shownWindows (MS.s_rows (MS.s_names (MS.s_isTable (MS.s_valueLength x v2) true) (x.tableNames 0)) (x.tableRows 0)) x.windows) rt2) rl2) (cpA x.cells (shG x.cells x.shown x.windows r) (cA 0 r) (64 * r) w)) (cpA x.isCell (shG x.isCell x.isShown x.windows r) (cA 0 r) (64 * r) w))) H := hP
                have hD : va_D A (MW dA h ad (MS.s_isShown (MS.s_shown (MS.s_rowLengths (MS.s_rowTexts (MS.s_shownWindows (MS.s_rows (MS.s_names (MS.s_isTable (MS.s_valueLength x v2) true) (x.tableNames 0)) (x.tableRows 0)) x.windows) rt2) rl2) (cpA x.cells (shG x.cells x.shown x.windows r) (cA 0 r) (64 * r) w)) (cpA x.isCell (shG x.isCell x.isShown x.windows r) (cA 0 r) (64 * r) w))) := hD
                replace hp9 : nI ((0 * 256 + r) * 64 + w) = r3 := Eq.symm hp9
                subst hp9
                refine nlld (f := x.cells) hx hb hK hP 26 2 rfl rfl ((0 * 256 + r) * 64 + w) (by omega) (by decide) d_M_keepTable_171 ?_
                refine nlst hx hb hK hP hD hS 37 2 rfl rfl ((64 * r) + w) (by omega) (by decide) d_M_keepTable_172 (fun H locs hP hD hS => ?_)
                have hP : va_P D vwCl (MW dA h ad (MS.s_isShown (MS.s_shown (MS.s_rowLengths (MS.s_rowTexts (MS.s_shownWindows (MS.s_rows (MS.s_names (MS.s_isTable (MS.s_valueLength x v2) true) (x.tableNames 0)) (x.tableRows 0)) x.windows) rt2) rl2) (va_up (cpA x.cells (shG x.cells x.shown x.windows r) (cA 0 r) (64 * r) w) ((64 * r) + w) (x.cells ((0 * 256 + r) * 64 + w)))) (cpA x.isCell (shG x.isCell x.isShown x.windows r) (cA 0 r) (64 * r) w))) H := hP
                have hD : va_D A (MW dA h ad (MS.s_isShown (MS.s_shown (MS.s_rowLengths (MS.s_rowTexts (MS.s_shownWindows (MS.s_rows (MS.s_names (MS.s_isTable (MS.s_valueLength x v2) true) (x.tableNames 0)) (x.tableRows 0)) x.windows) rt2) rl2) (va_up (cpA x.cells (shG x.cells x.shown x.windows r) (cA 0 r) (64 * r) w) ((64 * r) + w) (x.cells ((0 * 256 + r) * 64 + w)))) (cpA x.isCell (shG x.isCell x.isShown x.windows r) (cA 0 r) (64 * r) w))) := hD
                refine lv_aload_n hx hb d_M_keepTable_173 rfl (lv_at hl 2 rfl) ?_
                refine gF (v := .ref (ad 78)) hx hb hown hE hK hP 0 rfl rfl layM 78 (by decide) w538 rfl d_M_keepTable_174 ?_
                refine lv_bipush (v := 64) hx hb d_M_keepTable_177 (by decide) ?_
                refine lv_iload_n hx hb d_M_keepTable_179 rfl (lv_at hl 1 rfl) ?_
                refine lv_imul hx hb d_M_keepTable_180 (tpi (y := nI (64 * r)) (pk_mul (64) (r)) ?_)
                refine lv_iload_n hx hb d_M_keepTable_181 rfl (lv_at hl 0 rfl) ?_
                refine lv_iadd hx hb d_M_keepTable_182 (tpi (y := nI ((64 * r) + w)) (nI_add (64 * r) (w)) ?_)
                refine lv_aload_n hx hb d_M_keepTable_183 rfl (lv_at hl 2 rfl) ?_
                refine gF (v := .ref (ad 54)) hx hb hown hE hK hP 0 rfl rfl layM 54 (by decide) w526 rfl d_M_keepTable_184 ?_
                refine lv_iconst (v := 0) hx hb d_M_keepTable_187 (by decide) ?_
                refine lv_iload_n hx hb d_M_keepTable_188 rfl (lv_at hl 1 rfl) ?_
                refine lv_iload_n hx hb d_M_keepTable_189 rfl (lv_at hl 0 rfl) ?_
                have hPc := hP.sub (ws' := []) [] rfl
                have hDc := hD.sub (ws' := []) [] (by decide) rfl
                refine jnI (rnS (As := [.int 0, .int (nI r), .int (nI w)]) (rest := [.ref (ad 54), .int (nI ((64 * r) + w)), .ref (ad 78)]) hx hb hml hown hE hK (hN _ _ hS) hPc hDc (k_cellAt l D dA H.size 0 r w) w971 w970 w972 w328 rfl rfl ⟨⟨by decide, by decide⟩, rfl⟩ ⟨(Nat.le_of_ble_eq_true rfl), (Nat.le_of_ble_eq_true rfl)⟩ rfl hl.1 rfl (Nat.le_of_ble_eq_true rfl) d_M_keepTable_190 ⟨(Nat.le_of_ble_eq_true rfl), (Nat.le_of_ble_eq_true rfl)⟩) hP hD hS hA [] [0, 1, 2, 3, 4, 5, 6, 7, 8, 9, 10, 11, 12, 13, 14, 15, 16, 17, 18, 19, 20, 21, 22, 23, 24, 25, 26, 27, 28, 29, 30, 31, 32, 33, 34, 35, 36, 37, 38] (wr := MW dA h ad (MS.s_isShown (MS.s_shown (MS.s_rowLengths (MS.s_rowTexts (MS.s_shownWindows (MS.s_rows (MS.s_names (MS.s_isTable (MS.s_valueLength x v2) true) (x.tableNames 0)) (x.tableRows 0)) x.windows) rt2) rl2) (va_up (cpA x.cells (shG x.cells x.shown x.windows r) (cA 0 r) (64 * r) w) ((64 * r) + w) (x.cells ((0 * 256 + r) * 64 + w)))) (cpA x.isCell (shG x.isCell x.isShown x.windows r) (cA 0 r) (64 * r) w))) rfl rfl (by decide) (by decide) (fun r5 u9 H locs hp9 hP hD hS => ?_)
                have hP : va_P D vwCl (MW dA h ad (MS.s_isShown (MS.s_shown (MS.s_rowLengths (MS.s_rowTexts (MS.s_shownWindows (MS.s_rows (MS.s_names (MS.s_isTable (MS.s_valueLength x v2) true) (x.tableNames 0)) (x.tableRows 0)) x.windows) rt2) rl2) (va_up (cpA x.cells (shG x.cells x.shown x.windows r) (cA 0 r) (64 * r) w) ((64 * r) + w) (x.cells ((0 * 256 + r) * 64 + w)))) (cpA x.isCell (shG x.isCell x.isShown x.windows r) (cA 0 r) (64 * r) w))) H := hP
                have hD : va_D A (MW dA h ad (MS.s_isShown (MS.s_shown (MS.s_rowLengths (MS.s_rowTexts (MS.s_shownWindows (MS.s_rows (MS.s_names (MS.s_isTable (MS.s_valueLength x v2) true) (x.tableNames 0)) (x.tableRows 0)) x.windows) rt2) rl2) (va_up (cpA x.cells (shG x.cells x.shown x.windows r) (cA 0 r) (64 * r) w) ((64 * r) + w) (x.cells ((0 * 256 + r) * 64 + w)))) (cpA x.isCell (shG x.isCell x.isShown x.windows r) (cA 0 r) (64 * r) w))) := hD
                replace hp9 : nI ((0 * 256 + r) * 64 + w) = r5 := Eq.symm hp9
                subst hp9
                refine nzld (f := (fun z9 => bI (x.isCell z9))) hx hb hK hP 27 3 rfl rfl ((0 * 256 + r) * 64 + w) (by omega) (by decide) d_M_keepTable_193 ?_
                refine nzstB (v := x.isCell ((0 * 256 + r) * 64 + w)) hx hb hK hP hD hS 38 3 rfl rfl ((64 * r) + w) (by omega) (by decide) d_M_keepTable_194 (fun H locs hP hD hS => ?_)
                have hP : va_P D vwCl (MW dA h ad (MS.s_isShown (MS.s_shown (MS.s_rowLengths (MS.s_rowTexts (MS.s_shownWindows (MS.s_rows (MS.s_names (MS.s_isTable (MS.s_valueLength x v2) true) (x.tableNames 0)) (x.tableRows 0)) x.windows) rt2) rl2) (va_up (cpA x.cells (shG x.cells x.shown x.windows r) (cA 0 r) (64 * r) w) ((64 * r) + w) (x.cells ((0 * 256 + r) * 64 + w)))) (va_up (cpA x.isCell (shG x.isCell x.isShown x.windows r) (cA 0 r) (64 * r) w) ((64 * r) + w) (x.isCell ((0 * 256 + r) * 64 + w))))) H := hP
                have hD : va_D A (MW dA h ad (MS.s_isShown (MS.s_shown (MS.s_rowLengths (MS.s_rowTexts (MS.s_shownWindows (MS.s_rows (MS.s_names (MS.s_isTable (MS.s_valueLength x v2) true) (x.tableNames 0)) (x.tableRows 0)) x.windows) rt2) rl2) (va_up (cpA x.cells (shG x.cells x.shown x.windows r) (cA 0 r) (64 * r) w) ((64 * r) + w) (x.cells ((0 * 256 + r) * 64 + w)))) (va_up (cpA x.isCell (shG x.isCell x.isShown x.windows r) (cA 0 r) (64 * r) w) ((64 * r) + w) (x.isCell ((0 * 256 + r) * 64 + w))))) := hD
                refine lv_iinc (k := 0) (v := nI (w + 1)) hx hb d_M_keepTable_195 hl rfl (iincN (w) 1 1 (by decide)) (by decide) rfl (fun ls hl => ?_)
                have hl : lv_has ls 5 [(2, .int (nI (w + 1))), (1, .int (nI r)), (0, .ref h)] := hl
                refine lv_goto hx hb d_M_keepTable_198 (tgt := 143) rfl ?_
                exact ih143 _ (by omega) (w + 1) (by omega) rfl H _ ls hP hD hS (lv_sub hl [0, 1, 2] rfl)
          exact L143 _ 0 (Nat.zero_le _) rfl H _ ls hP hD hS (lv_sub hl [0, 1, 2] rfl)
        refine lv_iconst (v := 0) hx hb d_M_keepTable_43 (by decide) ?_
        refine lv_istore_n hx hb d_M_keepTable_44 rfl hl (by decide) rfl (fun ls hl => ?_)
        have hl : lv_has ls 5 [(2, .int 0), (1, .int (nI r)), (0, .ref h)] := hl
        have L45 : ∀ (k9 : Nat) (k : Nat) (rl2 : Nat → Nat) (rt2 : Nat → Int32) (v2 : Nat) (j1 : k ≤ x.tableNames 0) (j2 : x.ktK r (rl, rt, v) k = (rl2, rt2, v2)) (hk9 : x.tableNames 0 - k = k9), ∀ (H : Heap) (locs : List Loc) (ls : Array Slot) (hP : va_P D vwCl (MW dA h ad (MS.s_isShown (MS.s_shown (MS.s_rowLengths (MS.s_rowTexts (MS.s_shownWindows (MS.s_rows (MS.s_names (MS.s_isTable (MS.s_valueLength x v2) true) (x.tableNames 0)) (x.tableRows 0)) x.windows) rt2) rl2) (shG x.cells x.shown x.windows r)) (shG x.isCell x.isShown x.windows r))) H) (hD : va_D A (MW dA h ad (MS.s_isShown (MS.s_shown (MS.s_rowLengths (MS.s_rowTexts (MS.s_shownWindows (MS.s_rows (MS.s_names (MS.s_isTable (MS.s_valueLength x v2) true) (x.tableNames 0)) (x.tableRows 0)) x.windows) rt2) rl2) (shG x.cells x.shown x.windows r)) (shG x.isCell x.isShown x.windows r)))) (hS : va_S A s.heap H locs) (hl : lv_has ls 5 [(2, .int (nI k)), (1, .int (nI r)), (0, .ref h)]), W p l e ({ frames := 2, cells := 0, slots := 0, locals := 29 } : Room) s m ([.ref h] : List Value).toArray below meth c H locs 0 0 (MQ below (va_Qv (fun (u9 : Unit) => True) (fun (u9 : Unit) t9 => bW D A (MW dA h ad (MS.s_isShown (MS.s_shown (MS.s_rowLengths (MS.s_rowTexts (MS.s_shownWindows (MS.s_rows (MS.s_names (MS.s_isTable (MS.s_valueLength x v9) true) (x.tableNames 0)) (x.tableRows 0)) x.windows) rt9) rl9) (shG x.cells x.shown x.windows (x.tableRows 0))) (shG x.isCell x.isShown x.windows (x.tableRows 0)))) t9) A) ([.ref h] : List Value).toArray s 0 0 A) (F0 m 45 ls []) := by
          intro k9
          induction k9 using Nat.strongRecOn with
          | ind k9 ih45 =>
            intro k rl2 rt2 v2 j1 j2 hk9 H locs ls hP hD hS hl
            refine lv_iload_n hx hb d_M_keepTable_45 rfl (lv_at hl 0 rfl) ?_
            refine lv_aload_n hx hb d_M_keepTable_46 rfl (lv_at hl 2 rfl) ?_
            refine gF (v := .int (nI (x.tableNames 0))) hx hb hown hE hK hP 0 rfl rfl layM 72 (by decide) w950 rfl d_M_keepTable_47 ?_
            refine lv_icmp_ge hx hb d_M_keepTable_50 (tgt := 141) rfl (fun g7 => ?_) (fun g7 => ?_)
            · have g7 := (nI_leI (a := x.tableNames 0) (b := k) (by omega) (by omega)).mp g7
              exact J141 rl2 rt2 v2 (by rw [← show k = x.tableNames 0 by omega]; exact j2) H _ ls hP hD hS (lv_sub hl [1, 2] rfl)
            · have g7 := mt (nI_leI (a := x.tableNames 0) (b := k) (by omega) (by omega)).mpr g7
              have tk : x.tOK (x.rowSeries r) := (hra r (by omega)).resolve_left (by omega)
              have tk1 := tk.1
              have tk2 := vo_24 (x := x) (s := x.rowSeries r) (nm := x.nameFroms k) (n := x.nameLengths k) tk
              have tk2 : (x.ktV r k).2.1 ≤ 24 := tk2
              have tk3 := vo_in (x := x) (s := x.rowSeries r) (nm := x.nameFroms k) (n := x.nameLengths k) tk
              have tk3 : (x.ktV r k).1 + (x.ktV r k).2.1 ≤ 77824 := tk3
              refine lv_aload_n hx hb d_M_keepTable_53 rfl (lv_at hl 2 rfl) ?_
              refine lv_aload_n hx hb d_M_keepTable_54 rfl (lv_at hl 2 rfl) ?_
              refine gF (v := .ref (ad 52)) hx hb hown hE hK hP 0 rfl rfl layM 52 (by decide) w522 rfl d_M_keepTable_55 ?_
              refine lv_iload_n hx hb d_M_keepTable_58 rfl (lv_at hl 1 rfl) ?_
              refine nild (f := (fun z9 => nI (x.rowSeries z9))) hx hb hK hP 25 1 rfl rfl (r) (by omega) (by decide) d_M_keepTable_59 ?_
              refine lv_aload_n hx hb d_M_keepTable_60 rfl (lv_at hl 2 rfl) ?_
              refine gF (v := .ref (ad 49)) hx hb hown hE hK hP 0 rfl rfl layM 49 (by decide) w519 rfl d_M_keepTable_61 ?_
              refine lv_iload_n hx hb d_M_keepTable_64 rfl (lv_at hl 0 rfl) ?_
              refine nild (f := (fun z9 => nI (x.nameFroms z9))) hx hb hK hP 22 1 rfl rfl (k) (by omega) (by decide) d_M_keepTable_65 ?_
              refine lv_aload_n hx hb d_M_keepTable_66 rfl (lv_at hl 2 rfl) ?_
              refine gF (v := .ref (ad 50)) hx hb hown hE hK hP 0 rfl rfl layM 50 (by decide) w520 rfl d_M_keepTable_67 ?_
              refine lv_iload_n hx hb d_M_keepTable_70 rfl (lv_at hl 0 rfl) ?_
              refine nild (f := (fun z9 => nI (x.nameLengths z9))) hx hb hK hP 23 1 rfl rfl (k) (by omega) (by decide) d_M_keepTable_71 ?_
              refine jfI (rnV (As := [.int (nI (x.rowSeries r)), .int (nI (x.nameFroms k)), .int (nI (x.nameLengths k))]) (rest := []) hx hb hml hown hE hK (hN _ _ hS) hP hD (k_valueOf l D dA H.size h ad (MS.s_isShown (MS.s_shown (MS.s_rowLengths (MS.s_rowTexts (MS.s_shownWindows (MS.s_rows (MS.s_names (MS.s_isTable (MS.s_valueLength x v2) true) (x.tableNames 0)) (x.tableRows 0)) x.windows) rt2) rl2) (shG x.cells x.shown x.windows r)) (shG x.isCell x.isShown x.windows r)) (x.rowSeries r) (x.nameFroms k) (x.nameLengths k) tk (hnm k (by omega))) (q0 := 0) rfl rfl w979 w978 w980 w981 w328 rfl rfl ⟨⟨by decide, by decide⟩, rfl⟩ ⟨(Nat.le_of_ble_eq_true rfl), (Nat.le_of_ble_eq_true rfl)⟩ rfl hl.1 rfl (Nat.le_of_ble_eq_true rfl) d_M_keepTable_72 ⟨(Nat.le_of_ble_eq_true rfl), (Nat.le_of_ble_eq_true rfl)⟩) hP hD hS hA (fun r8 u9 H locs hp9 hP hD hS => ?_)
              have hP : va_P D vwCl (MW dA h ad (MS.s_isShown (MS.s_shown (MS.s_rowLengths (MS.s_rowTexts (MS.s_shownWindows (MS.s_rows (MS.s_names (MS.s_isTable (MS.s_valueLength x ((x.vo (x.rowSeries r) (x.nameFroms k) (x.nameLengths k)).2.1)) true) (x.tableNames 0)) (x.tableRows 0)) x.windows) rt2) rl2) (shG x.cells x.shown x.windows r)) (shG x.isCell x.isShown x.windows r))) H := hP
              have hD : va_D A (MW dA h ad (MS.s_isShown (MS.s_shown (MS.s_rowLengths (MS.s_rowTexts (MS.s_shownWindows (MS.s_rows (MS.s_names (MS.s_isTable (MS.s_valueLength x ((x.vo (x.rowSeries r) (x.nameFroms k) (x.nameLengths k)).2.1)) true) (x.tableNames 0)) (x.tableRows 0)) x.windows) rt2) rl2) (shG x.cells x.shown x.windows r)) (shG x.isCell x.isShown x.windows r))) := hD
              replace hp9 : voI (x.vo (x.rowSeries r) (x.nameFroms k) (x.nameLengths k)) = r8 := Eq.symm hp9
              subst hp9
              refine lv_istore_n hx hb d_M_keepTable_75 rfl hl (by decide) rfl (fun ls hl => ?_)
              have hl : lv_has ls 5 [(3, .int (voI (x.vo (x.rowSeries r) (x.nameFroms k) (x.nameLengths k)))), (2, .int (nI k)), (1, .int (nI r)), (0, .ref h)] := hl
              refine lv_aload_n hx hb d_M_keepTable_76 rfl (lv_at hl 3 rfl) ?_
              refine gF (v := .ref (ad 76)) hx hb hown hE hK hP 0 rfl rfl layM 76 (by decide) w536 rfl d_M_keepTable_77 ?_
              refine lv_bipush (v := 6) hx hb d_M_keepTable_80 (by decide) ?_
              refine lv_iload_n hx hb d_M_keepTable_82 rfl (lv_at hl 2 rfl) ?_
              refine lv_imul hx hb d_M_keepTable_83 (tpi (y := nI (6 * r)) (pk_mul (6) (r)) ?_)
              refine lv_iload_n hx hb d_M_keepTable_84 rfl (lv_at hl 1 rfl) ?_
              refine lv_iadd hx hb d_M_keepTable_85 (tpi (y := nI ((6 * r) + k)) (nI_add (6 * r) (k)) ?_)
              refine lv_aload_n hx hb d_M_keepTable_86 rfl (lv_at hl 3 rfl) ?_
              refine gF (v := .int (nI ((x.vo (x.rowSeries r) (x.nameFroms k) (x.nameLengths k)).2.1))) hx hb hown hE hK hP 0 rfl rfl layM 60 (by decide) w977 rfl d_M_keepTable_87 ?_
              refine nistN (v := (x.vo (x.rowSeries r) (x.nameFroms k) (x.nameLengths k)).2.1) hx hb hK hP hD hS 36 1 rfl rfl ((6 * r) + k) (by omega) (by decide) d_M_keepTable_90 (fun H locs hP hD hS => ?_)
              have hP : va_P D vwCl (MW dA h ad (MS.s_isShown (MS.s_shown (MS.s_rowLengths (MS.s_rowTexts (MS.s_shownWindows (MS.s_rows (MS.s_names (MS.s_isTable (MS.s_valueLength x ((x.vo (x.rowSeries r) (x.nameFroms k) (x.nameLengths k)).2.1)) true) (x.tableNames 0)) (x.tableRows 0)) x.windows) rt2) (va_up rl2 ((6 * r) + k) ((x.vo (x.rowSeries r) (x.nameFroms k) (x.nameLengths k)).2.1))) (shG x.cells x.shown x.windows r)) (shG x.isCell x.isShown x.windows r))) H := hP
              have hD : va_D A (MW dA h ad (MS.s_isShown (MS.s_shown (MS.s_rowLengths (MS.s_rowTexts (MS.s_shownWindows (MS.s_rows (MS.s_names (MS.s_isTable (MS.s_valueLength x ((x.vo (x.rowSeries r) (x.nameFroms k) (x.nameLengths k)).2.1)) true) (x.tableNames 0)) (x.tableRows 0)) x.windows) rt2) (va_up rl2 ((6 * r) + k) ((x.vo (x.rowSeries r) (x.nameFroms k) (x.nameLengths k)).2.1))) (shG x.cells x.shown x.windows r)) (shG x.isCell x.isShown x.windows r))) := hD
              refine lv_iconst (v := 0) hx hb d_M_keepTable_91 (by decide) ?_
              refine lv_istore hx hb d_M_keepTable_92 hl (by decide) rfl (fun ls hl => ?_)
              have hl : lv_has ls 5 [(4, .int 0), (3, .int (voI (x.vo (x.rowSeries r) (x.nameFroms k) (x.nameLengths k)))), (2, .int (nI k)), (1, .int (nI r)), (0, .ref h)] := hl
              have L94 : ∀ (k9 : Nat) (j : Nat) (m1 : j ≤ (x.ktV r k).2.1) (hk9 : (x.ktV r k).2.1 - j = k9), ∀ (H : Heap) (locs : List Loc) (ls : Array Slot) (hP : va_P D vwCl (MW dA h ad (MS.s_isShown (MS.s_shown (MS.s_rowLengths (MS.s_rowTexts (MS.s_shownWindows (MS.s_rows (MS.s_names (MS.s_isTable (MS.s_valueLength x ((x.ktV r k).2.1)) true) (x.tableNames 0)) (x.tableRows 0)) x.windows) (cpG x.texts rt2 (x.ktV r k).1 ((6 * r + k) * 24) j)) (va_up rl2 (6 * r + k) (x.ktV r k).2.1)) (shG x.cells x.shown x.windows r)) (shG x.isCell x.isShown x.windows r))) H) (hD : va_D A (MW dA h ad (MS.s_isShown (MS.s_shown (MS.s_rowLengths (MS.s_rowTexts (MS.s_shownWindows (MS.s_rows (MS.s_names (MS.s_isTable (MS.s_valueLength x ((x.ktV r k).2.1)) true) (x.tableNames 0)) (x.tableRows 0)) x.windows) (cpG x.texts rt2 (x.ktV r k).1 ((6 * r + k) * 24) j)) (va_up rl2 (6 * r + k) (x.ktV r k).2.1)) (shG x.cells x.shown x.windows r)) (shG x.isCell x.isShown x.windows r)))) (hS : va_S A s.heap H locs) (hl : lv_has ls 5 [(4, .int (nI j)), (3, .int (voI (x.ktV r k))), (2, .int (nI k)), (1, .int (nI r)), (0, .ref h)]), W p l e ({ frames := 2, cells := 0, slots := 0, locals := 29 } : Room) s m ([.ref h] : List Value).toArray below meth c H locs 0 0 (MQ below (va_Qv (fun (u9 : Unit) => True) (fun (u9 : Unit) t9 => bW D A (MW dA h ad (MS.s_isShown (MS.s_shown (MS.s_rowLengths (MS.s_rowTexts (MS.s_shownWindows (MS.s_rows (MS.s_names (MS.s_isTable (MS.s_valueLength x v9) true) (x.tableNames 0)) (x.tableRows 0)) x.windows) rt9) rl9) (shG x.cells x.shown x.windows (x.tableRows 0))) (shG x.isCell x.isShown x.windows (x.tableRows 0)))) t9) A) ([.ref h] : List Value).toArray s 0 0 A) (F0 m 94 ls []) := by
                intro k9
                induction k9 using Nat.strongRecOn with
                | ind k9 ih94 =>
                  intro j m1 hk9 H locs ls hP hD hS hl
                  refine lv_iload hx hb d_M_keepTable_94 (lv_at hl 0 rfl) ?_
                  refine lv_aload_n hx hb d_M_keepTable_96 rfl (lv_at hl 4 rfl) ?_
                  refine gF (v := .int (nI ((x.ktV r k).2.1))) hx hb hown hE hK hP 0 rfl rfl layM 60 (by decide) w977 rfl d_M_keepTable_97 ?_
                  refine lv_icmp_ge hx hb d_M_keepTable_100 (tgt := 135) rfl (fun g10 => ?_) (fun g10 => ?_)
                  · have g10 := (nI_leI (a := (x.ktV r k).2.1) (b := j) (by omega) (by omega)).mp g10
                    refine lv_iinc (k := 2) (v := nI (k + 1)) hx hb d_M_keepTable_135 hl rfl (iincN (k) 1 1 (by decide)) (by decide) rfl (fun ls hl => ?_)
                    have hl : lv_has ls 5 [(2, .int (nI (k + 1))), (4, .int (nI j)), (3, .int (voI (x.ktV r k))), (1, .int (nI r)), (0, .ref h)] := hl
                    refine lv_goto hx hb d_M_keepTable_138 (tgt := 45) rfl ?_
                    exact ih45 _ (by omega) (k + 1) (va_up rl2 (6 * r + k) (x.ktV r k).2.1) (cpG x.texts rt2 (x.ktV r k).1 ((6 * r + k) * 24) j) ((x.ktV r k).2.1) (by omega) ((kt_k j2).trans (by rw [show (x.ktV r k).2.1 = j by omega])) rfl H _ ls hP hD hS (lv_sub hl [0, 3, 4] rfl)
                  · have g10 := mt (nI_leI (a := (x.ktV r k).2.1) (b := j) (by omega) (by omega)).mpr g10
                    refine lv_aload_n hx hb d_M_keepTable_103 rfl (lv_at hl 4 rfl) ?_
                    refine gF (v := .ref (ad 75)) hx hb hown hE hK hP 0 rfl rfl layM 75 (by decide) w535 rfl d_M_keepTable_104 ?_
                    refine lv_bipush (v := 6) hx hb d_M_keepTable_107 (by decide) ?_
                    refine lv_iload_n hx hb d_M_keepTable_109 rfl (lv_at hl 3 rfl) ?_
                    refine lv_imul hx hb d_M_keepTable_110 (tpi (y := nI (6 * r)) (pk_mul (6) (r)) ?_)
                    refine lv_iload_n hx hb d_M_keepTable_111 rfl (lv_at hl 2 rfl) ?_
                    refine lv_iadd hx hb d_M_keepTable_112 (tpi (y := nI ((6 * r) + k)) (nI_add (6 * r) (k)) ?_)
                    refine lv_bipush (v := 24) hx hb d_M_keepTable_113 (by decide) ?_
                    refine lv_imul hx hb d_M_keepTable_115 (tpi (y := nI (((6 * r) + k) * 24)) (pk_mul ((6 * r) + k) (24)) ?_)
                    refine lv_iload hx hb d_M_keepTable_116 (lv_at hl 0 rfl) ?_
                    refine lv_iadd hx hb d_M_keepTable_118 (tpi (y := nI ((((6 * r) + k) * 24) + j)) (nI_add (((6 * r) + k) * 24) (j)) ?_)
                    refine lv_aload_n hx hb d_M_keepTable_119 rfl (lv_at hl 4 rfl) ?_
                    refine gF (v := .ref (ad 10)) hx hb hown hE hK hP 0 rfl rfl layM 10 (by decide) w499 rfl d_M_keepTable_120 ?_
                    refine lv_iload_n hx hb d_M_keepTable_123 rfl (lv_at hl 1 rfl) ?_
                    refine lv_iload hx hb d_M_keepTable_124 (lv_at hl 0 rfl) ?_
                    refine lv_iadd hx hb d_M_keepTable_126 ?_
                    refine tpi (y := nI ((x.ktV r k).1 + j)) (vo_add tk (by first | exact Nat.lt_of_not_le (by assumption) | (show j < (x.ktV r k).2.1; omega))) ?_
                    refine nbld (f := x.texts) hx hb hK hP 2 0 rfl rfl ((x.ktV r k).1 + j) (by omega) (by decide) d_M_keepTable_127 ?_
                    refine nbst hx hb hK hP hD hS 35 0 rfl rfl ((((6 * r) + k) * 24) + j) (by omega) (by decide) (x.texts ((x.ktV r k).1 + j)) (byteF_n hby _) d_M_keepTable_128 (fun H locs hP hD hS => ?_)
                    have hP : va_P D vwCl (MW dA h ad (MS.s_isShown (MS.s_shown (MS.s_rowLengths (MS.s_rowTexts (MS.s_shownWindows (MS.s_rows (MS.s_names (MS.s_isTable (MS.s_valueLength x ((x.ktV r k).2.1)) true) (x.tableNames 0)) (x.tableRows 0)) x.windows) (va_up (cpG x.texts rt2 (x.ktV r k).1 ((6 * r + k) * 24) j) ((((6 * r) + k) * 24) + j) (x.texts ((x.ktV r k).1 + j)))) (va_up rl2 (6 * r + k) (x.ktV r k).2.1)) (shG x.cells x.shown x.windows r)) (shG x.isCell x.isShown x.windows r))) H := hP
                    have hD : va_D A (MW dA h ad (MS.s_isShown (MS.s_shown (MS.s_rowLengths (MS.s_rowTexts (MS.s_shownWindows (MS.s_rows (MS.s_names (MS.s_isTable (MS.s_valueLength x ((x.ktV r k).2.1)) true) (x.tableNames 0)) (x.tableRows 0)) x.windows) (va_up (cpG x.texts rt2 (x.ktV r k).1 ((6 * r + k) * 24) j) ((((6 * r) + k) * 24) + j) (x.texts ((x.ktV r k).1 + j)))) (va_up rl2 (6 * r + k) (x.ktV r k).2.1)) (shG x.cells x.shown x.windows r)) (shG x.isCell x.isShown x.windows r))) := hD
                    refine lv_iinc (k := 0) (v := nI (j + 1)) hx hb d_M_keepTable_129 hl rfl (iincN (j) 1 1 (by decide)) (by decide) rfl (fun ls hl => ?_)
                    have hl : lv_has ls 5 [(4, .int (nI (j + 1))), (3, .int (voI (x.ktV r k))), (2, .int (nI k)), (1, .int (nI r)), (0, .ref h)] := hl
                    refine lv_goto hx hb d_M_keepTable_132 (tgt := 94) rfl ?_
                    exact ih94 _ (by omega) (j + 1) (by omega) rfl H _ ls hP hD hS (lv_sub hl [0, 1, 2, 3, 4] rfl)
              exact L94 _ 0 (Nat.zero_le _) rfl H _ ls hP hD hS (lv_sub hl [0, 1, 2, 3, 4] rfl)
        exact L45 _ 0 rl rt v (Nat.zero_le _) rfl rfl H _ ls hP hD hS (lv_sub hl [0, 1, 2] rfl)
  have e9 : (MS.s_shownWindows (MS.s_rows (MS.s_names (MS.s_isTable x true) (x.tableNames 0)) (x.tableRows 0)) x.windows : MS) = MS.s_isShown (MS.s_shown (MS.s_rowLengths (MS.s_rowTexts (MS.s_shownWindows (MS.s_rows (MS.s_names (MS.s_isTable (MS.s_valueLength x x.valueLength) true) (x.tableNames 0)) (x.tableRows 0)) x.windows) x.rowTexts) x.rowLengths) (shG x.cells x.shown x.windows 0)) (shG x.isCell x.isShown x.windows 0) := by rw [show (shG x.isCell x.isShown x.windows 0) = x.isShown from rfl, show (shG x.cells x.shown x.windows 0) = x.shown from rfl] <;> rfl
  exact L35 _ 0 x.rowLengths x.rowTexts x.valueLength (Nat.zero_le _) rfl rfl H _ ls (cvP e9 hP) (cvD e9 hD) hS (lv_sub hl [0, 1] rfl)
