section
def MS.blw (x : MS) (k j : Nat) : Bool := !decide (0 ≤ cmpT x.tape (x.labels (4 * j)) (x.labels (4 * j + 1)) (x.labels (4 * k)) (x.labels (4 * k + 1)))
/-- the label with t others below it -/
def MS.whG (x : MS) (t : Nat) : Nat → Nat
  | 0 => 0
  | k + 1 => if cnt x.labelCount (x.blw k) = t then k else x.whG t k
theorem whG_t {x : MS} {t k : Nat} (h : cnt x.labelCount (x.blw k) = t) : x.whG t (k + 1) = k := if_pos h
theorem whG_f {x : MS} {t k : Nat} (h : ¬ cnt x.labelCount (x.blw k) = t) : x.whG t (k + 1) = x.whG t k := if_neg h
theorem whG_lt (x : MS) (t : Nat) : ∀ k, 0 < k → x.whG t k < k
  | 0, h => absurd h (Nat.lt_irrefl 0)
  | k + 1, _ => by
    by_cases h : cnt x.labelCount (x.blw k) = t
    · rw [whG_t h]; omega
    · rw [whG_f h]
      rcases Nat.eq_zero_or_pos k with e | e
      · subst e; exact Nat.lt_succ_self 0
      · have := whG_lt x t k e; omega
/-- bytes f (a ..) laid from place b on -/
def cpG (f tx : Nat → Int32) (a b : Nat) : Nat → Nat → Int32
  | 0 => tx
  | j + 1 => va_up (cpG f tx a b j) (b + j) (f (a + j))
def MS.wh (x : MS) (t : Nat) : Nat := x.whG t x.labelCount
def MS.lbL (x : MS) (w : Nat) : Nat := x.labels (4 * w + 2) + x.labels (4 * w + 3) - x.labels (4 * w)
/-- t labels laid in order: the bytes, how many -/
def MS.layT (x : MS) : Nat → (Nat → Int32) × Nat
  | 0 => (x.texts, 0)
  | t + 1 => if t = 0 then (cpG x.tape (x.layT t).1 (x.labels (4 * x.wh t)) (304 * x.seriesCount + (x.layT t).2) (x.lbL (x.wh t)), (x.layT t).2 + x.lbL (x.wh t))
    else (cpG x.tape (va_up (x.layT t).1 (304 * x.seriesCount + (x.layT t).2) 44) (x.labels (4 * x.wh t)) (304 * x.seriesCount + ((x.layT t).2 + 1)) (x.lbL (x.wh t)), (x.layT t).2 + 1 + x.lbL (x.wh t))
def labOk (g : Nat → Nat) (L c : Nat) : Prop := ∀ k, k < c → g (4 * k + 1) ≤ 24 ∧ g (4 * k + 2) = g (4 * k) + g (4 * k + 1) + 1 ∧ g (4 * k + 3) ≤ 24 ∧ g (4 * k + 2) + g (4 * k + 3) ≤ L
def byteF (f : Nat → Int32) : Prop := ∀ q, (f q).toInt8.toInt32 = f q
theorem byteF_n {f : Nat → Int32} (h : byteF f) (q : Nat) : vp_nar .byte (f q) = f q := by
  rw [← h q]
  exact pk_vb _
theorem layT_0 {x : MS} {t n m : Nat} {tx : Nat → Int32} (h : x.layT t = (tx, n)) (ht : t = 0) (hm : x.lbL (x.wh t) = m) : x.layT (t + 1) = (cpG x.tape tx (x.labels (4 * x.wh t)) (304 * x.seriesCount + n) m, n + m) := by
  show (if t = 0 then _ else _) = _
  rw [if_pos ht, h, hm]
theorem layT_1 {x : MS} {t n m : Nat} {tx : Nat → Int32} (h : x.layT t = (tx, n)) (ht : ¬ t = 0) (hm : x.lbL (x.wh t) = m) : x.layT (t + 1) = (cpG x.tape (va_up tx (304 * x.seriesCount + n) 44) (x.labels (4 * x.wh t)) (304 * x.seriesCount + (n + 1)) m, n + 1 + m) := by
  show (if t = 0 then _ else _) = _
  rw [if_neg ht, h, hm]
theorem d_M_layText_0 : decode prog_14_method_25_code 0 = .ok (.sipush 304, 3) := by decide +kernel
theorem d_M_layText_3 : decode prog_14_method_25_code 3 = .ok (.aload_n 0, 1) := by decide +kernel
theorem d_M_layText_4 : decode prog_14_method_25_code 4 = .ok (.getfield 160, 3) := by decide +kernel
theorem d_M_layText_7 : decode prog_14_method_25_code 7 = .ok (.imul, 1) := by decide +kernel
theorem d_M_layText_8 : decode prog_14_method_25_code 8 = .ok (.istore_n 1, 1) := by decide +kernel
theorem d_M_layText_9 : decode prog_14_method_25_code 9 = .ok (.iconst 0, 1) := by decide +kernel
theorem d_M_layText_10 : decode prog_14_method_25_code 10 = .ok (.istore_n 2, 1) := by decide +kernel
theorem d_M_layText_11 : decode prog_14_method_25_code 11 = .ok (.iconst 0, 1) := by decide +kernel
theorem d_M_layText_12 : decode prog_14_method_25_code 12 = .ok (.istore_n 3, 1) := by decide +kernel
theorem d_M_layText_13 : decode prog_14_method_25_code 13 = .ok (.iload_n 3, 1) := by decide +kernel
theorem d_M_layText_14 : decode prog_14_method_25_code 14 = .ok (.aload_n 0, 1) := by decide +kernel
theorem d_M_layText_15 : decode prog_14_method_25_code 15 = .ok (.getfield 217, 3) := by decide +kernel
theorem d_M_layText_18 : decode prog_14_method_25_code 18 = .ok (.if_icmp .ge 211, 3) := by decide +kernel
theorem d_M_layText_229 : decode prog_14_method_25_code 229 = .ok (.iload_n 2, 1) := by decide +kernel
theorem d_M_layText_230 : decode prog_14_method_25_code 230 = .ok (.ireturn, 1) := by decide +kernel
theorem d_M_layText_152 : decode prog_14_method_25_code 152 = .ok (.aload_n 0, 1) := by decide +kernel
theorem d_M_layText_153 : decode prog_14_method_25_code 153 = .ok (.getfield 85, 3) := by decide +kernel
theorem d_M_layText_156 : decode prog_14_method_25_code 156 = .ok (.iconst 4, 1) := by decide +kernel
theorem d_M_layText_157 : decode prog_14_method_25_code 157 = .ok (.iload 4, 2) := by decide +kernel
theorem d_M_layText_159 : decode prog_14_method_25_code 159 = .ok (.imul, 1) := by decide +kernel
theorem d_M_layText_160 : decode prog_14_method_25_code 160 = .ok (.iaload, 1) := by decide +kernel
theorem d_M_layText_161 : decode prog_14_method_25_code 161 = .ok (.istore 5, 2) := by decide +kernel
theorem d_M_layText_163 : decode prog_14_method_25_code 163 = .ok (.aload_n 0, 1) := by decide +kernel
theorem d_M_layText_164 : decode prog_14_method_25_code 164 = .ok (.getfield 85, 3) := by decide +kernel
theorem d_M_layText_167 : decode prog_14_method_25_code 167 = .ok (.iconst 4, 1) := by decide +kernel
theorem d_M_layText_168 : decode prog_14_method_25_code 168 = .ok (.iload 4, 2) := by decide +kernel
theorem d_M_layText_170 : decode prog_14_method_25_code 170 = .ok (.imul, 1) := by decide +kernel
theorem d_M_layText_171 : decode prog_14_method_25_code 171 = .ok (.iconst 2, 1) := by decide +kernel
theorem d_M_layText_172 : decode prog_14_method_25_code 172 = .ok (.iadd, 1) := by decide +kernel
theorem d_M_layText_173 : decode prog_14_method_25_code 173 = .ok (.iaload, 1) := by decide +kernel
theorem d_M_layText_174 : decode prog_14_method_25_code 174 = .ok (.aload_n 0, 1) := by decide +kernel
theorem d_M_layText_175 : decode prog_14_method_25_code 175 = .ok (.getfield 85, 3) := by decide +kernel
theorem d_M_layText_178 : decode prog_14_method_25_code 178 = .ok (.iconst 4, 1) := by decide +kernel
theorem d_M_layText_179 : decode prog_14_method_25_code 179 = .ok (.iload 4, 2) := by decide +kernel
theorem d_M_layText_181 : decode prog_14_method_25_code 181 = .ok (.imul, 1) := by decide +kernel
theorem d_M_layText_182 : decode prog_14_method_25_code 182 = .ok (.iconst 3, 1) := by decide +kernel
theorem d_M_layText_183 : decode prog_14_method_25_code 183 = .ok (.iadd, 1) := by decide +kernel
theorem d_M_layText_184 : decode prog_14_method_25_code 184 = .ok (.iaload, 1) := by decide +kernel
theorem d_M_layText_185 : decode prog_14_method_25_code 185 = .ok (.iadd, 1) := by decide +kernel
theorem d_M_layText_186 : decode prog_14_method_25_code 186 = .ok (.istore 6, 2) := by decide +kernel
theorem d_M_layText_188 : decode prog_14_method_25_code 188 = .ok (.iload 5, 2) := by decide +kernel
theorem d_M_layText_190 : decode prog_14_method_25_code 190 = .ok (.istore 7, 2) := by decide +kernel
theorem d_M_layText_192 : decode prog_14_method_25_code 192 = .ok (.iload 7, 2) := by decide +kernel
theorem d_M_layText_194 : decode prog_14_method_25_code 194 = .ok (.iload 6, 2) := by decide +kernel
theorem d_M_layText_196 : decode prog_14_method_25_code 196 = .ok (.if_icmp .ge 27, 3) := by decide +kernel
theorem d_M_layText_223 : decode prog_14_method_25_code 223 = .ok (.iinc 3 1, 3) := by decide +kernel
theorem d_M_layText_226 : decode prog_14_method_25_code 226 = .ok (.goto (-213), 3) := by decide +kernel
theorem d_M_layText_199 : decode prog_14_method_25_code 199 = .ok (.aload_n 0, 1) := by decide +kernel
theorem d_M_layText_200 : decode prog_14_method_25_code 200 = .ok (.getfield 29, 3) := by decide +kernel
theorem d_M_layText_203 : decode prog_14_method_25_code 203 = .ok (.iload_n 1, 1) := by decide +kernel
theorem d_M_layText_204 : decode prog_14_method_25_code 204 = .ok (.iload_n 2, 1) := by decide +kernel
theorem d_M_layText_205 : decode prog_14_method_25_code 205 = .ok (.iadd, 1) := by decide +kernel
theorem d_M_layText_206 : decode prog_14_method_25_code 206 = .ok (.aload_n 0, 1) := by decide +kernel
theorem d_M_layText_207 : decode prog_14_method_25_code 207 = .ok (.getfield 8, 3) := by decide +kernel
theorem d_M_layText_210 : decode prog_14_method_25_code 210 = .ok (.iload 7, 2) := by decide +kernel
theorem d_M_layText_212 : decode prog_14_method_25_code 212 = .ok (.baload, 1) := by decide +kernel
theorem d_M_layText_213 : decode prog_14_method_25_code 213 = .ok (.bastore, 1) := by decide +kernel
theorem d_M_layText_214 : decode prog_14_method_25_code 214 = .ok (.iinc 2 1, 3) := by decide +kernel
theorem d_M_layText_217 : decode prog_14_method_25_code 217 = .ok (.iinc 7 1, 3) := by decide +kernel
theorem d_M_layText_220 : decode prog_14_method_25_code 220 = .ok (.goto (-28), 3) := by decide +kernel
theorem d_M_layText_135 : decode prog_14_method_25_code 135 = .ok (.iload_n 3, 1) := by decide +kernel
theorem d_M_layText_136 : decode prog_14_method_25_code 136 = .ok (.ifCond .le 16, 3) := by decide +kernel
theorem d_M_layText_139 : decode prog_14_method_25_code 139 = .ok (.aload_n 0, 1) := by decide +kernel
theorem d_M_layText_140 : decode prog_14_method_25_code 140 = .ok (.getfield 29, 3) := by decide +kernel
theorem d_M_layText_143 : decode prog_14_method_25_code 143 = .ok (.iload_n 1, 1) := by decide +kernel
theorem d_M_layText_144 : decode prog_14_method_25_code 144 = .ok (.iload_n 2, 1) := by decide +kernel
theorem d_M_layText_145 : decode prog_14_method_25_code 145 = .ok (.iadd, 1) := by decide +kernel
theorem d_M_layText_146 : decode prog_14_method_25_code 146 = .ok (.bipush 44, 2) := by decide +kernel
theorem d_M_layText_148 : decode prog_14_method_25_code 148 = .ok (.bastore, 1) := by decide +kernel
theorem d_M_layText_149 : decode prog_14_method_25_code 149 = .ok (.iinc 2 1, 3) := by decide +kernel
theorem d_M_layText_21 : decode prog_14_method_25_code 21 = .ok (.iconst 0, 1) := by decide +kernel
theorem d_M_layText_22 : decode prog_14_method_25_code 22 = .ok (.istore 4, 2) := by decide +kernel
theorem d_M_layText_24 : decode prog_14_method_25_code 24 = .ok (.iconst 0, 1) := by decide +kernel
theorem d_M_layText_25 : decode prog_14_method_25_code 25 = .ok (.istore 5, 2) := by decide +kernel
theorem d_M_layText_27 : decode prog_14_method_25_code 27 = .ok (.iload 5, 2) := by decide +kernel
theorem d_M_layText_29 : decode prog_14_method_25_code 29 = .ok (.aload_n 0, 1) := by decide +kernel
theorem d_M_layText_30 : decode prog_14_method_25_code 30 = .ok (.getfield 217, 3) := by decide +kernel
theorem d_M_layText_33 : decode prog_14_method_25_code 33 = .ok (.if_icmp .ge 102, 3) := by decide +kernel
theorem d_M_layText_114 : decode prog_14_method_25_code 114 = .ok (.iload 6, 2) := by decide +kernel
theorem d_M_layText_116 : decode prog_14_method_25_code 116 = .ok (.iload_n 3, 1) := by decide +kernel
theorem d_M_layText_117 : decode prog_14_method_25_code 117 = .ok (.if_icmp .ne 8, 3) := by decide +kernel
theorem d_M_layText_125 : decode prog_14_method_25_code 125 = .ok (.iload 4, 2) := by decide +kernel
theorem d_M_layText_127 : decode prog_14_method_25_code 127 = .ok (.istore 4, 2) := by decide +kernel
theorem d_M_layText_129 : decode prog_14_method_25_code 129 = .ok (.iinc 5 1, 3) := by decide +kernel
theorem d_M_layText_132 : decode prog_14_method_25_code 132 = .ok (.goto (-105), 3) := by decide +kernel
theorem d_M_layText_120 : decode prog_14_method_25_code 120 = .ok (.iload 5, 2) := by decide +kernel
theorem d_M_layText_122 : decode prog_14_method_25_code 122 = .ok (.goto 5, 3) := by decide +kernel
theorem d_M_layText_36 : decode prog_14_method_25_code 36 = .ok (.iconst 0, 1) := by decide +kernel
theorem d_M_layText_37 : decode prog_14_method_25_code 37 = .ok (.istore 6, 2) := by decide +kernel
theorem d_M_layText_39 : decode prog_14_method_25_code 39 = .ok (.iconst 0, 1) := by decide +kernel
theorem d_M_layText_40 : decode prog_14_method_25_code 40 = .ok (.istore 7, 2) := by decide +kernel
theorem d_M_layText_42 : decode prog_14_method_25_code 42 = .ok (.iload 7, 2) := by decide +kernel
theorem d_M_layText_44 : decode prog_14_method_25_code 44 = .ok (.aload_n 0, 1) := by decide +kernel
theorem d_M_layText_45 : decode prog_14_method_25_code 45 = .ok (.getfield 217, 3) := by decide +kernel
theorem d_M_layText_48 : decode prog_14_method_25_code 48 = .ok (.if_icmp .ge 66, 3) := by decide +kernel
theorem d_M_layText_51 : decode prog_14_method_25_code 51 = .ok (.iload 6, 2) := by decide +kernel
theorem d_M_layText_53 : decode prog_14_method_25_code 53 = .ok (.aload_n 0, 1) := by decide +kernel
theorem d_M_layText_54 : decode prog_14_method_25_code 54 = .ok (.aload_n 0, 1) := by decide +kernel
theorem d_M_layText_55 : decode prog_14_method_25_code 55 = .ok (.getfield 85, 3) := by decide +kernel
theorem d_M_layText_58 : decode prog_14_method_25_code 58 = .ok (.iconst 4, 1) := by decide +kernel
theorem d_M_layText_59 : decode prog_14_method_25_code 59 = .ok (.iload 7, 2) := by decide +kernel
theorem d_M_layText_61 : decode prog_14_method_25_code 61 = .ok (.imul, 1) := by decide +kernel
theorem d_M_layText_62 : decode prog_14_method_25_code 62 = .ok (.iaload, 1) := by decide +kernel
theorem d_M_layText_63 : decode prog_14_method_25_code 63 = .ok (.aload_n 0, 1) := by decide +kernel
theorem d_M_layText_64 : decode prog_14_method_25_code 64 = .ok (.getfield 85, 3) := by decide +kernel
theorem d_M_layText_67 : decode prog_14_method_25_code 67 = .ok (.iconst 4, 1) := by decide +kernel
theorem d_M_layText_68 : decode prog_14_method_25_code 68 = .ok (.iload 7, 2) := by decide +kernel
theorem d_M_layText_70 : decode prog_14_method_25_code 70 = .ok (.imul, 1) := by decide +kernel
theorem d_M_layText_71 : decode prog_14_method_25_code 71 = .ok (.iconst 1, 1) := by decide +kernel
theorem d_M_layText_72 : decode prog_14_method_25_code 72 = .ok (.iadd, 1) := by decide +kernel
theorem d_M_layText_73 : decode prog_14_method_25_code 73 = .ok (.iaload, 1) := by decide +kernel
theorem d_M_layText_74 : decode prog_14_method_25_code 74 = .ok (.aload_n 0, 1) := by decide +kernel
theorem d_M_layText_75 : decode prog_14_method_25_code 75 = .ok (.getfield 85, 3) := by decide +kernel
theorem d_M_layText_78 : decode prog_14_method_25_code 78 = .ok (.iconst 4, 1) := by decide +kernel
theorem d_M_layText_79 : decode prog_14_method_25_code 79 = .ok (.iload 5, 2) := by decide +kernel
theorem d_M_layText_81 : decode prog_14_method_25_code 81 = .ok (.imul, 1) := by decide +kernel
theorem d_M_layText_82 : decode prog_14_method_25_code 82 = .ok (.iaload, 1) := by decide +kernel
theorem d_M_layText_83 : decode prog_14_method_25_code 83 = .ok (.aload_n 0, 1) := by decide +kernel
theorem d_M_layText_84 : decode prog_14_method_25_code 84 = .ok (.getfield 85, 3) := by decide +kernel
theorem d_M_layText_87 : decode prog_14_method_25_code 87 = .ok (.iconst 4, 1) := by decide +kernel
theorem d_M_layText_88 : decode prog_14_method_25_code 88 = .ok (.iload 5, 2) := by decide +kernel
theorem d_M_layText_90 : decode prog_14_method_25_code 90 = .ok (.imul, 1) := by decide +kernel
theorem d_M_layText_91 : decode prog_14_method_25_code 91 = .ok (.iconst 1, 1) := by decide +kernel
theorem d_M_layText_92 : decode prog_14_method_25_code 92 = .ok (.iadd, 1) := by decide +kernel
theorem d_M_layText_93 : decode prog_14_method_25_code 93 = .ok (.iaload, 1) := by decide +kernel
theorem d_M_layText_94 : decode prog_14_method_25_code 94 = .ok (.invokevirtual 228, 3) := by decide +kernel
theorem d_M_layText_97 : decode prog_14_method_25_code 97 = .ok (.ifCond .ge 7, 3) := by decide +kernel
theorem d_M_layText_104 : decode prog_14_method_25_code 104 = .ok (.iconst 0, 1) := by decide +kernel
theorem d_M_layText_105 : decode prog_14_method_25_code 105 = .ok (.iadd, 1) := by decide +kernel
theorem d_M_layText_106 : decode prog_14_method_25_code 106 = .ok (.istore 6, 2) := by decide +kernel
theorem d_M_layText_108 : decode prog_14_method_25_code 108 = .ok (.iinc 7 1, 3) := by decide +kernel
theorem d_M_layText_111 : decode prog_14_method_25_code 111 = .ok (.goto (-69), 3) := by decide +kernel
theorem d_M_layText_100 : decode prog_14_method_25_code 100 = .ok (.iconst 1, 1) := by decide +kernel
theorem d_M_layText_101 : decode prog_14_method_25_code 101 = .ok (.goto 4, 3) := by decide +kernel
set_option maxHeartbeats 4000000 in
set_option maxRecDepth 100000 in
theorem k_layText (l : Launch) (D : va_G) (dA : Nat → ClassId) (sz : Nat) (h : Nat) (ad : Nat → Nat) (x : MS) (h1 : x.seriesCount ≤ 256) (hc6 : x.labelCount ≤ 6) (hlb : labOk x.labels x.length x.labelCount) (hl1 : x.length ≤ 65536) (hby : byteF x.tape) : Met l ⟨"SeriesVaultModel", "layText", "()I"⟩ [Cond.code ⟨"SeriesVaultModel", "layText", "()I"⟩ prog_14_method_25_code 8 (some FieldType.int)] { frames := 2, cells := 0, slots := 0, locals := 25 } (pC D dA [.ref h] (MW dA h ad x) sz) (va_Qi (fun (r9 : Int32) (u9 : Unit) => r9 = nI (x.layT x.labelCount).2) (fun (u9 : Unit) t9 => bW D (va_A (MW dA h ad x) sz) (MW dA h ad (MS.s_texts x ((x.layT x.labelCount).1))) t9) (va_A (MW dA h ad x) sz)) 0 0 (va_A (MW dA h ad x) sz) := by
  refine mkC (y := ⟨"SeriesVaultModel", "layText", "()I"⟩) (cc := prog_14_method_25_code) (maxL := 8) (av := [.ref h]) (ws := MW dA h ad x) (sz := sz) (Qc := fun A => va_Qi (fun (r9 : Int32) (u9 : Unit) => r9 = nI (x.layT x.labelCount).2) (fun (u9 : Unit) t9 => bW D A (MW dA h ad (MS.s_texts x ((x.layT x.labelCount).1))) t9) A) (by decide) (Nat.le_of_ble_eq_true rfl) ?_
  intro A p e s m below meth c ls hsz hB
  obtain ⟨hx, hb, hr, hml, hown, hin, hlk, hE, hK, hP, hD, hS, hA, hN, hl⟩ := hB
  have hown : s.vm.findClass "SeriesVaultModel" = some m.cls := hown
  have hl : lv_has ls 8 [(0, .ref h)] := hl
  obtain ⟨H, hH⟩ : ∃ z, z = s.heap := ⟨_, rfl⟩
  have hP : va_P D vwCl (MW dA h ad x) H := by rw [hH]; exact hP
  have hS : va_S A s.heap H [] := by rw [hH]; exact hS
  rw [← hH]
  refine lv_sipush (v := 304) hx hb d_M_layText_0 (by decide) ?_
  refine lv_aload_n hx hb d_M_layText_3 rfl (lv_at hl 0 rfl) ?_
  refine gF (v := .int (nI x.seriesCount)) hx hb hown hE hK hP 0 rfl rfl layM 12 (by decide) w332 rfl d_M_layText_4 ?_
  refine lv_imul hx hb d_M_layText_7 (tpi (y := nI (304 * x.seriesCount)) (pk_mul (304) (x.seriesCount)) ?_)
  refine lv_istore_n hx hb d_M_layText_8 rfl hl (by decide) rfl (fun ls hl => ?_)
  have hl : lv_has ls 8 [(1, .int (nI (304 * x.seriesCount))), (0, .ref h)] := hl
  refine lv_iconst (v := 0) hx hb d_M_layText_9 (by decide) ?_
  refine lv_istore_n hx hb d_M_layText_10 rfl hl (by decide) rfl (fun ls hl => ?_)
  have hl : lv_has ls 8 [(2, .int 0), (1, .int (nI (304 * x.seriesCount))), (0, .ref h)] := hl
  refine lv_iconst (v := 0) hx hb d_M_layText_11 (by decide) ?_
  refine lv_istore_n hx hb d_M_layText_12 rfl hl (by decide) rfl (fun ls hl => ?_)
  have hl : lv_has ls 8 [(3, .int 0), (2, .int 0), (1, .int (nI (304 * x.seriesCount))), (0, .ref h)] := hl
  have L13 : ∀ (k9 : Nat) (t : Nat) (n : Nat) (tx : Nat → Int32) (i1 : t ≤ x.labelCount) (i2 : x.layT t = (tx, n)) (i3 : n ≤ 50 * t) (hk9 : x.labelCount - t = k9), ∀ (H : Heap) (locs : List Loc) (ls : Array Slot) (hP : va_P D vwCl (MW dA h ad (MS.s_texts x tx)) H) (hD : va_D A (MW dA h ad (MS.s_texts x tx))) (hS : va_S A s.heap H locs) (hl : lv_has ls 8 [(3, .int (nI t)), (2, .int (nI n)), (1, .int (nI (304 * x.seriesCount))), (0, .ref h)]), W p l e ({ frames := 2, cells := 0, slots := 0, locals := 25 } : Room) s m ([.ref h] : List Value).toArray below meth c H locs 0 0 (MQ below (va_Qi (fun (r9 : Int32) (u9 : Unit) => r9 = nI (x.layT x.labelCount).2) (fun (u9 : Unit) t9 => bW D A (MW dA h ad (MS.s_texts x ((x.layT x.labelCount).1))) t9) A) ([.ref h] : List Value).toArray s 0 0 A) (F0 m 13 ls []) := by
    intro k9
    induction k9 using Nat.strongRecOn with
    | ind k9 ih13 =>
      intro t n tx i1 i2 i3 hk9 H locs ls hP hD hS hl
      refine lv_iload_n hx hb d_M_layText_13 rfl (lv_at hl 0 rfl) ?_
      refine lv_aload_n hx hb d_M_layText_14 rfl (lv_at hl 3 rfl) ?_
      refine gF (v := .int (nI x.labelCount)) hx hb hown hE hK hP 0 rfl rfl layM 43 (by decide) w425 rfl d_M_layText_15 ?_
      refine lv_icmp_ge hx hb d_M_layText_18 (tgt := 229) rfl (fun g1 => ?_) (fun g1 => ?_)
      · have g1 := (nI_leI (a := x.labelCount) (b := t) (by omega) (by omega)).mp g1
        refine lv_iload_n hx hb d_M_layText_229 rfl (lv_at hl 1 rfl) ?_
        have e9 : (MS.s_texts x tx : MS) = MS.s_texts x ((x.layT x.labelCount).1) := by rw [show ((x.layT x.labelCount).1) = tx from by (rw [← show t = x.labelCount by omega, i2])] <;> rfl
        exact rfI hx hb hr hlk hS () (by rw [← show t = x.labelCount by omega, i2]) (cvP e9 hP) (cvD e9 hD) (Nat.le_of_ble_eq_true rfl) (Nat.le_of_ble_eq_true rfl) d_M_layText_230
      · have g1 := mt (nI_leI (a := x.labelCount) (b := t) (by omega) (by omega)).mpr g1
        have J135 : ∀ (wv : Nat) (i9 : x.wh t = wv), ∀ (H : Heap) (locs : List Loc) (ls : Array Slot) (hP : va_P D vwCl (MW dA h ad (MS.s_texts x tx)) H) (hD : va_D A (MW dA h ad (MS.s_texts x tx))) (hS : va_S A s.heap H locs) (hl : lv_has ls 8 [(4, .int (nI wv)), (3, .int (nI t)), (2, .int (nI n)), (1, .int (nI (304 * x.seriesCount))), (0, .ref h)]), W p l e ({ frames := 2, cells := 0, slots := 0, locals := 25 } : Room) s m ([.ref h] : List Value).toArray below meth c H locs 0 0 (MQ below (va_Qi (fun (r9 : Int32) (u9 : Unit) => r9 = nI (x.layT x.labelCount).2) (fun (u9 : Unit) t9 => bW D A (MW dA h ad (MS.s_texts x ((x.layT x.labelCount).1))) t9) A) ([.ref h] : List Value).toArray s 0 0 A) (F0 m 135 ls []) := by
          intro wv i9 H locs ls hP hD hS hl
          have w1 : wv < x.labelCount := by rw [← i9]; exact whG_lt x t x.labelCount (by omega)
          have w2 := hlb wv w1
          have w3 := w2.1
          have w4 := w2.2.1
          have w5 := w2.2.2.1
          have w6 := w2.2.2.2
          have J152 : ∀ (n2 : Nat) (t2 : Nat → Int32) (p1 : n2 ≤ n + 1) (p2 : x.layT (t + 1) = (cpG x.tape t2 (x.labels (4 * wv)) (304 * x.seriesCount + n2) (x.lbL wv), n2 + x.lbL wv)), ∀ (H : Heap) (locs : List Loc) (ls : Array Slot) (hP : va_P D vwCl (MW dA h ad (MS.s_texts x t2)) H) (hD : va_D A (MW dA h ad (MS.s_texts x t2))) (hS : va_S A s.heap H locs) (hl : lv_has ls 8 [(2, .int (nI n2)), (4, .int (nI wv)), (3, .int (nI t)), (1, .int (nI (304 * x.seriesCount))), (0, .ref h)]), W p l e ({ frames := 2, cells := 0, slots := 0, locals := 25 } : Room) s m ([.ref h] : List Value).toArray below meth c H locs 0 0 (MQ below (va_Qi (fun (r9 : Int32) (u9 : Unit) => r9 = nI (x.layT x.labelCount).2) (fun (u9 : Unit) t9 => bW D A (MW dA h ad (MS.s_texts x ((x.layT x.labelCount).1))) t9) A) ([.ref h] : List Value).toArray s 0 0 A) (F0 m 152 ls []) := by
            intro n2 t2 p1 p2 H locs ls hP hD hS hl
            refine lv_aload_n hx hb d_M_layText_152 rfl (lv_at hl 4 rfl) ?_
            refine gF (v := .ref (ad 42)) hx hb hown hE hK hP 0 rfl rfl layM 42 (by decide) w517 rfl d_M_layText_153 ?_
            refine lv_iconst (v := 4) hx hb d_M_layText_156 (by decide) ?_
            refine lv_iload hx hb d_M_layText_157 (lv_at hl 1 rfl) ?_
            refine lv_imul hx hb d_M_layText_159 (tpi (y := nI (4 * wv)) (pk_mul (4) (wv)) ?_)
            refine nild (f := (fun z9 => nI (x.labels z9))) hx hb hK hP 20 1 rfl rfl (4 * wv) (by omega) (by decide) d_M_layText_160 ?_
            refine lv_istore hx hb d_M_layText_161 hl (by decide) rfl (fun ls hl => ?_)
            have hl : lv_has ls 8 [(5, .int (nI (x.labels (4 * wv)))), (2, .int (nI n2)), (4, .int (nI wv)), (3, .int (nI t)), (1, .int (nI (304 * x.seriesCount))), (0, .ref h)] := hl
            refine lv_aload_n hx hb d_M_layText_163 rfl (lv_at hl 5 rfl) ?_
            refine gF (v := .ref (ad 42)) hx hb hown hE hK hP 0 rfl rfl layM 42 (by decide) w517 rfl d_M_layText_164 ?_
            refine lv_iconst (v := 4) hx hb d_M_layText_167 (by decide) ?_
            refine lv_iload hx hb d_M_layText_168 (lv_at hl 2 rfl) ?_
            refine lv_imul hx hb d_M_layText_170 (tpi (y := nI (4 * wv)) (pk_mul (4) (wv)) ?_)
            refine lv_iconst (v := 2) hx hb d_M_layText_171 (by decide) ?_
            refine lv_iadd hx hb d_M_layText_172 (tpi (y := nI ((4 * wv) + 2)) (nI_add (4 * wv) (2)) ?_)
            refine nild (f := (fun z9 => nI (x.labels z9))) hx hb hK hP 20 1 rfl rfl ((4 * wv) + 2) (by omega) (by decide) d_M_layText_173 ?_
            refine lv_aload_n hx hb d_M_layText_174 rfl (lv_at hl 5 rfl) ?_
            refine gF (v := .ref (ad 42)) hx hb hown hE hK hP 0 rfl rfl layM 42 (by decide) w517 rfl d_M_layText_175 ?_
            refine lv_iconst (v := 4) hx hb d_M_layText_178 (by decide) ?_
            refine lv_iload hx hb d_M_layText_179 (lv_at hl 2 rfl) ?_
            refine lv_imul hx hb d_M_layText_181 (tpi (y := nI (4 * wv)) (pk_mul (4) (wv)) ?_)
            refine lv_iconst (v := 3) hx hb d_M_layText_182 (by decide) ?_
            refine lv_iadd hx hb d_M_layText_183 (tpi (y := nI ((4 * wv) + 3)) (nI_add (4 * wv) (3)) ?_)
            refine nild (f := (fun z9 => nI (x.labels z9))) hx hb hK hP 20 1 rfl rfl ((4 * wv) + 3) (by omega) (by decide) d_M_layText_184 ?_
            refine lv_iadd hx hb d_M_layText_185 (tpi (y := nI ((x.labels ((4 * wv) + 2)) + (x.labels ((4 * wv) + 3)))) (nI_add (x.labels ((4 * wv) + 2)) (x.labels ((4 * wv) + 3))) ?_)
            refine lv_istore hx hb d_M_layText_186 hl (by decide) rfl (fun ls hl => ?_)
            have hl : lv_has ls 8 [(6, .int (nI ((x.labels ((4 * wv) + 2)) + (x.labels ((4 * wv) + 3))))), (5, .int (nI (x.labels (4 * wv)))), (2, .int (nI n2)), (4, .int (nI wv)), (3, .int (nI t)), (1, .int (nI (304 * x.seriesCount))), (0, .ref h)] := hl
            refine lv_iload hx hb d_M_layText_188 (lv_at hl 1 rfl) ?_
            refine lv_istore hx hb d_M_layText_190 hl (by decide) rfl (fun ls hl => ?_)
            have hl : lv_has ls 8 [(7, .int (nI (x.labels (4 * wv)))), (6, .int (nI ((x.labels ((4 * wv) + 2)) + (x.labels ((4 * wv) + 3))))), (5, .int (nI (x.labels (4 * wv)))), (2, .int (nI n2)), (4, .int (nI wv)), (3, .int (nI t)), (1, .int (nI (304 * x.seriesCount))), (0, .ref h)] := hl
            have L192 : ∀ (k9 : Nat) (r : Nat) (m1 : r ≤ x.lbL wv) (hk9 : x.lbL wv - r = k9), ∀ (H : Heap) (locs : List Loc) (ls : Array Slot) (hP : va_P D vwCl (MW dA h ad (MS.s_texts x (cpG x.tape t2 (x.labels (4 * wv)) (304 * x.seriesCount + n2) r))) H) (hD : va_D A (MW dA h ad (MS.s_texts x (cpG x.tape t2 (x.labels (4 * wv)) (304 * x.seriesCount + n2) r)))) (hS : va_S A s.heap H locs) (hl : lv_has ls 8 [(7, .int (nI (x.labels (4 * wv) + r))), (6, .int (nI (x.labels ((4 * wv) + 2) + x.labels ((4 * wv) + 3)))), (5, .int (nI (x.labels (4 * wv)))), (2, .int (nI (n2 + r))), (3, .int (nI t)), (1, .int (nI (304 * x.seriesCount))), (0, .ref h)]), W p l e ({ frames := 2, cells := 0, slots := 0, locals := 25 } : Room) s m ([.ref h] : List Value).toArray below meth c H locs 0 0 (MQ below (va_Qi (fun (r9 : Int32) (u9 : Unit) => r9 = nI (x.layT x.labelCount).2) (fun (u9 : Unit) t9 => bW D A (MW dA h ad (MS.s_texts x ((x.layT x.labelCount).1))) t9) A) ([.ref h] : List Value).toArray s 0 0 A) (F0 m 192 ls []) := by
              intro k9
              induction k9 using Nat.strongRecOn with
              | ind k9 ih192 =>
                intro r m1 hk9 H locs ls hP hD hS hl
                have m5 : x.lbL wv = x.labels (4 * wv + 2) + x.labels (4 * wv + 3) - x.labels (4 * wv) := rfl
                have m2 : r ≤ x.labels (4 * wv + 2) + x.labels (4 * wv + 3) - x.labels (4 * wv) := m1
                refine lv_iload hx hb d_M_layText_192 (lv_at hl 0 rfl) ?_
                refine lv_iload hx hb d_M_layText_194 (lv_at hl 1 rfl) ?_
                refine lv_icmp_ge hx hb d_M_layText_196 (tgt := 223) rfl (fun g2 => ?_) (fun g2 => ?_)
                · have g2 := (nI_leI (a := x.labels ((4 * wv) + 2) + x.labels ((4 * wv) + 3)) (b := x.labels (4 * wv) + r) (by omega) (by omega)).mp g2
                  have m3 : r = x.lbL wv := by show r = x.labels (4 * wv + 2) + x.labels (4 * wv + 3) - x.labels (4 * wv); omega
                  have m4 : r ≤ 49 := by omega
                  have it2 : x.layT (t + 1) = (cpG x.tape t2 (x.labels (4 * wv)) (304 * x.seriesCount + n2) r, n2 + r) := by rw [p2, m3]
                  refine lv_iinc (k := 4) (v := nI (t + 1)) hx hb d_M_layText_223 hl rfl (iincN (t) 1 1 (by decide)) (by decide) rfl (fun ls hl => ?_)
                  have hl : lv_has ls 8 [(3, .int (nI (t + 1))), (7, .int (nI (x.labels (4 * wv) + r))), (6, .int (nI (x.labels ((4 * wv) + 2) + x.labels ((4 * wv) + 3)))), (5, .int (nI (x.labels (4 * wv)))), (2, .int (nI (n2 + r))), (1, .int (nI (304 * x.seriesCount))), (0, .ref h)] := hl
                  refine lv_goto hx hb d_M_layText_226 (tgt := 13) rfl ?_
                  exact ih13 _ (by omega) (t + 1) (n2 + r) (cpG x.tape t2 (x.labels (4 * wv)) (304 * x.seriesCount + n2) r) (by omega) it2 (by omega) rfl H _ ls hP hD hS (lv_sub hl [0, 4, 5, 6] rfl)
                · have g2 := mt (nI_leI (a := x.labels ((4 * wv) + 2) + x.labels ((4 * wv) + 3)) (b := x.labels (4 * wv) + r) (by omega) (by omega)).mpr g2
                  refine lv_aload_n hx hb d_M_layText_199 rfl (lv_at hl 6 rfl) ?_
                  refine gF (v := .ref (ad 10)) hx hb hown hE hK hP 0 rfl rfl layM 10 (by decide) w499 rfl d_M_layText_200 ?_
                  refine lv_iload_n hx hb d_M_layText_203 rfl (lv_at hl 5 rfl) ?_
                  refine lv_iload_n hx hb d_M_layText_204 rfl (lv_at hl 3 rfl) ?_
                  refine lv_iadd hx hb d_M_layText_205 (tpi (y := nI ((304 * x.seriesCount) + (n2 + r))) (nI_add (304 * x.seriesCount) (n2 + r)) ?_)
                  refine lv_aload_n hx hb d_M_layText_206 rfl (lv_at hl 6 rfl) ?_
                  refine gF (v := .ref (ad 1)) hx hb hown hE hK hP 0 rfl rfl layM 1 (by decide) w497 rfl d_M_layText_207 ?_
                  refine lv_iload hx hb d_M_layText_210 (lv_at hl 0 rfl) ?_
                  refine nbld (f := x.tape) hx hb hK hP 1 0 rfl rfl (x.labels (4 * wv) + r) (by omega) (by decide) d_M_layText_212 ?_
                  refine nbst hx hb hK hP hD hS 2 0 rfl rfl ((304 * x.seriesCount) + (n2 + r)) (by omega) (by decide) (x.tape (x.labels (4 * wv) + r)) (byteF_n hby _) d_M_layText_213 (fun H locs hP hD hS => ?_)
                  have hP : va_P D vwCl (MW dA h ad (MS.s_texts x (va_up (cpG x.tape t2 (x.labels (4 * wv)) (304 * x.seriesCount + n2) r) ((304 * x.seriesCount) + (n2 + r)) (x.tape (x.labels (4 * wv) + r))))) H := hP
                  have hD : va_D A (MW dA h ad (MS.s_texts x (va_up (cpG x.tape t2 (x.labels (4 * wv)) (304 * x.seriesCount + n2) r) ((304 * x.seriesCount) + (n2 + r)) (x.tape (x.labels (4 * wv) + r))))) := hD
                  refine lv_iinc (k := 3) (v := nI (n2 + r + 1)) hx hb d_M_layText_214 hl rfl (iincN (n2 + r) 1 1 (by decide)) (by decide) rfl (fun ls hl => ?_)
                  have hl : lv_has ls 8 [(2, .int (nI (n2 + r + 1))), (7, .int (nI (x.labels (4 * wv) + r))), (6, .int (nI (x.labels ((4 * wv) + 2) + x.labels ((4 * wv) + 3)))), (5, .int (nI (x.labels (4 * wv)))), (3, .int (nI t)), (1, .int (nI (304 * x.seriesCount))), (0, .ref h)] := hl
                  refine lv_iinc (k := 1) (v := nI ((x.labels (4 * wv) + r) + 1)) hx hb d_M_layText_217 hl rfl (iincN (x.labels (4 * wv) + r) 1 1 (by decide)) (by decide) rfl (fun ls hl => ?_)
                  have hl : lv_has ls 8 [(7, .int (nI ((x.labels (4 * wv) + r) + 1))), (2, .int (nI (n2 + r + 1))), (6, .int (nI (x.labels ((4 * wv) + 2) + x.labels ((4 * wv) + 3)))), (5, .int (nI (x.labels (4 * wv)))), (3, .int (nI t)), (1, .int (nI (304 * x.seriesCount))), (0, .ref h)] := hl
                  refine lv_goto hx hb d_M_layText_220 (tgt := 192) rfl ?_
                  have e9 : (MS.s_texts x (va_up (cpG x.tape t2 (x.labels (4 * wv)) (304 * x.seriesCount + n2) r) ((304 * x.seriesCount) + (n2 + r)) (x.tape (x.labels (4 * wv) + r))) : MS) = MS.s_texts x (cpG x.tape t2 (x.labels (4 * wv)) (304 * x.seriesCount + n2) (r + 1)) := by rw [show (cpG x.tape t2 (x.labels (4 * wv)) (304 * x.seriesCount + n2) (r + 1)) = (va_up (cpG x.tape t2 (x.labels (4 * wv)) (304 * x.seriesCount + n2) r) ((304 * x.seriesCount) + (n2 + r)) (x.tape (x.labels (4 * wv) + r))) from (by first | rfl | (show va_up _ (304 * x.seriesCount + n2 + r) _ = _; rw [Nat.add_assoc]))] <;> rfl
                  exact ih192 _ (by omega) (r + 1) (by show r + 1 ≤ x.labels (4 * wv + 2) + x.labels (4 * wv + 3) - x.labels (4 * wv); omega) rfl H _ ls (cvP e9 hP) (cvD e9 hD) hS (lv_sub hl [0, 2, 3, 1, 4, 5, 6] rfl)
            have e9 : (MS.s_texts x t2 : MS) = MS.s_texts x (cpG x.tape t2 (x.labels (4 * wv)) (304 * x.seriesCount + n2) 0) := by rw [show (cpG x.tape t2 (x.labels (4 * wv)) (304 * x.seriesCount + n2) 0) = t2 from (by first | rfl | (show va_up _ (304 * x.seriesCount + n2 + r) _ = _; rw [Nat.add_assoc]))] <;> rfl
            exact L192 _ 0 (Nat.zero_le _) rfl H _ ls (cvP e9 hP) (cvD e9 hD) hS (lv_sub hl [0, 1, 2, 3, 5, 6, 7] rfl)
          refine lv_iload_n hx hb d_M_layText_135 rfl (lv_at hl 1 rfl) ?_
          refine lv_if_le hx hb d_M_layText_136 (tgt := 152) rfl (fun g3 => ?_) (fun g3 => ?_)
          · have g3 := (nI_leI (a := t) (b := 0) (by omega) (by decide)).mp g3
            exact J152 n tx (by omega) (by have z9 := layT_0 i2 (by omega) rfl; rw [i9] at z9; exact z9) H _ ls hP hD hS (lv_sub hl [2, 0, 1, 3, 4] rfl)
          · have g3 := mt (nI_leI (a := t) (b := 0) (by omega) (by decide)).mpr g3
            refine lv_aload_n hx hb d_M_layText_139 rfl (lv_at hl 4 rfl) ?_
            refine gF (v := .ref (ad 10)) hx hb hown hE hK hP 0 rfl rfl layM 10 (by decide) w499 rfl d_M_layText_140 ?_
            refine lv_iload_n hx hb d_M_layText_143 rfl (lv_at hl 3 rfl) ?_
            refine lv_iload_n hx hb d_M_layText_144 rfl (lv_at hl 2 rfl) ?_
            refine lv_iadd hx hb d_M_layText_145 (tpi (y := nI ((304 * x.seriesCount) + n)) (nI_add (304 * x.seriesCount) (n)) ?_)
            refine lv_bipush (v := 44) hx hb d_M_layText_146 (by decide) ?_
            refine nbst hx hb hK hP hD hS 2 0 rfl rfl ((304 * x.seriesCount) + n) (by omega) (by decide) 44 (by decide) d_M_layText_148 (fun H locs hP hD hS => ?_)
            have hP : va_P D vwCl (MW dA h ad (MS.s_texts x (va_up tx ((304 * x.seriesCount) + n) 44))) H := hP
            have hD : va_D A (MW dA h ad (MS.s_texts x (va_up tx ((304 * x.seriesCount) + n) 44))) := hD
            refine lv_iinc (k := 2) (v := nI (n + 1)) hx hb d_M_layText_149 hl rfl (iincN (n) 1 1 (by decide)) (by decide) rfl (fun ls hl => ?_)
            have hl : lv_has ls 8 [(2, .int (nI (n + 1))), (4, .int (nI wv)), (3, .int (nI t)), (1, .int (nI (304 * x.seriesCount))), (0, .ref h)] := hl
            exact J152 (n + 1) (va_up tx ((304 * x.seriesCount) + n) 44) (by omega) (by have z9 := layT_1 i2 (by omega) rfl; rw [i9] at z9; exact z9) H _ ls hP hD hS (lv_sub hl [0, 1, 2, 3, 4] rfl)
        refine lv_iconst (v := 0) hx hb d_M_layText_21 (by decide) ?_
        refine lv_istore hx hb d_M_layText_22 hl (by decide) rfl (fun ls hl => ?_)
        have hl : lv_has ls 8 [(4, .int 0), (3, .int (nI t)), (2, .int (nI n)), (1, .int (nI (304 * x.seriesCount))), (0, .ref h)] := hl
        refine lv_iconst (v := 0) hx hb d_M_layText_24 (by decide) ?_
        refine lv_istore hx hb d_M_layText_25 hl (by decide) rfl (fun ls hl => ?_)
        have hl : lv_has ls 8 [(5, .int 0), (4, .int 0), (3, .int (nI t)), (2, .int (nI n)), (1, .int (nI (304 * x.seriesCount))), (0, .ref h)] := hl
        have L27 : ∀ (k9 : Nat) (k : Nat) (wv : Nat) (i4 : k ≤ x.labelCount) (i5 : x.whG t k = wv) (hk9 : x.labelCount - k = k9), ∀ (H : Heap) (locs : List Loc) (ls : Array Slot) (hP : va_P D vwCl (MW dA h ad (MS.s_texts x tx)) H) (hD : va_D A (MW dA h ad (MS.s_texts x tx))) (hS : va_S A s.heap H locs) (hl : lv_has ls 8 [(5, .int (nI k)), (4, .int (nI wv)), (3, .int (nI t)), (2, .int (nI n)), (1, .int (nI (304 * x.seriesCount))), (0, .ref h)]), W p l e ({ frames := 2, cells := 0, slots := 0, locals := 25 } : Room) s m ([.ref h] : List Value).toArray below meth c H locs 0 0 (MQ below (va_Qi (fun (r9 : Int32) (u9 : Unit) => r9 = nI (x.layT x.labelCount).2) (fun (u9 : Unit) t9 => bW D A (MW dA h ad (MS.s_texts x ((x.layT x.labelCount).1))) t9) A) ([.ref h] : List Value).toArray s 0 0 A) (F0 m 27 ls []) := by
          intro k9
          induction k9 using Nat.strongRecOn with
          | ind k9 ih27 =>
            intro k wv i4 i5 hk9 H locs ls hP hD hS hl
            refine lv_iload hx hb d_M_layText_27 (lv_at hl 0 rfl) ?_
            refine lv_aload_n hx hb d_M_layText_29 rfl (lv_at hl 5 rfl) ?_
            refine gF (v := .int (nI x.labelCount)) hx hb hown hE hK hP 0 rfl rfl layM 43 (by decide) w425 rfl d_M_layText_30 ?_
            refine lv_icmp_ge hx hb d_M_layText_33 (tgt := 135) rfl (fun g4 => ?_) (fun g4 => ?_)
            · have g4 := (nI_leI (a := x.labelCount) (b := k) (by omega) (by omega)).mp g4
              exact J135 wv (by unfold MS.wh; rw [← show k = x.labelCount by omega]; exact i5) H _ ls hP hD hS (lv_sub hl [1, 2, 3, 4, 5] rfl)
            · have g4 := mt (nI_leI (a := x.labelCount) (b := k) (by omega) (by omega)).mpr g4
              have J114 : ∀ (b : Nat) (i8x : b = cnt x.labelCount (x.blw k)), ∀ (H : Heap) (locs : List Loc) (ls : Array Slot) (hP : va_P D vwCl (MW dA h ad (MS.s_texts x tx)) H) (hD : va_D A (MW dA h ad (MS.s_texts x tx))) (hS : va_S A s.heap H locs) (hl : lv_has ls 8 [(6, .int (nI b)), (5, .int (nI k)), (4, .int (nI wv)), (3, .int (nI t)), (2, .int (nI n)), (1, .int (nI (304 * x.seriesCount))), (0, .ref h)]), W p l e ({ frames := 2, cells := 0, slots := 0, locals := 25 } : Room) s m ([.ref h] : List Value).toArray below meth c H locs 0 0 (MQ below (va_Qi (fun (r9 : Int32) (u9 : Unit) => r9 = nI (x.layT x.labelCount).2) (fun (u9 : Unit) t9 => bW D A (MW dA h ad (MS.s_texts x ((x.layT x.labelCount).1))) t9) A) ([.ref h] : List Value).toArray s 0 0 A) (F0 m 114 ls []) := by
                intro b i8x H locs ls hP hD hS hl
                have b7 := cnt_le x.labelCount (x.blw k)
                refine lv_iload hx hb d_M_layText_114 (lv_at hl 0 rfl) ?_
                refine lv_iload_n hx hb d_M_layText_116 rfl (lv_at hl 3 rfl) ?_
                refine lv_icmp_ne hx hb d_M_layText_117 (tgt := 125) rfl (fun g5 => ?_) (fun g5 => ?_)
                · have g5 := mt (nI_eq (a := b) (b := t) (by omega) (by omega)).mpr g5
                  refine lv_iload hx hb d_M_layText_125 (lv_at hl 2 rfl) ?_
                  refine lv_istore hx hb d_M_layText_127 hl (by decide) rfl (fun ls hl => ?_)
                  have hl : lv_has ls 8 [(4, .int (nI wv)), (6, .int (nI b)), (5, .int (nI k)), (3, .int (nI t)), (2, .int (nI n)), (1, .int (nI (304 * x.seriesCount))), (0, .ref h)] := hl
                  refine lv_iinc (k := 2) (v := nI (k + 1)) hx hb d_M_layText_129 hl rfl (iincN (k) 1 1 (by decide)) (by decide) rfl (fun ls hl => ?_)
                  have hl : lv_has ls 8 [(5, .int (nI (k + 1))), (4, .int (nI wv)), (6, .int (nI b)), (3, .int (nI t)), (2, .int (nI n)), (1, .int (nI (304 * x.seriesCount))), (0, .ref h)] := hl
                  refine lv_goto hx hb d_M_layText_132 (tgt := 27) rfl ?_
                  exact ih27 _ (by omega) (k + 1) wv (by omega) (by rw [whG_f (by rw [← i8x]; exact g5)]; exact i5) rfl H _ ls hP hD hS (lv_sub hl [0, 1, 3, 4, 5, 6] rfl)
                · have g5 := (nI_eq (a := b) (b := t) (by omega) (by omega)).mp g5
                  refine lv_iload hx hb d_M_layText_120 (lv_at hl 1 rfl) ?_
                  refine lv_goto hx hb d_M_layText_122 (tgt := 127) rfl ?_
                  refine lv_istore hx hb d_M_layText_127 hl (by decide) rfl (fun ls hl => ?_)
                  have hl : lv_has ls 8 [(4, .int (nI k)), (6, .int (nI b)), (5, .int (nI k)), (3, .int (nI t)), (2, .int (nI n)), (1, .int (nI (304 * x.seriesCount))), (0, .ref h)] := hl
                  refine lv_iinc (k := 2) (v := nI (k + 1)) hx hb d_M_layText_129 hl rfl (iincN (k) 1 1 (by decide)) (by decide) rfl (fun ls hl => ?_)
                  have hl : lv_has ls 8 [(5, .int (nI (k + 1))), (4, .int (nI k)), (6, .int (nI b)), (3, .int (nI t)), (2, .int (nI n)), (1, .int (nI (304 * x.seriesCount))), (0, .ref h)] := hl
                  refine lv_goto hx hb d_M_layText_132 (tgt := 27) rfl ?_
                  exact ih27 _ (by omega) (k + 1) k (by omega) (whG_t (i8x.symm.trans g5)) rfl H _ ls hP hD hS (lv_sub hl [0, 1, 3, 4, 5, 6] rfl)
              refine lv_iconst (v := 0) hx hb d_M_layText_36 (by decide) ?_
              refine lv_istore hx hb d_M_layText_37 hl (by decide) rfl (fun ls hl => ?_)
              have hl : lv_has ls 8 [(6, .int 0), (5, .int (nI k)), (4, .int (nI wv)), (3, .int (nI t)), (2, .int (nI n)), (1, .int (nI (304 * x.seriesCount))), (0, .ref h)] := hl
              refine lv_iconst (v := 0) hx hb d_M_layText_39 (by decide) ?_
              refine lv_istore hx hb d_M_layText_40 hl (by decide) rfl (fun ls hl => ?_)
              have hl : lv_has ls 8 [(7, .int 0), (6, .int 0), (5, .int (nI k)), (4, .int (nI wv)), (3, .int (nI t)), (2, .int (nI n)), (1, .int (nI (304 * x.seriesCount))), (0, .ref h)] := hl
              have L42 : ∀ (k9 : Nat) (j : Nat) (b : Nat) (i7 : j ≤ x.labelCount) (i8 : b = cnt j (x.blw k)) (hk9 : x.labelCount - j = k9), ∀ (H : Heap) (locs : List Loc) (ls : Array Slot) (hP : va_P D vwCl (MW dA h ad (MS.s_texts x tx)) H) (hD : va_D A (MW dA h ad (MS.s_texts x tx))) (hS : va_S A s.heap H locs) (hl : lv_has ls 8 [(7, .int (nI j)), (6, .int (nI b)), (5, .int (nI k)), (4, .int (nI wv)), (3, .int (nI t)), (2, .int (nI n)), (1, .int (nI (304 * x.seriesCount))), (0, .ref h)]), W p l e ({ frames := 2, cells := 0, slots := 0, locals := 25 } : Room) s m ([.ref h] : List Value).toArray below meth c H locs 0 0 (MQ below (va_Qi (fun (r9 : Int32) (u9 : Unit) => r9 = nI (x.layT x.labelCount).2) (fun (u9 : Unit) t9 => bW D A (MW dA h ad (MS.s_texts x ((x.layT x.labelCount).1))) t9) A) ([.ref h] : List Value).toArray s 0 0 A) (F0 m 42 ls []) := by
                intro k9
                induction k9 using Nat.strongRecOn with
                | ind k9 ih42 =>
                  intro j b i7 i8 hk9 H locs ls hP hD hS hl
                  refine lv_iload hx hb d_M_layText_42 (lv_at hl 0 rfl) ?_
                  refine lv_aload_n hx hb d_M_layText_44 rfl (lv_at hl 7 rfl) ?_
                  refine gF (v := .int (nI x.labelCount)) hx hb hown hE hK hP 0 rfl rfl layM 43 (by decide) w425 rfl d_M_layText_45 ?_
                  refine lv_icmp_ge hx hb d_M_layText_48 (tgt := 114) rfl (fun g6 => ?_) (fun g6 => ?_)
                  · have g6 := (nI_leI (a := x.labelCount) (b := j) (by omega) (by omega)).mp g6
                    exact J114 b (by rw [i8, show j = x.labelCount by omega]) H _ ls hP hD hS (lv_sub hl [1, 2, 3, 4, 5, 6, 7] rfl)
                  · have g6 := mt (nI_leI (a := x.labelCount) (b := j) (by omega) (by omega)).mpr g6
                    refine lv_iload hx hb d_M_layText_51 (lv_at hl 1 rfl) ?_
                    refine lv_aload_n hx hb d_M_layText_53 rfl (lv_at hl 7 rfl) ?_
                    refine lv_aload_n hx hb d_M_layText_54 rfl (lv_at hl 7 rfl) ?_
                    refine gF (v := .ref (ad 42)) hx hb hown hE hK hP 0 rfl rfl layM 42 (by decide) w517 rfl d_M_layText_55 ?_
                    refine lv_iconst (v := 4) hx hb d_M_layText_58 (by decide) ?_
                    refine lv_iload hx hb d_M_layText_59 (lv_at hl 0 rfl) ?_
                    refine lv_imul hx hb d_M_layText_61 (tpi (y := nI (4 * j)) (pk_mul (4) (j)) ?_)
                    refine nild (f := (fun z9 => nI (x.labels z9))) hx hb hK hP 20 1 rfl rfl (4 * j) (by omega) (by decide) d_M_layText_62 ?_
                    refine lv_aload_n hx hb d_M_layText_63 rfl (lv_at hl 7 rfl) ?_
                    refine gF (v := .ref (ad 42)) hx hb hown hE hK hP 0 rfl rfl layM 42 (by decide) w517 rfl d_M_layText_64 ?_
                    refine lv_iconst (v := 4) hx hb d_M_layText_67 (by decide) ?_
                    refine lv_iload hx hb d_M_layText_68 (lv_at hl 0 rfl) ?_
                    refine lv_imul hx hb d_M_layText_70 (tpi (y := nI (4 * j)) (pk_mul (4) (j)) ?_)
                    refine lv_iconst (v := 1) hx hb d_M_layText_71 (by decide) ?_
                    refine lv_iadd hx hb d_M_layText_72 (tpi (y := nI ((4 * j) + 1)) (nI_add (4 * j) (1)) ?_)
                    refine nild (f := (fun z9 => nI (x.labels z9))) hx hb hK hP 20 1 rfl rfl ((4 * j) + 1) (by omega) (by decide) d_M_layText_73 ?_
                    refine lv_aload_n hx hb d_M_layText_74 rfl (lv_at hl 7 rfl) ?_
                    refine gF (v := .ref (ad 42)) hx hb hown hE hK hP 0 rfl rfl layM 42 (by decide) w517 rfl d_M_layText_75 ?_
                    refine lv_iconst (v := 4) hx hb d_M_layText_78 (by decide) ?_
                    refine lv_iload hx hb d_M_layText_79 (lv_at hl 2 rfl) ?_
                    refine lv_imul hx hb d_M_layText_81 (tpi (y := nI (4 * k)) (pk_mul (4) (k)) ?_)
                    refine nild (f := (fun z9 => nI (x.labels z9))) hx hb hK hP 20 1 rfl rfl (4 * k) (by omega) (by decide) d_M_layText_82 ?_
                    refine lv_aload_n hx hb d_M_layText_83 rfl (lv_at hl 7 rfl) ?_
                    refine gF (v := .ref (ad 42)) hx hb hown hE hK hP 0 rfl rfl layM 42 (by decide) w517 rfl d_M_layText_84 ?_
                    refine lv_iconst (v := 4) hx hb d_M_layText_87 (by decide) ?_
                    refine lv_iload hx hb d_M_layText_88 (lv_at hl 2 rfl) ?_
                    refine lv_imul hx hb d_M_layText_90 (tpi (y := nI (4 * k)) (pk_mul (4) (k)) ?_)
                    refine lv_iconst (v := 1) hx hb d_M_layText_91 (by decide) ?_
                    refine lv_iadd hx hb d_M_layText_92 (tpi (y := nI ((4 * k) + 1)) (nI_add (4 * k) (1)) ?_)
                    refine nild (f := (fun z9 => nI (x.labels z9))) hx hb hK hP 20 1 rfl rfl ((4 * k) + 1) (by omega) (by decide) d_M_layText_93 ?_
                    refine jfI (rnV (As := [.int (nI (x.labels (4 * j))), .int (nI (x.labels ((4 * j) + 1))), .int (nI (x.labels (4 * k))), .int (nI (x.labels ((4 * k) + 1)))]) (rest := [.int (nI b)]) hx hb hml hown hE hK (hN _ _ hS) hP hD (k_compare l D dA H.size h ad (MS.s_texts x tx) (x.labels (4 * j)) (x.labels ((4 * j) + 1)) (x.labels (4 * k)) (x.labels ((4 * k) + 1)) (by have z9 := hlb j (by omega); have z1 := z9.1; have z2 := z9.2.1; have z3 := z9.2.2.2; omega) (by have z9 := hlb k (by omega); have z1 := z9.1; have z2 := z9.2.1; have z3 := z9.2.2.2; omega)) (q0 := 0) rfl rfl w939 w938 w940 w941 w328 rfl rfl ⟨⟨by decide, by decide⟩, rfl⟩ ⟨(Nat.le_of_ble_eq_true rfl), (Nat.le_of_ble_eq_true rfl)⟩ rfl hl.1 rfl (Nat.le_of_ble_eq_true rfl) d_M_layText_94 ⟨(Nat.le_of_ble_eq_true rfl), (Nat.le_of_ble_eq_true rfl)⟩) hP hD hS hA (fun r7 u8 H locs hp9 hP hD hS => ?_)
                    have hP : va_P D vwCl (MW dA h ad (MS.s_texts x tx)) H := hP
                    have hD : va_D A (MW dA h ad (MS.s_texts x tx)) := hD
                    replace hp9 : cmpT x.tape (x.labels (4 * j)) (x.labels ((4 * j) + 1)) (x.labels (4 * k)) (x.labels ((4 * k) + 1)) = r7 := Eq.symm hp9
                    subst hp9
                    refine lv_if_ge hx hb d_M_layText_97 (tgt := 104) rfl (fun g9 => ?_) (fun g9 => ?_)
                    · have g9 := g9
                      refine lv_iconst (v := 0) hx hb d_M_layText_104 (by decide) ?_
                      refine lv_iadd hx hb d_M_layText_105 (tpi (y := nI (b)) (nI_add (b) (0)) ?_)
                      refine lv_istore hx hb d_M_layText_106 hl (by decide) rfl (fun ls hl => ?_)
                      have hl : lv_has ls 8 [(6, .int (nI (b))), (7, .int (nI j)), (5, .int (nI k)), (4, .int (nI wv)), (3, .int (nI t)), (2, .int (nI n)), (1, .int (nI (304 * x.seriesCount))), (0, .ref h)] := hl
                      refine lv_iinc (k := 1) (v := nI (j + 1)) hx hb d_M_layText_108 hl rfl (iincN (j) 1 1 (by decide)) (by decide) rfl (fun ls hl => ?_)
                      have hl : lv_has ls 8 [(7, .int (nI (j + 1))), (6, .int (nI (b))), (5, .int (nI k)), (4, .int (nI wv)), (3, .int (nI t)), (2, .int (nI n)), (1, .int (nI (304 * x.seriesCount))), (0, .ref h)] := hl
                      refine lv_goto hx hb d_M_layText_111 (tgt := 42) rfl ?_
                      exact ih42 _ (by omega) (j + 1) b (by omega) (by rw [cnt_f (show x.blw k j = false from by show (!decide _) = false; rw [decide_eq_true g9]; rfl), i8]) rfl H _ ls hP hD hS (lv_sub hl [0, 1, 2, 3, 4, 5, 6, 7] rfl)
                    · have g9 := g9
                      refine lv_iconst (v := 1) hx hb d_M_layText_100 (by decide) ?_
                      refine lv_goto hx hb d_M_layText_101 (tgt := 105) rfl ?_
                      refine lv_iadd hx hb d_M_layText_105 (tpi (y := nI (b + 1)) (nI_add (b) (1)) ?_)
                      refine lv_istore hx hb d_M_layText_106 hl (by decide) rfl (fun ls hl => ?_)
                      have hl : lv_has ls 8 [(6, .int (nI (b + 1))), (7, .int (nI j)), (5, .int (nI k)), (4, .int (nI wv)), (3, .int (nI t)), (2, .int (nI n)), (1, .int (nI (304 * x.seriesCount))), (0, .ref h)] := hl
                      refine lv_iinc (k := 1) (v := nI (j + 1)) hx hb d_M_layText_108 hl rfl (iincN (j) 1 1 (by decide)) (by decide) rfl (fun ls hl => ?_)
                      have hl : lv_has ls 8 [(7, .int (nI (j + 1))), (6, .int (nI (b + 1))), (5, .int (nI k)), (4, .int (nI wv)), (3, .int (nI t)), (2, .int (nI n)), (1, .int (nI (304 * x.seriesCount))), (0, .ref h)] := hl
                      refine lv_goto hx hb d_M_layText_111 (tgt := 42) rfl ?_
                      exact ih42 _ (by omega) (j + 1) (b + 1) (by omega) (by rw [cnt_t (show x.blw k j = true from by show (!decide _) = true; rw [decide_eq_false g9]; rfl), i8]) rfl H _ ls hP hD hS (lv_sub hl [0, 1, 2, 3, 4, 5, 6, 7] rfl)
              exact L42 _ 0 0 (Nat.zero_le _) rfl rfl H _ ls hP hD hS (lv_sub hl [0, 1, 2, 3, 4, 5, 6, 7] rfl)
        exact L27 _ 0 0 (Nat.zero_le _) rfl rfl H _ ls hP hD hS (lv_sub hl [0, 1, 2, 3, 4, 5] rfl)
  exact L13 _ 0 0 x.texts (Nat.zero_le _) rfl (Nat.zero_le _) rfl H _ ls hP hD hS (lv_sub hl [0, 1, 2, 3] rfl)
end
section
def MS.rdS (x : MS) (c : Nat) (g : Nat → Nat) : MS := MS.s_labelCount (MS.s_labels (MS.s_faultPlace (MS.s_faultCode (MS.s_cod x 0) 0) 0) g) c
theorem nI_nm {w : Nat} (h : w < 2 ^ 31) : ¬ nI w = -1 := fun z => by
  have h1 := congrArg Int32.toInt z
  rw [nI_toInt h] at h1
  have h2 : (-1 : Int32).toInt = -1 := by decide
  omega
def MS.lyS (x : MS) : MS := x.s_texts (x.layT x.labelCount).1
theorem d_M_series_12 : decode prog_14_method_29_code 12 = .ok (.iconst 1, 1) := by decide +kernel
theorem d_M_series_23 : decode prog_14_method_29_code 23 = .ok (.iconst 0, 1) := by decide +kernel
theorem d_M_series_24 : decode prog_14_method_29_code 24 = .ok (.ireturn, 1) := by decide +kernel
set_option maxHeartbeats 4000000 in
set_option maxRecDepth 100000 in
theorem k_series_1 (l : Launch) (D : va_G) (dA : Nat → ClassId) (sz : Nat) (h : Nat) (ad : Nat → Nat) (x : MS) (ho : x.on = false) : Met l ⟨"SeriesVaultModel", "series", "()I"⟩ [Cond.code ⟨"SeriesVaultModel", "series", "()I"⟩ prog_14_method_29_code 5 (some FieldType.int)] { frames := 1, cells := 0, slots := 0, locals := 0 } (pC D dA [.ref h] (MW dA h ad x) sz) (va_Qi (fun (r9 : Int32) (u9 : Unit) => r9 = 0) (fun (u9 : Unit) t9 => bW D (va_A (MW dA h ad x) sz) (MW dA h ad (MS.s_cod x 1)) t9) (va_A (MW dA h ad x) sz)) 0 0 (va_A (MW dA h ad x) sz) := by
  refine mkC (y := ⟨"SeriesVaultModel", "series", "()I"⟩) (cc := prog_14_method_29_code) (maxL := 5) (av := [.ref h]) (ws := MW dA h ad x) (sz := sz) (Qc := fun A => va_Qi (fun (r9 : Int32) (u9 : Unit) => r9 = 0) (fun (u9 : Unit) t9 => bW D A (MW dA h ad (MS.s_cod x 1)) t9) A) (by decide) (Nat.le_of_ble_eq_true rfl) ?_
  intro A p e s m below meth c ls hsz hB
  obtain ⟨hx, hb, hr, hml, hown, hin, hlk, hE, hK, hP, hD, hS, hA, hN, hl⟩ := hB
  have hown : s.vm.findClass "SeriesVaultModel" = some m.cls := hown
  have hl : lv_has ls 5 [(0, .ref h)] := hl
  obtain ⟨H, hH⟩ : ∃ z, z = s.heap := ⟨_, rfl⟩
  have hP : va_P D vwCl (MW dA h ad x) H := by rw [hH]; exact hP
  have hS : va_S A s.heap H [] := by rw [hH]; exact hS
  rw [← hH]
  refine lv_aload_n hx hb d_M_series_0 rfl (lv_at hl 0 rfl) ?_
  refine lv_aload_n hx hb d_M_series_1 rfl (lv_at hl 0 rfl) ?_
  refine gF (v := .int (bI x.on)) hx hb hown hE hK hP 0 rfl rfl layM 7 (by decide) w324 rfl d_M_series_2 ?_
  refine lv_if_eq hx hb d_M_series_5 (tgt := 12) rfl (fun _ => ?_) (fun h9 => absurd (by rw [ho]; decide) h9)
  refine lv_iconst (v := 1) hx hb d_M_series_12 (by decide) ?_
  refine pF (v := .int 1) hx hb hown hE hK hP hD hS 0 rfl rfl layM tyM tokM nmM 0 (by decide) w319 rfl rfl rfl (Nat.le_of_ble_eq_true rfl) d_M_series_13 (fun H locs hP hD hS => ?_)
  have hP : va_P D vwCl (MW dA h ad (MS.s_cod x 1)) H := hP
  have hD : va_D A (MW dA h ad (MS.s_cod x 1)) := hD
  refine lv_aload_n hx hb d_M_series_16 rfl (lv_at hl 0 rfl) ?_
  refine gF (v := .int 1) hx hb hown hE hK hP 0 rfl rfl layM 0 (by decide) w319 rfl d_M_series_17 ?_
  refine lv_if_le hx hb d_M_series_20 (tgt := 25) rfl (fun h9 => absurd h9 (by decide)) (fun _ => ?_)
  refine lv_iconst (v := 0) hx hb d_M_series_23 (by decide) ?_
  exact rfI hx hb hr hlk hS () rfl hP hD (Nat.le_of_ble_eq_true rfl) (Nat.le_of_ble_eq_true rfl) d_M_series_24
set_option maxHeartbeats 4000000 in
set_option maxRecDepth 100000 in
theorem k_series_x (l : Launch) (D : va_G) (dA : Nat → ClassId) (sz : Nat) (h : Nat) (ad : Nat → Nat) (x : MS) (kf : Int32) (pf : Nat) (ho : x.on = true) (hl1 : x.length ≤ 65536) (hrd : rdM x.tape x.length 7 0 0 x.labels = .inl (kf, pf)) : Met l ⟨"SeriesVaultModel", "series", "()I"⟩ [Cond.code ⟨"SeriesVaultModel", "series", "()I"⟩ prog_14_method_29_code 5 (some FieldType.int)] { frames := 4, cells := 0, slots := 0, locals := 67 } (pC D dA [.ref h] (MW dA h ad x) sz) (va_Qi (fun (r9 : Int32) (u9 : MS) => r9 = (-1) ∧ ∃ (a1 : Nat → Nat) (a2 : Nat), u9 = (((((x.s_cod 0).s_length 0).s_faultCode kf).s_faultPlace (nI pf)).s_labels a1).s_labelCount a2) (fun (u9 : MS) t9 => bW D (va_A (MW dA h ad x) sz) (MW dA h ad u9) t9) (va_A (MW dA h ad x) sz)) 0 0 (va_A (MW dA h ad x) sz) := by
  refine mkC (y := ⟨"SeriesVaultModel", "series", "()I"⟩) (cc := prog_14_method_29_code) (maxL := 5) (av := [.ref h]) (ws := MW dA h ad x) (sz := sz) (Qc := fun A => va_Qi (fun (r9 : Int32) (u9 : MS) => r9 = (-1) ∧ ∃ (a1 : Nat → Nat) (a2 : Nat), u9 = (((((x.s_cod 0).s_length 0).s_faultCode kf).s_faultPlace (nI pf)).s_labels a1).s_labelCount a2) (fun (u9 : MS) t9 => bW D A (MW dA h ad u9) t9) A) (by decide) (Nat.le_of_ble_eq_true rfl) ?_
  intro A p e s m below meth c ls hsz hB
  obtain ⟨hx, hb, hr, hml, hown, hin, hlk, hE, hK, hP, hD, hS, hA, hN, hl⟩ := hB
  have hown : s.vm.findClass "SeriesVaultModel" = some m.cls := hown
  have hl : lv_has ls 5 [(0, .ref h)] := hl
  obtain ⟨H, hH⟩ : ∃ z, z = s.heap := ⟨_, rfl⟩
  have hP : va_P D vwCl (MW dA h ad x) H := by rw [hH]; exact hP
  have hS : va_S A s.heap H [] := by rw [hH]; exact hS
  rw [← hH]
  refine lv_aload_n hx hb d_M_series_0 rfl (lv_at hl 0 rfl) ?_
  refine lv_aload_n hx hb d_M_series_1 rfl (lv_at hl 0 rfl) ?_
  refine gF (v := .int (bI x.on)) hx hb hown hE hK hP 0 rfl rfl layM 7 (by decide) w324 rfl d_M_series_2 ?_
  refine lv_if_eq hx hb d_M_series_5 (tgt := 12) rfl (fun h9 => absurd h9 (by rw [ho]; decide)) (fun _ => ?_)
  refine lv_iconst (v := 0) hx hb d_M_series_8 (by decide) ?_
  refine lv_goto hx hb d_M_series_9 (tgt := 13) rfl ?_
  refine pF (v := .int 0) hx hb hown hE hK hP hD hS 0 rfl rfl layM tyM tokM nmM 0 (by decide) w319 rfl rfl rfl (Nat.le_of_ble_eq_true rfl) d_M_series_13 (fun H locs hP hD hS => ?_)
  have hP : va_P D vwCl (MW dA h ad (MS.s_cod x 0)) H := hP
  have hD : va_D A (MW dA h ad (MS.s_cod x 0)) := hD
  refine lv_aload_n hx hb d_M_series_16 rfl (lv_at hl 0 rfl) ?_
  refine gF (v := .int 0) hx hb hown hE hK hP 0 rfl rfl layM 0 (by decide) w319 rfl d_M_series_17 ?_
  refine lv_if_le hx hb d_M_series_20 (tgt := 25) rfl (fun _ => ?_) (fun h9 => absurd (by decide) h9)
  refine lv_aload_n hx hb d_M_series_25 rfl (lv_at hl 0 rfl) ?_
  refine gF (v := .int x.faultCode) hx hb hown hE hK hP 0 rfl rfl layM 3 (by decide) w321 rfl d_M_series_26 ?_
  refine lv_istore_n hx hb d_M_series_29 rfl hl (by decide) rfl (fun ls hl => ?_)
  have hl : lv_has ls 5 [(1, .int x.faultCode), (0, .ref h)] := hl
  refine lv_aload_n hx hb d_M_series_30 rfl (lv_at hl 1 rfl) ?_
  refine gF (v := .int x.faultPlace) hx hb hown hE hK hP 0 rfl rfl layM 4 (by decide) w322 rfl d_M_series_31 ?_
  refine lv_istore_n hx hb d_M_series_34 rfl hl (by decide) rfl (fun ls hl => ?_)
  have hl : lv_has ls 5 [(2, .int x.faultPlace), (1, .int x.faultCode), (0, .ref h)] := hl
  refine lv_aload_n hx hb d_M_series_35 rfl (lv_at hl 2 rfl) ?_
  refine lv_iconst (v := 0) hx hb d_M_series_36 (by decide) ?_
  refine pF (v := .int 0) hx hb hown hE hK hP hD hS 0 rfl rfl layM tyM tokM nmM 3 (by decide) w321 rfl rfl rfl (Nat.le_of_ble_eq_true rfl) d_M_series_37 (fun H locs hP hD hS => ?_)
  have hP : va_P D vwCl (MW dA h ad (MS.s_faultCode (MS.s_cod x 0) 0)) H := hP
  have hD : va_D A (MW dA h ad (MS.s_faultCode (MS.s_cod x 0) 0)) := hD
  refine lv_aload_n hx hb d_M_series_40 rfl (lv_at hl 2 rfl) ?_
  refine lv_iconst (v := 0) hx hb d_M_series_41 (by decide) ?_
  refine pF (v := .int 0) hx hb hown hE hK hP hD hS 0 rfl rfl layM tyM tokM nmM 4 (by decide) w322 rfl rfl rfl (Nat.le_of_ble_eq_true rfl) d_M_series_42 (fun H locs hP hD hS => ?_)
  have hP : va_P D vwCl (MW dA h ad (MS.s_faultPlace (MS.s_faultCode (MS.s_cod x 0) 0) 0)) H := hP
  have hD : va_D A (MW dA h ad (MS.s_faultPlace (MS.s_faultCode (MS.s_cod x 0) 0) 0)) := hD
  refine lv_aload_n hx hb d_M_series_45 rfl (lv_at hl 2 rfl) ?_
  refine jfI (rnV (As := []) (rest := []) hx hb hml hown hE hK (hN _ _ hS) hP hD (k_readLabels_x l D dA H.size h ad (MS.s_faultPlace (MS.s_faultCode (MS.s_cod x 0) 0) 0) kf pf (show x.length ≤ 65536 from by omega) rfl hrd) (q0 := 0) rfl rfl w435 w434 w436 w437 w328 rfl rfl ⟨⟨by decide, by decide⟩, rfl⟩ ⟨(Nat.le_of_ble_eq_true rfl), (Nat.le_of_ble_eq_true rfl)⟩ rfl hl.1 rfl (Nat.le_of_ble_eq_true rfl) d_M_series_46 ⟨(Nat.le_of_ble_eq_true rfl), (Nat.le_of_ble_eq_true rfl)⟩) hP hD hS hA (fun r1 u2 H locs hp9 hP hD hS => ?_)
  obtain ⟨y3, h9u⟩ : ∃ z9, z9 = u2 := ⟨_, rfl⟩
  subst h9u
  have hP : va_P D vwCl (MW dA h ad y3) H := hP
  have hD : va_D A (MW dA h ad y3) := hD
  obtain ⟨hp9, f_e_4⟩ := hp9
  replace hp9 : bI false = r1 := Eq.symm hp9
  subst hp9
  refine lv_if_ne hx hb d_M_series_49 (tgt := 59) rfl (fun h9 => absurd (by decide) h9) (fun _ => ?_)
  refine lv_aload_n hx hb d_M_series_52 rfl (lv_at hl 2 rfl) ?_
  refine lv_iconst (v := 0) hx hb d_M_series_53 (by decide) ?_
  refine pF (v := .int (nI 0)) hx hb hown hE hK hP hD hS 0 rfl rfl layM tyM tokM nmM 2 (by decide) w320 rfl rfl rfl (Nat.le_of_ble_eq_true rfl) d_M_series_54 (fun H locs hP hD hS => ?_)
  have hP : va_P D vwCl (MW dA h ad (MS.s_length y3 0)) H := hP
  have hD : va_D A (MW dA h ad (MS.s_length y3 0)) := hD
  refine lv_iconst (v := (-1)) hx hb d_M_series_57 (by decide) ?_
  exact rfI hx hb hr hlk hS (MS.s_length y3 0) ⟨rfl, by obtain ⟨a1, a2, h9⟩ := f_e_4; exact ⟨a1, a2, by rw [h9]⟩⟩ hP hD (Nat.le_of_ble_eq_true rfl) (Nat.le_of_ble_eq_true rfl) d_M_series_58
theorem d_M_series_64 : decode prog_14_method_29_code 64 = .ok (.aload_n 0, 1) := by decide +kernel
theorem d_M_series_65 : decode prog_14_method_29_code 65 = .ok (.iload_n 3, 1) := by decide +kernel
theorem d_M_series_66 : decode prog_14_method_29_code 66 = .ok (.invokevirtual 241, 3) := by decide +kernel
theorem d_M_series_69 : decode prog_14_method_29_code 69 = .ok (.istore 4, 2) := by decide +kernel
theorem d_M_series_71 : decode prog_14_method_29_code 71 = .ok (.iload 4, 2) := by decide +kernel
theorem d_M_series_73 : decode prog_14_method_29_code 73 = .ok (.iconst (-1), 1) := by decide +kernel
theorem d_M_series_74 : decode prog_14_method_29_code 74 = .ok (.if_icmp .ne 41, 3) := by decide +kernel
theorem d_M_series_115 : decode prog_14_method_29_code 115 = .ok (.iload 4, 2) := by decide +kernel
theorem d_M_series_117 : decode prog_14_method_29_code 117 = .ok (.iconst (-1), 1) := by decide +kernel
theorem d_M_series_118 : decode prog_14_method_29_code 118 = .ok (.if_icmp .ne 50, 3) := by decide +kernel
theorem d_M_series_168 : decode prog_14_method_29_code 168 = .ok (.aload_n 0, 1) := by decide +kernel
theorem d_M_series_169 : decode prog_14_method_29_code 169 = .ok (.iconst 0, 1) := by decide +kernel
theorem d_M_series_170 : decode prog_14_method_29_code 170 = .ok (.putfield 148, 3) := by decide +kernel
theorem d_M_series_173 : decode prog_14_method_29_code 173 = .ok (.iload 4, 2) := by decide +kernel
theorem d_M_series_175 : decode prog_14_method_29_code 175 = .ok (.ireturn, 1) := by decide +kernel
theorem d_M_series_59 : decode prog_14_method_29_code 59 = .ok (.aload_n 0, 1) := by decide +kernel
theorem d_M_series_60 : decode prog_14_method_29_code 60 = .ok (.invokevirtual 237, 3) := by decide +kernel
theorem d_M_series_63 : decode prog_14_method_29_code 63 = .ok (.istore_n 3, 1) := by decide +kernel
theorem w942 : Cond.methodLink "SeriesVaultModel" 241 ⟨"SeriesVaultModel", "find", "(I)I"⟩ ∈ aW := aw_of (tb_9 (List.mem_of_getElem? (i := 219) rfl)) rfl
theorem w943 : Cond.code ⟨"SeriesVaultModel", "find", "(I)I"⟩ prog_14_method_26_code 5 (some FieldType.int) ∈ aW := aw_of (tb_9 (List.mem_of_getElem? (i := 222) rfl)) rfl
theorem w944 : Cond.instanceMethod ⟨"SeriesVaultModel", "find", "(I)I"⟩ ∈ aW := aw_of (tb_9 (List.mem_of_getElem? (i := 221) rfl)) rfl
theorem w945 : Cond.selects "SeriesVaultModel" ⟨"SeriesVaultModel", "find", "(I)I"⟩ ⟨"SeriesVaultModel", "find", "(I)I"⟩ ∈ aW := aw_pr (List.mem_map.mpr ⟨_, pv_5 (List.mem_of_getElem? (i := 8) rfl), rfl⟩) rfl
theorem w946 : Cond.methodLink "SeriesVaultModel" 237 ⟨"SeriesVaultModel", "layText", "()I"⟩ ∈ aW := aw_of (tb_9 (List.mem_of_getElem? (i := 215) rfl)) rfl
theorem w947 : Cond.code ⟨"SeriesVaultModel", "layText", "()I"⟩ prog_14_method_25_code 8 (some FieldType.int) ∈ aW := aw_of (tb_9 (List.mem_of_getElem? (i := 218) rfl)) rfl
theorem w948 : Cond.instanceMethod ⟨"SeriesVaultModel", "layText", "()I"⟩ ∈ aW := aw_of (tb_9 (List.mem_of_getElem? (i := 217) rfl)) rfl
theorem w949 : Cond.selects "SeriesVaultModel" ⟨"SeriesVaultModel", "layText", "()I"⟩ ⟨"SeriesVaultModel", "layText", "()I"⟩ ∈ aW := aw_pr (List.mem_map.mpr ⟨_, pv_5 (List.mem_of_getElem? (i := 7) rfl), rfl⟩) rfl
set_option maxHeartbeats 4000000 in
set_option maxRecDepth 100000 in
theorem k_series_f (l : Launch) (D : va_G) (dA : Nat → ClassId) (sz : Nat) (h : Nat) (ad : Nat → Nat) (x : MS) (c7 : Nat) (g7 : Nat → Nat) (n : Nat) (w : Nat) (ho : x.on = true) (hl1 : x.length ≤ 65536) (hrd : rdM x.tape x.length 7 0 0 x.labels = .inr (c7, g7)) (h1 : x.seriesCount ≤ 256) (hc6 : c7 ≤ 6) (hlb : labOk g7 x.length c7) (hby : byteF x.tape) (hn : ((x.rdS c7 g7).layT c7).2 = n) (hn3 : n ≤ 304) (ht : ∀ q : Nat, q < x.seriesCount → x.textLengths q ≤ 304) (hfd : ((x.rdS c7 g7).lyS).fnd n = nI w) (hw : w < 256) : Met l ⟨"SeriesVaultModel", "series", "()I"⟩ [Cond.code ⟨"SeriesVaultModel", "series", "()I"⟩ prog_14_method_29_code 5 (some FieldType.int)] { frames := 4, cells := 0, slots := 0, locals := 67 } (pC D dA [.ref h] (MW dA h ad x) sz) (va_Qi (fun (r9 : Int32) (u9 : MS) => r9 = nI w ∧ u9 = ((x.rdS c7 g7).lyS).s_length 0) (fun (u9 : MS) t9 => bW D (va_A (MW dA h ad x) sz) (MW dA h ad u9) t9) (va_A (MW dA h ad x) sz)) 0 0 (va_A (MW dA h ad x) sz) := by
  refine mkC (y := ⟨"SeriesVaultModel", "series", "()I"⟩) (cc := prog_14_method_29_code) (maxL := 5) (av := [.ref h]) (ws := MW dA h ad x) (sz := sz) (Qc := fun A => va_Qi (fun (r9 : Int32) (u9 : MS) => r9 = nI w ∧ u9 = ((x.rdS c7 g7).lyS).s_length 0) (fun (u9 : MS) t9 => bW D A (MW dA h ad u9) t9) A) (by decide) (Nat.le_of_ble_eq_true rfl) ?_
  intro A p e s m below meth c ls hsz hB
  obtain ⟨hx, hb, hr, hml, hown, hin, hlk, hE, hK, hP, hD, hS, hA, hN, hl⟩ := hB
  have hown : s.vm.findClass "SeriesVaultModel" = some m.cls := hown
  have hl : lv_has ls 5 [(0, .ref h)] := hl
  obtain ⟨H, hH⟩ : ∃ z, z = s.heap := ⟨_, rfl⟩
  have hP : va_P D vwCl (MW dA h ad x) H := by rw [hH]; exact hP
  have hS : va_S A s.heap H [] := by rw [hH]; exact hS
  rw [← hH]
  refine lv_aload_n hx hb d_M_series_0 rfl (lv_at hl 0 rfl) ?_
  refine lv_aload_n hx hb d_M_series_1 rfl (lv_at hl 0 rfl) ?_
  refine gF (v := .int (bI x.on)) hx hb hown hE hK hP 0 rfl rfl layM 7 (by decide) w324 rfl d_M_series_2 ?_
  refine lv_if_eq hx hb d_M_series_5 (tgt := 12) rfl (fun h9 => absurd h9 (by rw [ho]; decide)) (fun _ => ?_)
  refine lv_iconst (v := 0) hx hb d_M_series_8 (by decide) ?_
  refine lv_goto hx hb d_M_series_9 (tgt := 13) rfl ?_
  refine pF (v := .int 0) hx hb hown hE hK hP hD hS 0 rfl rfl layM tyM tokM nmM 0 (by decide) w319 rfl rfl rfl (Nat.le_of_ble_eq_true rfl) d_M_series_13 (fun H locs hP hD hS => ?_)
  have hP : va_P D vwCl (MW dA h ad (MS.s_cod x 0)) H := hP
  have hD : va_D A (MW dA h ad (MS.s_cod x 0)) := hD
  refine lv_aload_n hx hb d_M_series_16 rfl (lv_at hl 0 rfl) ?_
  refine gF (v := .int 0) hx hb hown hE hK hP 0 rfl rfl layM 0 (by decide) w319 rfl d_M_series_17 ?_
  refine lv_if_le hx hb d_M_series_20 (tgt := 25) rfl (fun _ => ?_) (fun h9 => absurd (by decide) h9)
  refine lv_aload_n hx hb d_M_series_25 rfl (lv_at hl 0 rfl) ?_
  refine gF (v := .int x.faultCode) hx hb hown hE hK hP 0 rfl rfl layM 3 (by decide) w321 rfl d_M_series_26 ?_
  refine lv_istore_n hx hb d_M_series_29 rfl hl (by decide) rfl (fun ls hl => ?_)
  have hl : lv_has ls 5 [(1, .int x.faultCode), (0, .ref h)] := hl
  refine lv_aload_n hx hb d_M_series_30 rfl (lv_at hl 1 rfl) ?_
  refine gF (v := .int x.faultPlace) hx hb hown hE hK hP 0 rfl rfl layM 4 (by decide) w322 rfl d_M_series_31 ?_
  refine lv_istore_n hx hb d_M_series_34 rfl hl (by decide) rfl (fun ls hl => ?_)
  have hl : lv_has ls 5 [(2, .int x.faultPlace), (1, .int x.faultCode), (0, .ref h)] := hl
  refine lv_aload_n hx hb d_M_series_35 rfl (lv_at hl 2 rfl) ?_
  refine lv_iconst (v := 0) hx hb d_M_series_36 (by decide) ?_
  refine pF (v := .int 0) hx hb hown hE hK hP hD hS 0 rfl rfl layM tyM tokM nmM 3 (by decide) w321 rfl rfl rfl (Nat.le_of_ble_eq_true rfl) d_M_series_37 (fun H locs hP hD hS => ?_)
  have hP : va_P D vwCl (MW dA h ad (MS.s_faultCode (MS.s_cod x 0) 0)) H := hP
  have hD : va_D A (MW dA h ad (MS.s_faultCode (MS.s_cod x 0) 0)) := hD
  refine lv_aload_n hx hb d_M_series_40 rfl (lv_at hl 2 rfl) ?_
  refine lv_iconst (v := 0) hx hb d_M_series_41 (by decide) ?_
  refine pF (v := .int 0) hx hb hown hE hK hP hD hS 0 rfl rfl layM tyM tokM nmM 4 (by decide) w322 rfl rfl rfl (Nat.le_of_ble_eq_true rfl) d_M_series_42 (fun H locs hP hD hS => ?_)
  have hP : va_P D vwCl (MW dA h ad (MS.s_faultPlace (MS.s_faultCode (MS.s_cod x 0) 0) 0)) H := hP
  have hD : va_D A (MW dA h ad (MS.s_faultPlace (MS.s_faultCode (MS.s_cod x 0) 0) 0)) := hD
  have J59 : ∀ (z : MS) (ez : z = x.rdS c7 g7), ∀ (H : Heap) (locs : List Loc) (ls : Array Slot) (hP : va_P D vwCl (MW dA h ad z) H) (hD : va_D A (MW dA h ad z)) (hS : va_S A s.heap H locs) (hl : lv_has ls 5 [(2, .int x.faultPlace), (1, .int x.faultCode), (0, .ref h)]), W p l e ({ frames := 4, cells := 0, slots := 0, locals := 67 } : Room) s m ([.ref h] : List Value).toArray below meth c H locs 0 0 (MQ below (va_Qi (fun (r9 : Int32) (u9 : MS) => r9 = nI w ∧ u9 = ((x.rdS c7 g7).lyS).s_length 0) (fun (u9 : MS) t9 => bW D A (MW dA h ad u9) t9) A) ([.ref h] : List Value).toArray s 0 0 A) (F0 m 59 ls []) := by
    intro z ez H locs ls hP hD hS hl
    have J64 : ∀ (r : MS) (er : r = (x.rdS c7 g7).lyS) (r1 : r.seriesCount = x.seriesCount) (r2 : r.textLengths = x.textLengths) (r3 : r.used = x.used) (r4 : r.block = x.block) (r5 : r.journal = x.journal) (r6 : r.records = x.records) (r7 : r.fresh = x.fresh) (r8 : r.cutLeft = x.cutLeft), ∀ (H : Heap) (locs : List Loc) (ls : Array Slot) (hP : va_P D vwCl (MW dA h ad r) H) (hD : va_D A (MW dA h ad r)) (hS : va_S A s.heap H locs) (hl : lv_has ls 5 [(3, .int (nI n)), (2, .int x.faultPlace), (1, .int x.faultCode), (0, .ref h)]), W p l e ({ frames := 4, cells := 0, slots := 0, locals := 67 } : Room) s m ([.ref h] : List Value).toArray below meth c H locs 0 0 (MQ below (va_Qi (fun (r9 : Int32) (u9 : MS) => r9 = nI w ∧ u9 = ((x.rdS c7 g7).lyS).s_length 0) (fun (u9 : MS) t9 => bW D A (MW dA h ad u9) t9) A) ([.ref h] : List Value).toArray s 0 0 A) (F0 m 64 ls []) := by
      intro r er r1 r2 r3 r4 r5 r6 r7 r8 H locs ls hP hD hS hl
      refine lv_aload_n hx hb d_M_series_64 rfl (lv_at hl 3 rfl) ?_
      refine lv_iload_n hx hb d_M_series_65 rfl (lv_at hl 0 rfl) ?_
      refine jfI (rnV (As := [.int (nI n)]) (rest := []) hx hb hml hown hE hK (hN _ _ hS) hP hD (k_find l D dA H.size h ad r n (show r.seriesCount ≤ 256 from by omega) (show n ≤ 304 from by omega) (by rw [r1, r2]; exact ht)) (q0 := 0) rfl rfl w943 w942 w944 w945 w328 rfl rfl ⟨⟨by decide, by decide⟩, rfl⟩ ⟨(Nat.le_of_ble_eq_true rfl), (Nat.le_of_ble_eq_true rfl)⟩ rfl hl.1 rfl (Nat.le_of_ble_eq_true rfl) d_M_series_66 ⟨(Nat.le_of_ble_eq_true rfl), (Nat.le_of_ble_eq_true rfl)⟩) hP hD hS hA (fun r1 u2 H locs hp9 hP hD hS => ?_)
      have hP : va_P D vwCl (MW dA h ad r) H := hP
      have hD : va_D A (MW dA h ad r) := hD
      replace hp9 : r.fnd n = r1 := Eq.symm hp9
      subst hp9
      refine tpi (y := nI w) (by rw [er]; exact hfd) ?_
      refine lv_istore hx hb d_M_series_69 hl (by decide) rfl (fun ls hl => ?_)
      have hl : lv_has ls 5 [(4, .int (nI w)), (3, .int (nI n)), (2, .int x.faultPlace), (1, .int x.faultCode), (0, .ref h)] := hl
      refine lv_iload hx hb d_M_series_71 (lv_at hl 0 rfl) ?_
      refine lv_iconst (v := (-1)) hx hb d_M_series_73 (by decide) ?_
      refine lv_icmp_ne hx hb d_M_series_74 (tgt := 115) rfl (fun _ => ?_) (fun h9 => absurd h9 (nI_nm (by omega)))
      refine lv_iload hx hb d_M_series_115 (lv_at hl 0 rfl) ?_
      refine lv_iconst (v := (-1)) hx hb d_M_series_117 (by decide) ?_
      refine lv_icmp_ne hx hb d_M_series_118 (tgt := 168) rfl (fun _ => ?_) (fun h9 => absurd h9 (nI_nm (by omega)))
      refine lv_aload_n hx hb d_M_series_168 rfl (lv_at hl 4 rfl) ?_
      refine lv_iconst (v := 0) hx hb d_M_series_169 (by decide) ?_
      refine pF (v := .int (nI 0)) hx hb hown hE hK hP hD hS 0 rfl rfl layM tyM tokM nmM 2 (by decide) w320 rfl rfl rfl (Nat.le_of_ble_eq_true rfl) d_M_series_170 (fun H locs hP hD hS => ?_)
      have hP : va_P D vwCl (MW dA h ad (MS.s_length r 0)) H := hP
      have hD : va_D A (MW dA h ad (MS.s_length r 0)) := hD
      refine lv_iload hx hb d_M_series_173 (lv_at hl 0 rfl) ?_
      exact rfI hx hb hr hlk hS (MS.s_length r 0) ⟨rfl, by rw [er]⟩ hP hD (Nat.le_of_ble_eq_true rfl) (Nat.le_of_ble_eq_true rfl) d_M_series_175
    refine lv_aload_n hx hb d_M_series_59 rfl (lv_at hl 2 rfl) ?_
    refine jfI (rnV (As := []) (rest := []) hx hb hml hown hE hK (hN _ _ hS) hP hD (k_layText l D dA H.size h ad z (by rw [ez]; exact h1) (by rw [ez]; exact hc6) (by rw [ez]; exact hlb) (by rw [ez]; exact hl1) (by rw [ez]; exact hby)) (q0 := 0) rfl rfl w947 w946 w948 w949 w328 rfl rfl ⟨⟨by decide, by decide⟩, rfl⟩ ⟨(Nat.le_of_ble_eq_true rfl), (Nat.le_of_ble_eq_true rfl)⟩ rfl hl.1 rfl (Nat.le_of_ble_eq_true rfl) d_M_series_60 ⟨(Nat.le_of_ble_eq_true rfl), (Nat.le_of_ble_eq_true rfl)⟩) hP hD hS hA (fun r3 u4 H locs hp9 hP hD hS => ?_)
    have hP : va_P D vwCl (MW dA h ad (MS.s_texts z ((z.layT z.labelCount).1))) H := hP
    have hD : va_D A (MW dA h ad (MS.s_texts z ((z.layT z.labelCount).1))) := hD
    replace hp9 : nI (z.layT z.labelCount).2 = r3 := Eq.symm hp9
    subst hp9
    refine tpi (y := nI n) (congrArg nI (by rw [ez]; exact hn)) ?_
    refine lv_istore_n hx hb d_M_series_63 rfl hl (by decide) rfl (fun ls hl => ?_)
    have hl : lv_has ls 5 [(3, .int (nI n)), (2, .int x.faultPlace), (1, .int x.faultCode), (0, .ref h)] := hl
    exact J64 (MS.s_texts z ((z.layT z.labelCount).1)) (by rw [ez]; rfl) (by rw [ez]; rfl) (by rw [ez]; rfl) (by rw [ez]; rfl) (by rw [ez]; rfl) (by rw [ez]; rfl) (by rw [ez]; rfl) (by rw [ez]; rfl) (by rw [ez]; rfl) H _ ls hP hD hS (lv_sub hl [0, 1, 2, 3] rfl)
  refine lv_aload_n hx hb d_M_series_45 rfl (lv_at hl 2 rfl) ?_
  refine jfI (rnV (As := []) (rest := []) hx hb hml hown hE hK (hN _ _ hS) hP hD (k_readLabels_0 l D dA H.size h ad (MS.s_faultPlace (MS.s_faultCode (MS.s_cod x 0) 0) 0) c7 g7 (show x.length ≤ 65536 from by omega) rfl hrd) (q0 := 0) rfl rfl w435 w434 w436 w437 w328 rfl rfl ⟨⟨by decide, by decide⟩, rfl⟩ ⟨(Nat.le_of_ble_eq_true rfl), (Nat.le_of_ble_eq_true rfl)⟩ rfl hl.1 rfl (Nat.le_of_ble_eq_true rfl) d_M_series_46 ⟨(Nat.le_of_ble_eq_true rfl), (Nat.le_of_ble_eq_true rfl)⟩) hP hD hS hA (fun r5 u6 H locs hp9 hP hD hS => ?_)
  obtain ⟨y7, h9u⟩ : ∃ z9, z9 = u6 := ⟨_, rfl⟩
  subst h9u
  have hP : va_P D vwCl (MW dA h ad y7) H := hP
  have hD : va_D A (MW dA h ad y7) := hD
  obtain ⟨hp9, f_e_8⟩ := hp9
  replace hp9 : bI true = r5 := Eq.symm hp9
  subst hp9
  refine lv_if_ne hx hb d_M_series_49 (tgt := 59) rfl (fun _ => ?_) (fun h9 => absurd h9 (by decide))
  exact J59 y7 f_e_8 H _ ls hP hD hS (lv_sub hl [0, 1, 2] rfl)
theorem d_M_series_77 : decode prog_14_method_29_code 77 = .ok (.aload_n 0, 1) := by decide +kernel
theorem d_M_series_78 : decode prog_14_method_29_code 78 = .ok (.getfield 160, 3) := by decide +kernel
theorem d_M_series_81 : decode prog_14_method_29_code 81 = .ok (.sipush 256, 3) := by decide +kernel
theorem d_M_series_84 : decode prog_14_method_29_code 84 = .ok (.if_icmp .eq 14, 3) := by decide +kernel
theorem d_M_series_98 : decode prog_14_method_29_code 98 = .ok (.aload_n 0, 1) := by decide +kernel
theorem d_M_series_99 : decode prog_14_method_29_code 99 = .ok (.iconst 2, 1) := by decide +kernel
theorem d_M_series_100 : decode prog_14_method_29_code 100 = .ok (.putfield 145, 3) := by decide +kernel
theorem d_M_series_103 : decode prog_14_method_29_code 103 = .ok (.aload_n 0, 1) := by decide +kernel
theorem d_M_series_104 : decode prog_14_method_29_code 104 = .ok (.iload_n 1, 1) := by decide +kernel
theorem d_M_series_105 : decode prog_14_method_29_code 105 = .ok (.putfield 151, 3) := by decide +kernel
theorem d_M_series_108 : decode prog_14_method_29_code 108 = .ok (.aload_n 0, 1) := by decide +kernel
theorem d_M_series_109 : decode prog_14_method_29_code 109 = .ok (.iload_n 2, 1) := by decide +kernel
theorem d_M_series_110 : decode prog_14_method_29_code 110 = .ok (.putfield 154, 3) := by decide +kernel
theorem d_M_series_113 : decode prog_14_method_29_code 113 = .ok (.iconst 0, 1) := by decide +kernel
theorem d_M_series_114 : decode prog_14_method_29_code 114 = .ok (.ireturn, 1) := by decide +kernel
theorem d_M_series_87 : decode prog_14_method_29_code 87 = .ok (.aload_n 0, 1) := by decide +kernel
theorem d_M_series_88 : decode prog_14_method_29_code 88 = .ok (.iload_n 3, 1) := by decide +kernel
theorem d_M_series_89 : decode prog_14_method_29_code 89 = .ok (.invokestatic 244, 3) := by decide +kernel
theorem d_M_series_92 : decode prog_14_method_29_code 92 = .ok (.invokevirtual 247, 3) := by decide +kernel
theorem d_M_series_95 : decode prog_14_method_29_code 95 = .ok (.ifCond .ne 20, 3) := by decide +kernel
set_option maxHeartbeats 4000000 in
set_option maxRecDepth 100000 in
theorem k_series_2 (l : Launch) (D : va_G) (dA : Nat → ClassId) (sz : Nat) (h : Nat) (ad : Nat → Nat) (x : MS) (c7 : Nat) (g7 : Nat → Nat) (n : Nat) (ho : x.on = true) (hl1 : x.length ≤ 65536) (hrd : rdM x.tape x.length 7 0 0 x.labels = .inr (c7, g7)) (h1 : x.seriesCount ≤ 256) (hc6 : c7 ≤ 6) (hlb : labOk g7 x.length c7) (hby : byteF x.tape) (hn : ((x.rdS c7 g7).layT c7).2 = n) (hn3 : n ≤ 304) (ht : ∀ q : Nat, q < x.seriesCount → x.textLengths q ≤ 304) (hfd : ((x.rdS c7 g7).lyS).fnd n = -1) (u1 : x.used ≤ 126) (u2 : x.block < 2 ^ 20) (u3 : x.journal ≤ 256) (h0 : x.seriesCount = 256 ∨ x.room (1 + (n + 31) / 32) = false) : Met l ⟨"SeriesVaultModel", "series", "()I"⟩ [Cond.code ⟨"SeriesVaultModel", "series", "()I"⟩ prog_14_method_29_code 5 (some FieldType.int)] { frames := 4, cells := 0, slots := 0, locals := 67 } (pC D dA [.ref h] (MW dA h ad x) sz) (va_Qi (fun (r9 : Int32) (u9 : MS) => r9 = 0 ∧ u9 = ((((x.rdS c7 g7).lyS).s_cod 2).s_faultCode x.faultCode).s_faultPlace x.faultPlace) (fun (u9 : MS) t9 => bW D (va_A (MW dA h ad x) sz) (MW dA h ad u9) t9) (va_A (MW dA h ad x) sz)) 0 0 (va_A (MW dA h ad x) sz) := by
  refine mkC (y := ⟨"SeriesVaultModel", "series", "()I"⟩) (cc := prog_14_method_29_code) (maxL := 5) (av := [.ref h]) (ws := MW dA h ad x) (sz := sz) (Qc := fun A => va_Qi (fun (r9 : Int32) (u9 : MS) => r9 = 0 ∧ u9 = ((((x.rdS c7 g7).lyS).s_cod 2).s_faultCode x.faultCode).s_faultPlace x.faultPlace) (fun (u9 : MS) t9 => bW D A (MW dA h ad u9) t9) A) (by decide) (Nat.le_of_ble_eq_true rfl) ?_
  intro A p e s m below meth c ls hsz hB
  obtain ⟨hx, hb, hr, hml, hown, hin, hlk, hE, hK, hP, hD, hS, hA, hN, hl⟩ := hB
  have hown : s.vm.findClass "SeriesVaultModel" = some m.cls := hown
  have hl : lv_has ls 5 [(0, .ref h)] := hl
  obtain ⟨H, hH⟩ : ∃ z, z = s.heap := ⟨_, rfl⟩
  have hP : va_P D vwCl (MW dA h ad x) H := by rw [hH]; exact hP
  have hS : va_S A s.heap H [] := by rw [hH]; exact hS
  rw [← hH]
  refine lv_aload_n hx hb d_M_series_0 rfl (lv_at hl 0 rfl) ?_
  refine lv_aload_n hx hb d_M_series_1 rfl (lv_at hl 0 rfl) ?_
  refine gF (v := .int (bI x.on)) hx hb hown hE hK hP 0 rfl rfl layM 7 (by decide) w324 rfl d_M_series_2 ?_
  refine lv_if_eq hx hb d_M_series_5 (tgt := 12) rfl (fun h9 => absurd h9 (by rw [ho]; decide)) (fun _ => ?_)
  refine lv_iconst (v := 0) hx hb d_M_series_8 (by decide) ?_
  refine lv_goto hx hb d_M_series_9 (tgt := 13) rfl ?_
  refine pF (v := .int 0) hx hb hown hE hK hP hD hS 0 rfl rfl layM tyM tokM nmM 0 (by decide) w319 rfl rfl rfl (Nat.le_of_ble_eq_true rfl) d_M_series_13 (fun H locs hP hD hS => ?_)
  have hP : va_P D vwCl (MW dA h ad (MS.s_cod x 0)) H := hP
  have hD : va_D A (MW dA h ad (MS.s_cod x 0)) := hD
  refine lv_aload_n hx hb d_M_series_16 rfl (lv_at hl 0 rfl) ?_
  refine gF (v := .int 0) hx hb hown hE hK hP 0 rfl rfl layM 0 (by decide) w319 rfl d_M_series_17 ?_
  refine lv_if_le hx hb d_M_series_20 (tgt := 25) rfl (fun _ => ?_) (fun h9 => absurd (by decide) h9)
  refine lv_aload_n hx hb d_M_series_25 rfl (lv_at hl 0 rfl) ?_
  refine gF (v := .int x.faultCode) hx hb hown hE hK hP 0 rfl rfl layM 3 (by decide) w321 rfl d_M_series_26 ?_
  refine lv_istore_n hx hb d_M_series_29 rfl hl (by decide) rfl (fun ls hl => ?_)
  have hl : lv_has ls 5 [(1, .int x.faultCode), (0, .ref h)] := hl
  refine lv_aload_n hx hb d_M_series_30 rfl (lv_at hl 1 rfl) ?_
  refine gF (v := .int x.faultPlace) hx hb hown hE hK hP 0 rfl rfl layM 4 (by decide) w322 rfl d_M_series_31 ?_
  refine lv_istore_n hx hb d_M_series_34 rfl hl (by decide) rfl (fun ls hl => ?_)
  have hl : lv_has ls 5 [(2, .int x.faultPlace), (1, .int x.faultCode), (0, .ref h)] := hl
  refine lv_aload_n hx hb d_M_series_35 rfl (lv_at hl 2 rfl) ?_
  refine lv_iconst (v := 0) hx hb d_M_series_36 (by decide) ?_
  refine pF (v := .int 0) hx hb hown hE hK hP hD hS 0 rfl rfl layM tyM tokM nmM 3 (by decide) w321 rfl rfl rfl (Nat.le_of_ble_eq_true rfl) d_M_series_37 (fun H locs hP hD hS => ?_)
  have hP : va_P D vwCl (MW dA h ad (MS.s_faultCode (MS.s_cod x 0) 0)) H := hP
  have hD : va_D A (MW dA h ad (MS.s_faultCode (MS.s_cod x 0) 0)) := hD
  refine lv_aload_n hx hb d_M_series_40 rfl (lv_at hl 2 rfl) ?_
  refine lv_iconst (v := 0) hx hb d_M_series_41 (by decide) ?_
  refine pF (v := .int 0) hx hb hown hE hK hP hD hS 0 rfl rfl layM tyM tokM nmM 4 (by decide) w322 rfl rfl rfl (Nat.le_of_ble_eq_true rfl) d_M_series_42 (fun H locs hP hD hS => ?_)
  have hP : va_P D vwCl (MW dA h ad (MS.s_faultPlace (MS.s_faultCode (MS.s_cod x 0) 0) 0)) H := hP
  have hD : va_D A (MW dA h ad (MS.s_faultPlace (MS.s_faultCode (MS.s_cod x 0) 0) 0)) := hD
  have J59 : ∀ (z : MS) (ez : z = x.rdS c7 g7), ∀ (H : Heap) (locs : List Loc) (ls : Array Slot) (hP : va_P D vwCl (MW dA h ad z) H) (hD : va_D A (MW dA h ad z)) (hS : va_S A s.heap H locs) (hl : lv_has ls 5 [(2, .int x.faultPlace), (1, .int x.faultCode), (0, .ref h)]), W p l e ({ frames := 4, cells := 0, slots := 0, locals := 67 } : Room) s m ([.ref h] : List Value).toArray below meth c H locs 0 0 (MQ below (va_Qi (fun (r9 : Int32) (u9 : MS) => r9 = 0 ∧ u9 = ((((x.rdS c7 g7).lyS).s_cod 2).s_faultCode x.faultCode).s_faultPlace x.faultPlace) (fun (u9 : MS) t9 => bW D A (MW dA h ad u9) t9) A) ([.ref h] : List Value).toArray s 0 0 A) (F0 m 59 ls []) := by
    intro z ez H locs ls hP hD hS hl
    have J64 : ∀ (r : MS) (er : r = (x.rdS c7 g7).lyS) (r1 : r.seriesCount = x.seriesCount) (r2 : r.textLengths = x.textLengths) (r3 : r.used = x.used) (r4 : r.block = x.block) (r5 : r.journal = x.journal) (r6 : r.records = x.records) (r7 : r.fresh = x.fresh) (r8 : r.cutLeft = x.cutLeft), ∀ (H : Heap) (locs : List Loc) (ls : Array Slot) (hP : va_P D vwCl (MW dA h ad r) H) (hD : va_D A (MW dA h ad r)) (hS : va_S A s.heap H locs) (hl : lv_has ls 5 [(3, .int (nI n)), (2, .int x.faultPlace), (1, .int x.faultCode), (0, .ref h)]), W p l e ({ frames := 4, cells := 0, slots := 0, locals := 67 } : Room) s m ([.ref h] : List Value).toArray below meth c H locs 0 0 (MQ below (va_Qi (fun (r9 : Int32) (u9 : MS) => r9 = 0 ∧ u9 = ((((x.rdS c7 g7).lyS).s_cod 2).s_faultCode x.faultCode).s_faultPlace x.faultPlace) (fun (u9 : MS) t9 => bW D A (MW dA h ad u9) t9) A) ([.ref h] : List Value).toArray s 0 0 A) (F0 m 64 ls []) := by
      intro r er r1 r2 r3 r4 r5 r6 r7 r8 H locs ls hP hD hS hl
      refine lv_aload_n hx hb d_M_series_64 rfl (lv_at hl 3 rfl) ?_
      refine lv_iload_n hx hb d_M_series_65 rfl (lv_at hl 0 rfl) ?_
      refine jfI (rnV (As := [.int (nI n)]) (rest := []) hx hb hml hown hE hK (hN _ _ hS) hP hD (k_find l D dA H.size h ad r n (show r.seriesCount ≤ 256 from by omega) (show n ≤ 304 from by omega) (by rw [r1, r2]; exact ht)) (q0 := 0) rfl rfl w943 w942 w944 w945 w328 rfl rfl ⟨⟨by decide, by decide⟩, rfl⟩ ⟨(Nat.le_of_ble_eq_true rfl), (Nat.le_of_ble_eq_true rfl)⟩ rfl hl.1 rfl (Nat.le_of_ble_eq_true rfl) d_M_series_66 ⟨(Nat.le_of_ble_eq_true rfl), (Nat.le_of_ble_eq_true rfl)⟩) hP hD hS hA (fun r1 u2 H locs hp9 hP hD hS => ?_)
      have hP : va_P D vwCl (MW dA h ad r) H := hP
      have hD : va_D A (MW dA h ad r) := hD
      replace hp9 : r.fnd n = r1 := Eq.symm hp9
      subst hp9
      refine tpi (y := (-1)) (by rw [er]; exact hfd) ?_
      refine lv_istore hx hb d_M_series_69 hl (by decide) rfl (fun ls hl => ?_)
      have hl : lv_has ls 5 [(4, .int (-1)), (3, .int (nI n)), (2, .int x.faultPlace), (1, .int x.faultCode), (0, .ref h)] := hl
      refine lv_iload hx hb d_M_series_71 (lv_at hl 0 rfl) ?_
      refine lv_iconst (v := (-1)) hx hb d_M_series_73 (by decide) ?_
      refine lv_icmp_ne hx hb d_M_series_74 (tgt := 115) rfl (fun h9 => absurd (by decide) h9) (fun _ => ?_)
      refine lv_aload_n hx hb d_M_series_77 rfl (lv_at hl 4 rfl) ?_
      refine gF (v := .int (nI r.seriesCount)) hx hb hown hE hK hP 0 rfl rfl layM 12 (by decide) w332 rfl d_M_series_78 ?_
      refine lv_sipush (v := 256) hx hb d_M_series_81 (by decide) ?_
      refine lv_icmp_eq hx hb d_M_series_84 (tgt := 98) rfl (fun g3 => ?_) (fun g3 => ?_)
      · have g3 := (nI_eq (a := r.seriesCount) (b := 256) (by omega) (by omega)).mp g3
        refine lv_aload_n hx hb d_M_series_98 rfl (lv_at hl 4 rfl) ?_
        refine lv_iconst (v := 2) hx hb d_M_series_99 (by decide) ?_
        refine pF (v := .int 2) hx hb hown hE hK hP hD hS 0 rfl rfl layM tyM tokM nmM 0 (by decide) w319 rfl rfl rfl (Nat.le_of_ble_eq_true rfl) d_M_series_100 (fun H locs hP hD hS => ?_)
        have hP : va_P D vwCl (MW dA h ad (MS.s_cod r 2)) H := hP
        have hD : va_D A (MW dA h ad (MS.s_cod r 2)) := hD
        refine lv_aload_n hx hb d_M_series_103 rfl (lv_at hl 4 rfl) ?_
        refine lv_iload_n hx hb d_M_series_104 rfl (lv_at hl 3 rfl) ?_
        refine pF (v := .int x.faultCode) hx hb hown hE hK hP hD hS 0 rfl rfl layM tyM tokM nmM 3 (by decide) w321 rfl rfl rfl (Nat.le_of_ble_eq_true rfl) d_M_series_105 (fun H locs hP hD hS => ?_)
        have hP : va_P D vwCl (MW dA h ad (MS.s_faultCode (MS.s_cod r 2) x.faultCode)) H := hP
        have hD : va_D A (MW dA h ad (MS.s_faultCode (MS.s_cod r 2) x.faultCode)) := hD
        refine lv_aload_n hx hb d_M_series_108 rfl (lv_at hl 4 rfl) ?_
        refine lv_iload_n hx hb d_M_series_109 rfl (lv_at hl 2 rfl) ?_
        refine pF (v := .int x.faultPlace) hx hb hown hE hK hP hD hS 0 rfl rfl layM tyM tokM nmM 4 (by decide) w322 rfl rfl rfl (Nat.le_of_ble_eq_true rfl) d_M_series_110 (fun H locs hP hD hS => ?_)
        have hP : va_P D vwCl (MW dA h ad (MS.s_faultPlace (MS.s_faultCode (MS.s_cod r 2) x.faultCode) x.faultPlace)) H := hP
        have hD : va_D A (MW dA h ad (MS.s_faultPlace (MS.s_faultCode (MS.s_cod r 2) x.faultCode) x.faultPlace)) := hD
        refine lv_iconst (v := 0) hx hb d_M_series_113 (by decide) ?_
        exact rfI hx hb hr hlk hS (MS.s_faultPlace (MS.s_faultCode (MS.s_cod r 2) x.faultCode) x.faultPlace) ⟨rfl, by rw [er] <;> rfl⟩ hP hD (Nat.le_of_ble_eq_true rfl) (Nat.le_of_ble_eq_true rfl) d_M_series_114
      · have g3 := mt (nI_eq (a := r.seriesCount) (b := 256) (by omega) (by omega)).mpr g3
        refine lv_aload_n hx hb d_M_series_87 rfl (lv_at hl 4 rfl) ?_
        refine lv_iload_n hx hb d_M_series_88 rfl (lv_at hl 1 rfl) ?_
        have hPc := hP.sub (ws' := []) [] rfl
        have hDc := hD.sub (ws' := []) [] (by decide) rfl
        refine jnI (rnS (As := [.int (nI n)]) (rest := [.ref h]) hx hb hml hown hE hK (hN _ _ hS) hPc hDc (k_unitsOf l D dA H.size n (show n ≤ 65536 from by omega)) w882 w881 w883 w328 rfl rfl ⟨⟨by decide, by decide⟩, rfl⟩ ⟨(Nat.le_of_ble_eq_true rfl), (Nat.le_of_ble_eq_true rfl)⟩ rfl hl.1 rfl (Nat.le_of_ble_eq_true rfl) d_M_series_89 ⟨(Nat.le_of_ble_eq_true rfl), (Nat.le_of_ble_eq_true rfl)⟩) hP hD hS hA [] [0, 1, 2, 3, 4, 5, 6, 7, 8, 9, 10, 11, 12, 13, 14, 15, 16, 17, 18, 19, 20, 21, 22, 23, 24, 25, 26, 27, 28, 29, 30, 31, 32, 33, 34, 35, 36, 37, 38] (wr := MW dA h ad r) rfl rfl (by decide) (by decide) (fun r4 u9 H locs hp9 hP hD hS => ?_)
        have hP : va_P D vwCl (MW dA h ad r) H := hP
        have hD : va_D A (MW dA h ad r) := hD
        replace hp9 : nI (1 + (n + 31) / 32) = r4 := Eq.symm hp9
        subst hp9
        refine jfI (rnV (As := [.int (nI (1 + (n + 31) / 32))]) (rest := []) hx hb hml hown hE hK (hN _ _ hS) hP hD (k_hasRoom l D dA H.size h ad r (1 + (n + 31) / 32) (show r.used + (1 + (n + 31) / 32) < 2 ^ 31 from by omega) (show r.block + 1 < 2 ^ 31 from by omega) (show r.journal < 2 ^ 31 from by omega)) (q0 := 0) rfl rfl w867 w866 w868 w869 w328 rfl rfl ⟨⟨by decide, by decide⟩, rfl⟩ ⟨(Nat.le_of_ble_eq_true rfl), (Nat.le_of_ble_eq_true rfl)⟩ rfl hl.1 rfl (Nat.le_of_ble_eq_true rfl) d_M_series_92 ⟨(Nat.le_of_ble_eq_true rfl), (Nat.le_of_ble_eq_true rfl)⟩) hP hD hS hA (fun r6 u7 H locs hp9 hP hD hS => ?_)
        have hP : va_P D vwCl (MW dA h ad r) H := hP
        have hD : va_D A (MW dA h ad r) := hD
        replace hp9 : bI (r.room (1 + (n + 31) / 32)) = r6 := Eq.symm hp9
        subst hp9
        refine lv_if_ne hx hb d_M_series_95 (tgt := 115) rfl (fun h9 => absurd (by rw [show r.room (1 + (n + 31) / 32) = false from (by show (decide _ || decide _) = false; rw [r3, r4, r5]; exact h0.resolve_left (by omega))]; decide) h9) (fun _ => ?_)
        refine lv_aload_n hx hb d_M_series_98 rfl (lv_at hl 4 rfl) ?_
        refine lv_iconst (v := 2) hx hb d_M_series_99 (by decide) ?_
        refine pF (v := .int 2) hx hb hown hE hK hP hD hS 0 rfl rfl layM tyM tokM nmM 0 (by decide) w319 rfl rfl rfl (Nat.le_of_ble_eq_true rfl) d_M_series_100 (fun H locs hP hD hS => ?_)
        have hP : va_P D vwCl (MW dA h ad (MS.s_cod r 2)) H := hP
        have hD : va_D A (MW dA h ad (MS.s_cod r 2)) := hD
        refine lv_aload_n hx hb d_M_series_103 rfl (lv_at hl 4 rfl) ?_
        refine lv_iload_n hx hb d_M_series_104 rfl (lv_at hl 3 rfl) ?_
        refine pF (v := .int x.faultCode) hx hb hown hE hK hP hD hS 0 rfl rfl layM tyM tokM nmM 3 (by decide) w321 rfl rfl rfl (Nat.le_of_ble_eq_true rfl) d_M_series_105 (fun H locs hP hD hS => ?_)
        have hP : va_P D vwCl (MW dA h ad (MS.s_faultCode (MS.s_cod r 2) x.faultCode)) H := hP
        have hD : va_D A (MW dA h ad (MS.s_faultCode (MS.s_cod r 2) x.faultCode)) := hD
        refine lv_aload_n hx hb d_M_series_108 rfl (lv_at hl 4 rfl) ?_
        refine lv_iload_n hx hb d_M_series_109 rfl (lv_at hl 2 rfl) ?_
        refine pF (v := .int x.faultPlace) hx hb hown hE hK hP hD hS 0 rfl rfl layM tyM tokM nmM 4 (by decide) w322 rfl rfl rfl (Nat.le_of_ble_eq_true rfl) d_M_series_110 (fun H locs hP hD hS => ?_)
        have hP : va_P D vwCl (MW dA h ad (MS.s_faultPlace (MS.s_faultCode (MS.s_cod r 2) x.faultCode) x.faultPlace)) H := hP
        have hD : va_D A (MW dA h ad (MS.s_faultPlace (MS.s_faultCode (MS.s_cod r 2) x.faultCode) x.faultPlace)) := hD
        refine lv_iconst (v := 0) hx hb d_M_series_113 (by decide) ?_
        exact rfI hx hb hr hlk hS (MS.s_faultPlace (MS.s_faultCode (MS.s_cod r 2) x.faultCode) x.faultPlace) ⟨rfl, by rw [er] <;> rfl⟩ hP hD (Nat.le_of_ble_eq_true rfl) (Nat.le_of_ble_eq_true rfl) d_M_series_114
    refine lv_aload_n hx hb d_M_series_59 rfl (lv_at hl 2 rfl) ?_
    refine jfI (rnV (As := []) (rest := []) hx hb hml hown hE hK (hN _ _ hS) hP hD (k_layText l D dA H.size h ad z (by rw [ez]; exact h1) (by rw [ez]; exact hc6) (by rw [ez]; exact hlb) (by rw [ez]; exact hl1) (by rw [ez]; exact hby)) (q0 := 0) rfl rfl w947 w946 w948 w949 w328 rfl rfl ⟨⟨by decide, by decide⟩, rfl⟩ ⟨(Nat.le_of_ble_eq_true rfl), (Nat.le_of_ble_eq_true rfl)⟩ rfl hl.1 rfl (Nat.le_of_ble_eq_true rfl) d_M_series_60 ⟨(Nat.le_of_ble_eq_true rfl), (Nat.le_of_ble_eq_true rfl)⟩) hP hD hS hA (fun r8 u9 H locs hp9 hP hD hS => ?_)
    have hP : va_P D vwCl (MW dA h ad (MS.s_texts z ((z.layT z.labelCount).1))) H := hP
    have hD : va_D A (MW dA h ad (MS.s_texts z ((z.layT z.labelCount).1))) := hD
    replace hp9 : nI (z.layT z.labelCount).2 = r8 := Eq.symm hp9
    subst hp9
    refine tpi (y := nI n) (congrArg nI (by rw [ez]; exact hn)) ?_
    refine lv_istore_n hx hb d_M_series_63 rfl hl (by decide) rfl (fun ls hl => ?_)
    have hl : lv_has ls 5 [(3, .int (nI n)), (2, .int x.faultPlace), (1, .int x.faultCode), (0, .ref h)] := hl
    exact J64 (MS.s_texts z ((z.layT z.labelCount).1)) (by rw [ez]; rfl) (by rw [ez]; rfl) (by rw [ez]; rfl) (by rw [ez]; rfl) (by rw [ez]; rfl) (by rw [ez]; rfl) (by rw [ez]; rfl) (by rw [ez]; rfl) (by rw [ez]; rfl) H _ ls hP hD hS (lv_sub hl [0, 1, 2, 3] rfl)
  refine lv_aload_n hx hb d_M_series_45 rfl (lv_at hl 2 rfl) ?_
  refine jfI (rnV (As := []) (rest := []) hx hb hml hown hE hK (hN _ _ hS) hP hD (k_readLabels_0 l D dA H.size h ad (MS.s_faultPlace (MS.s_faultCode (MS.s_cod x 0) 0) 0) c7 g7 (show x.length ≤ 65536 from by omega) rfl hrd) (q0 := 0) rfl rfl w435 w434 w436 w437 w328 rfl rfl ⟨⟨by decide, by decide⟩, rfl⟩ ⟨(Nat.le_of_ble_eq_true rfl), (Nat.le_of_ble_eq_true rfl)⟩ rfl hl.1 rfl (Nat.le_of_ble_eq_true rfl) d_M_series_46 ⟨(Nat.le_of_ble_eq_true rfl), (Nat.le_of_ble_eq_true rfl)⟩) hP hD hS hA (fun r10 u11 H locs hp9 hP hD hS => ?_)
  obtain ⟨y12, h9u⟩ : ∃ z9, z9 = u11 := ⟨_, rfl⟩
  subst h9u
  have hP : va_P D vwCl (MW dA h ad y12) H := hP
  have hD : va_D A (MW dA h ad y12) := hD
  obtain ⟨hp9, f_e_13⟩ := hp9
  replace hp9 : bI true = r10 := Eq.symm hp9
  subst hp9
  refine lv_if_ne hx hb d_M_series_49 (tgt := 59) rfl (fun _ => ?_) (fun h9 => absurd h9 (by decide))
  exact J59 y12 f_e_13 H _ ls hP hD hS (lv_sub hl [0, 1, 2] rfl)
theorem d_M_series_121 : decode prog_14_method_29_code 121 = .ok (.aload_n 0, 1) := by decide +kernel
theorem d_M_series_122 : decode prog_14_method_29_code 122 = .ok (.getfield 160, 3) := by decide +kernel
theorem d_M_series_125 : decode prog_14_method_29_code 125 = .ok (.istore 4, 2) := by decide +kernel
theorem d_M_series_127 : decode prog_14_method_29_code 127 = .ok (.aload_n 0, 1) := by decide +kernel
theorem d_M_series_128 : decode prog_14_method_29_code 128 = .ok (.iconst 0, 1) := by decide +kernel
theorem d_M_series_129 : decode prog_14_method_29_code 129 = .ok (.iload 4, 2) := by decide +kernel
theorem d_M_series_131 : decode prog_14_method_29_code 131 = .ok (.iload_n 3, 1) := by decide +kernel
theorem d_M_series_132 : decode prog_14_method_29_code 132 = .ok (.i2l, 1) := by decide +kernel
theorem d_M_series_133 : decode prog_14_method_29_code 133 = .ok (.lconst 0, 1) := by decide +kernel
theorem d_M_series_134 : decode prog_14_method_29_code 134 = .ok (.iload_n 3, 1) := by decide +kernel
theorem d_M_series_135 : decode prog_14_method_29_code 135 = .ok (.invokestatic 244, 3) := by decide +kernel
theorem d_M_series_138 : decode prog_14_method_29_code 138 = .ok (.invokevirtual 250, 3) := by decide +kernel
theorem d_M_series_141 : decode prog_14_method_29_code 141 = .ok (.ifCond .ne 20, 3) := by decide +kernel
theorem d_M_series_144 : decode prog_14_method_29_code 144 = .ok (.aload_n 0, 1) := by decide +kernel
theorem d_M_series_145 : decode prog_14_method_29_code 145 = .ok (.iconst 1, 1) := by decide +kernel
theorem d_M_series_146 : decode prog_14_method_29_code 146 = .ok (.putfield 145, 3) := by decide +kernel
theorem d_M_series_149 : decode prog_14_method_29_code 149 = .ok (.aload_n 0, 1) := by decide +kernel
theorem d_M_series_150 : decode prog_14_method_29_code 150 = .ok (.iload_n 1, 1) := by decide +kernel
theorem d_M_series_151 : decode prog_14_method_29_code 151 = .ok (.putfield 151, 3) := by decide +kernel
theorem d_M_series_154 : decode prog_14_method_29_code 154 = .ok (.aload_n 0, 1) := by decide +kernel
theorem d_M_series_155 : decode prog_14_method_29_code 155 = .ok (.iload_n 2, 1) := by decide +kernel
theorem d_M_series_156 : decode prog_14_method_29_code 156 = .ok (.putfield 154, 3) := by decide +kernel
theorem d_M_series_159 : decode prog_14_method_29_code 159 = .ok (.iconst 0, 1) := by decide +kernel
theorem d_M_series_160 : decode prog_14_method_29_code 160 = .ok (.ireturn, 1) := by decide +kernel
set_option maxHeartbeats 4000000 in
set_option maxRecDepth 100000 in
theorem k_series_5 (l : Launch) (D : va_G) (dA : Nat → ClassId) (sz : Nat) (h : Nat) (ad : Nat → Nat) (x : MS) (c7 : Nat) (g7 : Nat → Nat) (n : Nat) (ho : x.on = true) (hl1 : x.length ≤ 65536) (hrd : rdM x.tape x.length 7 0 0 x.labels = .inr (c7, g7)) (h1 : x.seriesCount ≤ 256) (hc6 : c7 ≤ 6) (hlb : labOk g7 x.length c7) (hby : byteF x.tape) (hn : ((x.rdS c7 g7).layT c7).2 = n) (hn3 : n ≤ 304) (ht : ∀ q : Nat, q < x.seriesCount → x.textLengths q ≤ 304) (hfd : ((x.rdS c7 g7).lyS).fnd n = -1) (u1 : x.used ≤ 126) (u2 : x.block < 2 ^ 20) (u3 : x.journal ≤ 256) (h0 : ¬ x.seriesCount = 256) (hro : x.room (1 + (n + 31) / 32) = true) (c1 : 126 < x.used + (1 + (n + 31) / 32)) (hf : x.fresh = true) (hcu : x.cutLeft = 0) : Met l ⟨"SeriesVaultModel", "series", "()I"⟩ [Cond.code ⟨"SeriesVaultModel", "series", "()I"⟩ prog_14_method_29_code 5 (some FieldType.int)] { frames := 4, cells := 0, slots := 0, locals := 67 } (pC D dA [.ref h] (MW dA h ad x) sz) (va_Qi (fun (r9 : Int32) (u9 : MS) => r9 = 0 ∧ u9 = ((((((x.rdS c7 g7).lyS).s_cod 1).s_faultCode x.faultCode).s_faultPlace x.faultPlace).s_on false).s_cutLeft (-1)) (fun (u9 : MS) t9 => bW D (va_A (MW dA h ad x) sz) (MW dA h ad u9) t9) (va_A (MW dA h ad x) sz)) 0 0 (va_A (MW dA h ad x) sz) := by
  refine mkC (y := ⟨"SeriesVaultModel", "series", "()I"⟩) (cc := prog_14_method_29_code) (maxL := 5) (av := [.ref h]) (ws := MW dA h ad x) (sz := sz) (Qc := fun A => va_Qi (fun (r9 : Int32) (u9 : MS) => r9 = 0 ∧ u9 = ((((((x.rdS c7 g7).lyS).s_cod 1).s_faultCode x.faultCode).s_faultPlace x.faultPlace).s_on false).s_cutLeft (-1)) (fun (u9 : MS) t9 => bW D A (MW dA h ad u9) t9) A) (by decide) (Nat.le_of_ble_eq_true rfl) ?_
  intro A p e s m below meth c ls hsz hB
  obtain ⟨hx, hb, hr, hml, hown, hin, hlk, hE, hK, hP, hD, hS, hA, hN, hl⟩ := hB
  have hown : s.vm.findClass "SeriesVaultModel" = some m.cls := hown
  have hl : lv_has ls 5 [(0, .ref h)] := hl
  obtain ⟨H, hH⟩ : ∃ z, z = s.heap := ⟨_, rfl⟩
  have hP : va_P D vwCl (MW dA h ad x) H := by rw [hH]; exact hP
  have hS : va_S A s.heap H [] := by rw [hH]; exact hS
  rw [← hH]
  refine lv_aload_n hx hb d_M_series_0 rfl (lv_at hl 0 rfl) ?_
  refine lv_aload_n hx hb d_M_series_1 rfl (lv_at hl 0 rfl) ?_
  refine gF (v := .int (bI x.on)) hx hb hown hE hK hP 0 rfl rfl layM 7 (by decide) w324 rfl d_M_series_2 ?_
  refine lv_if_eq hx hb d_M_series_5 (tgt := 12) rfl (fun h9 => absurd h9 (by rw [ho]; decide)) (fun _ => ?_)
  refine lv_iconst (v := 0) hx hb d_M_series_8 (by decide) ?_
  refine lv_goto hx hb d_M_series_9 (tgt := 13) rfl ?_
  refine pF (v := .int 0) hx hb hown hE hK hP hD hS 0 rfl rfl layM tyM tokM nmM 0 (by decide) w319 rfl rfl rfl (Nat.le_of_ble_eq_true rfl) d_M_series_13 (fun H locs hP hD hS => ?_)
  have hP : va_P D vwCl (MW dA h ad (MS.s_cod x 0)) H := hP
  have hD : va_D A (MW dA h ad (MS.s_cod x 0)) := hD
  refine lv_aload_n hx hb d_M_series_16 rfl (lv_at hl 0 rfl) ?_
  refine gF (v := .int 0) hx hb hown hE hK hP 0 rfl rfl layM 0 (by decide) w319 rfl d_M_series_17 ?_
  refine lv_if_le hx hb d_M_series_20 (tgt := 25) rfl (fun _ => ?_) (fun h9 => absurd (by decide) h9)
  refine lv_aload_n hx hb d_M_series_25 rfl (lv_at hl 0 rfl) ?_
  refine gF (v := .int x.faultCode) hx hb hown hE hK hP 0 rfl rfl layM 3 (by decide) w321 rfl d_M_series_26 ?_
  refine lv_istore_n hx hb d_M_series_29 rfl hl (by decide) rfl (fun ls hl => ?_)
  have hl : lv_has ls 5 [(1, .int x.faultCode), (0, .ref h)] := hl
  refine lv_aload_n hx hb d_M_series_30 rfl (lv_at hl 1 rfl) ?_
  refine gF (v := .int x.faultPlace) hx hb hown hE hK hP 0 rfl rfl layM 4 (by decide) w322 rfl d_M_series_31 ?_
  refine lv_istore_n hx hb d_M_series_34 rfl hl (by decide) rfl (fun ls hl => ?_)
  have hl : lv_has ls 5 [(2, .int x.faultPlace), (1, .int x.faultCode), (0, .ref h)] := hl
  refine lv_aload_n hx hb d_M_series_35 rfl (lv_at hl 2 rfl) ?_
  refine lv_iconst (v := 0) hx hb d_M_series_36 (by decide) ?_
  refine pF (v := .int 0) hx hb hown hE hK hP hD hS 0 rfl rfl layM tyM tokM nmM 3 (by decide) w321 rfl rfl rfl (Nat.le_of_ble_eq_true rfl) d_M_series_37 (fun H locs hP hD hS => ?_)
  have hP : va_P D vwCl (MW dA h ad (MS.s_faultCode (MS.s_cod x 0) 0)) H := hP
  have hD : va_D A (MW dA h ad (MS.s_faultCode (MS.s_cod x 0) 0)) := hD
  refine lv_aload_n hx hb d_M_series_40 rfl (lv_at hl 2 rfl) ?_
  refine lv_iconst (v := 0) hx hb d_M_series_41 (by decide) ?_
  refine pF (v := .int 0) hx hb hown hE hK hP hD hS 0 rfl rfl layM tyM tokM nmM 4 (by decide) w322 rfl rfl rfl (Nat.le_of_ble_eq_true rfl) d_M_series_42 (fun H locs hP hD hS => ?_)
  have hP : va_P D vwCl (MW dA h ad (MS.s_faultPlace (MS.s_faultCode (MS.s_cod x 0) 0) 0)) H := hP
  have hD : va_D A (MW dA h ad (MS.s_faultPlace (MS.s_faultCode (MS.s_cod x 0) 0) 0)) := hD
  have J59 : ∀ (z : MS) (ez : z = x.rdS c7 g7), ∀ (H : Heap) (locs : List Loc) (ls : Array Slot) (hP : va_P D vwCl (MW dA h ad z) H) (hD : va_D A (MW dA h ad z)) (hS : va_S A s.heap H locs) (hl : lv_has ls 5 [(2, .int x.faultPlace), (1, .int x.faultCode), (0, .ref h)]), W p l e ({ frames := 4, cells := 0, slots := 0, locals := 67 } : Room) s m ([.ref h] : List Value).toArray below meth c H locs 0 0 (MQ below (va_Qi (fun (r9 : Int32) (u9 : MS) => r9 = 0 ∧ u9 = ((((((x.rdS c7 g7).lyS).s_cod 1).s_faultCode x.faultCode).s_faultPlace x.faultPlace).s_on false).s_cutLeft (-1)) (fun (u9 : MS) t9 => bW D A (MW dA h ad u9) t9) A) ([.ref h] : List Value).toArray s 0 0 A) (F0 m 59 ls []) := by
    intro z ez H locs ls hP hD hS hl
    have J64 : ∀ (r : MS) (er : r = (x.rdS c7 g7).lyS) (r1 : r.seriesCount = x.seriesCount) (r2 : r.textLengths = x.textLengths) (r3 : r.used = x.used) (r4 : r.block = x.block) (r5 : r.journal = x.journal) (r6 : r.records = x.records) (r7 : r.fresh = x.fresh) (r8 : r.cutLeft = x.cutLeft), ∀ (H : Heap) (locs : List Loc) (ls : Array Slot) (hP : va_P D vwCl (MW dA h ad r) H) (hD : va_D A (MW dA h ad r)) (hS : va_S A s.heap H locs) (hl : lv_has ls 5 [(3, .int (nI n)), (2, .int x.faultPlace), (1, .int x.faultCode), (0, .ref h)]), W p l e ({ frames := 4, cells := 0, slots := 0, locals := 67 } : Room) s m ([.ref h] : List Value).toArray below meth c H locs 0 0 (MQ below (va_Qi (fun (r9 : Int32) (u9 : MS) => r9 = 0 ∧ u9 = ((((((x.rdS c7 g7).lyS).s_cod 1).s_faultCode x.faultCode).s_faultPlace x.faultPlace).s_on false).s_cutLeft (-1)) (fun (u9 : MS) t9 => bW D A (MW dA h ad u9) t9) A) ([.ref h] : List Value).toArray s 0 0 A) (F0 m 64 ls []) := by
      intro r er r1 r2 r3 r4 r5 r6 r7 r8 H locs ls hP hD hS hl
      refine lv_aload_n hx hb d_M_series_64 rfl (lv_at hl 3 rfl) ?_
      refine lv_iload_n hx hb d_M_series_65 rfl (lv_at hl 0 rfl) ?_
      refine jfI (rnV (As := [.int (nI n)]) (rest := []) hx hb hml hown hE hK (hN _ _ hS) hP hD (k_find l D dA H.size h ad r n (show r.seriesCount ≤ 256 from by omega) (show n ≤ 304 from by omega) (by rw [r1, r2]; exact ht)) (q0 := 0) rfl rfl w943 w942 w944 w945 w328 rfl rfl ⟨⟨by decide, by decide⟩, rfl⟩ ⟨(Nat.le_of_ble_eq_true rfl), (Nat.le_of_ble_eq_true rfl)⟩ rfl hl.1 rfl (Nat.le_of_ble_eq_true rfl) d_M_series_66 ⟨(Nat.le_of_ble_eq_true rfl), (Nat.le_of_ble_eq_true rfl)⟩) hP hD hS hA (fun r1 u2 H locs hp9 hP hD hS => ?_)
      have hP : va_P D vwCl (MW dA h ad r) H := hP
      have hD : va_D A (MW dA h ad r) := hD
      replace hp9 : r.fnd n = r1 := Eq.symm hp9
      subst hp9
      refine tpi (y := (-1)) (by rw [er]; exact hfd) ?_
      refine lv_istore hx hb d_M_series_69 hl (by decide) rfl (fun ls hl => ?_)
      have hl : lv_has ls 5 [(4, .int (-1)), (3, .int (nI n)), (2, .int x.faultPlace), (1, .int x.faultCode), (0, .ref h)] := hl
      refine lv_iload hx hb d_M_series_71 (lv_at hl 0 rfl) ?_
      refine lv_iconst (v := (-1)) hx hb d_M_series_73 (by decide) ?_
      refine lv_icmp_ne hx hb d_M_series_74 (tgt := 115) rfl (fun h9 => absurd (by decide) h9) (fun _ => ?_)
      refine lv_aload_n hx hb d_M_series_77 rfl (lv_at hl 4 rfl) ?_
      refine gF (v := .int (nI r.seriesCount)) hx hb hown hE hK hP 0 rfl rfl layM 12 (by decide) w332 rfl d_M_series_78 ?_
      refine lv_sipush (v := 256) hx hb d_M_series_81 (by decide) ?_
      refine lv_icmp_eq hx hb d_M_series_84 (tgt := 98) rfl (fun g3 => ?_) (fun g3 => ?_)
      · have g3 := (nI_eq (a := r.seriesCount) (b := 256) (by omega) (by omega)).mp g3; exfalso; omega
      have g3 := mt (nI_eq (a := r.seriesCount) (b := 256) (by omega) (by omega)).mpr g3
      refine lv_aload_n hx hb d_M_series_87 rfl (lv_at hl 4 rfl) ?_
      refine lv_iload_n hx hb d_M_series_88 rfl (lv_at hl 1 rfl) ?_
      have hPc := hP.sub (ws' := []) [] rfl
      have hDc := hD.sub (ws' := []) [] (by decide) rfl
      refine jnI (rnS (As := [.int (nI n)]) (rest := [.ref h]) hx hb hml hown hE hK (hN _ _ hS) hPc hDc (k_unitsOf l D dA H.size n (show n ≤ 65536 from by omega)) w882 w881 w883 w328 rfl rfl ⟨⟨by decide, by decide⟩, rfl⟩ ⟨(Nat.le_of_ble_eq_true rfl), (Nat.le_of_ble_eq_true rfl)⟩ rfl hl.1 rfl (Nat.le_of_ble_eq_true rfl) d_M_series_89 ⟨(Nat.le_of_ble_eq_true rfl), (Nat.le_of_ble_eq_true rfl)⟩) hP hD hS hA [] [0, 1, 2, 3, 4, 5, 6, 7, 8, 9, 10, 11, 12, 13, 14, 15, 16, 17, 18, 19, 20, 21, 22, 23, 24, 25, 26, 27, 28, 29, 30, 31, 32, 33, 34, 35, 36, 37, 38] (wr := MW dA h ad r) rfl rfl (by decide) (by decide) (fun r4 u9 H locs hp9 hP hD hS => ?_)
      have hP : va_P D vwCl (MW dA h ad r) H := hP
      have hD : va_D A (MW dA h ad r) := hD
      replace hp9 : nI (1 + (n + 31) / 32) = r4 := Eq.symm hp9
      subst hp9
      refine jfI (rnV (As := [.int (nI (1 + (n + 31) / 32))]) (rest := []) hx hb hml hown hE hK (hN _ _ hS) hP hD (k_hasRoom l D dA H.size h ad r (1 + (n + 31) / 32) (show r.used + (1 + (n + 31) / 32) < 2 ^ 31 from by omega) (show r.block + 1 < 2 ^ 31 from by omega) (show r.journal < 2 ^ 31 from by omega)) (q0 := 0) rfl rfl w867 w866 w868 w869 w328 rfl rfl ⟨⟨by decide, by decide⟩, rfl⟩ ⟨(Nat.le_of_ble_eq_true rfl), (Nat.le_of_ble_eq_true rfl)⟩ rfl hl.1 rfl (Nat.le_of_ble_eq_true rfl) d_M_series_92 ⟨(Nat.le_of_ble_eq_true rfl), (Nat.le_of_ble_eq_true rfl)⟩) hP hD hS hA (fun r6 u7 H locs hp9 hP hD hS => ?_)
      have hP : va_P D vwCl (MW dA h ad r) H := hP
      have hD : va_D A (MW dA h ad r) := hD
      replace hp9 : bI (r.room (1 + (n + 31) / 32)) = r6 := Eq.symm hp9
      subst hp9
      refine lv_if_ne hx hb d_M_series_95 (tgt := 115) rfl (fun _ => ?_) (fun h9 => absurd h9 (by rw [show r.room (1 + (n + 31) / 32) = true from (by show (decide _ || decide _) = true; rw [r3, r4, r5]; exact hro)]; decide))
      refine lv_iload hx hb d_M_series_115 (lv_at hl 0 rfl) ?_
      refine lv_iconst (v := (-1)) hx hb d_M_series_117 (by decide) ?_
      refine lv_icmp_ne hx hb d_M_series_118 (tgt := 168) rfl (fun h9 => absurd (by decide) h9) (fun _ => ?_)
      refine lv_aload_n hx hb d_M_series_121 rfl (lv_at hl 4 rfl) ?_
      refine gF (v := .int (nI r.seriesCount)) hx hb hown hE hK hP 0 rfl rfl layM 12 (by decide) w332 rfl d_M_series_122 ?_
      refine lv_istore hx hb d_M_series_125 hl (by decide) rfl (fun ls hl => ?_)
      have hl : lv_has ls 5 [(4, .int (nI r.seriesCount)), (3, .int (nI n)), (2, .int x.faultPlace), (1, .int x.faultCode), (0, .ref h)] := hl
      refine lv_aload_n hx hb d_M_series_127 rfl (lv_at hl 4 rfl) ?_
      refine lv_iconst (v := 0) hx hb d_M_series_128 (by decide) ?_
      refine lv_iload hx hb d_M_series_129 (lv_at hl 0 rfl) ?_
      refine lv_iload_n hx hb d_M_series_131 rfl (lv_at hl 1 rfl) ?_
      refine lv_i2l (v := lN (n)) hx hb d_M_series_132 (nI_l (by omega)) ?_
      refine lv_lconst (v := 0) hx hb d_M_series_133 (by decide) ?_
      refine lv_iload_n hx hb d_M_series_134 rfl (lv_at hl 1 rfl) ?_
      have hPc := hP.sub (ws' := []) [] rfl
      have hDc := hD.sub (ws' := []) [] (by decide) rfl
      refine jnI (rnS (As := [.int (nI n)]) (rest := [.long 0, .long (lN (n)), .int (nI r.seriesCount), .int 0, .ref h]) hx hb hml hown hE hK (hN _ _ hS) hPc hDc (k_unitsOf l D dA H.size n (show n ≤ 65536 from by omega)) w882 w881 w883 w328 rfl rfl ⟨⟨by decide, by decide⟩, rfl⟩ ⟨(Nat.le_of_ble_eq_true rfl), (Nat.le_of_ble_eq_true rfl)⟩ rfl hl.1 rfl (Nat.le_of_ble_eq_true rfl) d_M_series_135 ⟨(Nat.le_of_ble_eq_true rfl), (Nat.le_of_ble_eq_true rfl)⟩) hP hD hS hA [] [0, 1, 2, 3, 4, 5, 6, 7, 8, 9, 10, 11, 12, 13, 14, 15, 16, 17, 18, 19, 20, 21, 22, 23, 24, 25, 26, 27, 28, 29, 30, 31, 32, 33, 34, 35, 36, 37, 38] (wr := MW dA h ad r) rfl rfl (by decide) (by decide) (fun r8 u9 H locs hp9 hP hD hS => ?_)
      have hP : va_P D vwCl (MW dA h ad r) H := hP
      have hD : va_D A (MW dA h ad r) := hD
      replace hp9 : nI (1 + (n + 31) / 32) = r8 := Eq.symm hp9
      subst hp9
      refine jfI (rnV (As := [.int 0, .int (nI r.seriesCount), .long (lN (n)), .long 0, .int (nI (1 + (n + 31) / 32))]) (rest := []) hx hb hml hown hE hK (hN _ _ hS) hP hD (k_record_x l D dA H.size h ad r 0 r.seriesCount (lN (n)) 0 (1 + (n + 31) / 32) (show r.used + (1 + (n + 31) / 32) < 2 ^ 31 from by omega) (show 126 < r.used + (1 + (n + 31) / 32) from by omega) (by rw [r7]; exact hf) (by rw [r8]; exact hcu)) (q0 := 0) rfl rfl w889 w888 w890 w891 w328 rfl rfl ⟨⟨by decide, by decide⟩, rfl⟩ ⟨(Nat.le_of_ble_eq_true rfl), (Nat.le_of_ble_eq_true rfl)⟩ rfl hl.1 rfl (Nat.le_of_ble_eq_true rfl) d_M_series_138 ⟨(Nat.le_of_ble_eq_true rfl), (Nat.le_of_ble_eq_true rfl)⟩) hP hD hS hA (fun r10 u11 H locs hp9 hP hD hS => ?_)
      have hP : va_P D vwCl (MW dA h ad (MS.s_cutLeft (MS.s_on r false) (-1))) H := hP
      have hD : va_D A (MW dA h ad (MS.s_cutLeft (MS.s_on r false) (-1))) := hD
      replace hp9 : bI false = r10 := Eq.symm hp9
      subst hp9
      refine lv_if_ne hx hb d_M_series_141 (tgt := 161) rfl (fun h9 => absurd (by decide) h9) (fun _ => ?_)
      refine lv_aload_n hx hb d_M_series_144 rfl (lv_at hl 4 rfl) ?_
      refine lv_iconst (v := 1) hx hb d_M_series_145 (by decide) ?_
      refine pF (v := .int 1) hx hb hown hE hK hP hD hS 0 rfl rfl layM tyM tokM nmM 0 (by decide) w319 rfl rfl rfl (Nat.le_of_ble_eq_true rfl) d_M_series_146 (fun H locs hP hD hS => ?_)
      have hP : va_P D vwCl (MW dA h ad (MS.s_cutLeft (MS.s_on (MS.s_cod r 1) false) (-1))) H := hP
      have hD : va_D A (MW dA h ad (MS.s_cutLeft (MS.s_on (MS.s_cod r 1) false) (-1))) := hD
      refine lv_aload_n hx hb d_M_series_149 rfl (lv_at hl 4 rfl) ?_
      refine lv_iload_n hx hb d_M_series_150 rfl (lv_at hl 3 rfl) ?_
      refine pF (v := .int x.faultCode) hx hb hown hE hK hP hD hS 0 rfl rfl layM tyM tokM nmM 3 (by decide) w321 rfl rfl rfl (Nat.le_of_ble_eq_true rfl) d_M_series_151 (fun H locs hP hD hS => ?_)
      have hP : va_P D vwCl (MW dA h ad (MS.s_cutLeft (MS.s_on (MS.s_faultCode (MS.s_cod r 1) x.faultCode) false) (-1))) H := hP
      have hD : va_D A (MW dA h ad (MS.s_cutLeft (MS.s_on (MS.s_faultCode (MS.s_cod r 1) x.faultCode) false) (-1))) := hD
      refine lv_aload_n hx hb d_M_series_154 rfl (lv_at hl 4 rfl) ?_
      refine lv_iload_n hx hb d_M_series_155 rfl (lv_at hl 2 rfl) ?_
      refine pF (v := .int x.faultPlace) hx hb hown hE hK hP hD hS 0 rfl rfl layM tyM tokM nmM 4 (by decide) w322 rfl rfl rfl (Nat.le_of_ble_eq_true rfl) d_M_series_156 (fun H locs hP hD hS => ?_)
      have hP : va_P D vwCl (MW dA h ad (MS.s_cutLeft (MS.s_on (MS.s_faultPlace (MS.s_faultCode (MS.s_cod r 1) x.faultCode) x.faultPlace) false) (-1))) H := hP
      have hD : va_D A (MW dA h ad (MS.s_cutLeft (MS.s_on (MS.s_faultPlace (MS.s_faultCode (MS.s_cod r 1) x.faultCode) x.faultPlace) false) (-1))) := hD
      refine lv_iconst (v := 0) hx hb d_M_series_159 (by decide) ?_
      exact rfI hx hb hr hlk hS (MS.s_cutLeft (MS.s_on (MS.s_faultPlace (MS.s_faultCode (MS.s_cod r 1) x.faultCode) x.faultPlace) false) (-1)) ⟨rfl, by rw [er] <;> rfl⟩ hP hD (Nat.le_of_ble_eq_true rfl) (Nat.le_of_ble_eq_true rfl) d_M_series_160
    refine lv_aload_n hx hb d_M_series_59 rfl (lv_at hl 2 rfl) ?_
    refine jfI (rnV (As := []) (rest := []) hx hb hml hown hE hK (hN _ _ hS) hP hD (k_layText l D dA H.size h ad z (by rw [ez]; exact h1) (by rw [ez]; exact hc6) (by rw [ez]; exact hlb) (by rw [ez]; exact hl1) (by rw [ez]; exact hby)) (q0 := 0) rfl rfl w947 w946 w948 w949 w328 rfl rfl ⟨⟨by decide, by decide⟩, rfl⟩ ⟨(Nat.le_of_ble_eq_true rfl), (Nat.le_of_ble_eq_true rfl)⟩ rfl hl.1 rfl (Nat.le_of_ble_eq_true rfl) d_M_series_60 ⟨(Nat.le_of_ble_eq_true rfl), (Nat.le_of_ble_eq_true rfl)⟩) hP hD hS hA (fun r12 u13 H locs hp9 hP hD hS => ?_)
    have hP : va_P D vwCl (MW dA h ad (MS.s_texts z ((z.layT z.labelCount).1))) H := hP
    have hD : va_D A (MW dA h ad (MS.s_texts z ((z.layT z.labelCount).1))) := hD
    replace hp9 : nI (z.layT z.labelCount).2 = r12 := Eq.symm hp9
    subst hp9
    refine tpi (y := nI n) (congrArg nI (by rw [ez]; exact hn)) ?_
    refine lv_istore_n hx hb d_M_series_63 rfl hl (by decide) rfl (fun ls hl => ?_)
    have hl : lv_has ls 5 [(3, .int (nI n)), (2, .int x.faultPlace), (1, .int x.faultCode), (0, .ref h)] := hl
    exact J64 (MS.s_texts z ((z.layT z.labelCount).1)) (by rw [ez]; rfl) (by rw [ez]; rfl) (by rw [ez]; rfl) (by rw [ez]; rfl) (by rw [ez]; rfl) (by rw [ez]; rfl) (by rw [ez]; rfl) (by rw [ez]; rfl) (by rw [ez]; rfl) H _ ls hP hD hS (lv_sub hl [0, 1, 2, 3] rfl)
  refine lv_aload_n hx hb d_M_series_45 rfl (lv_at hl 2 rfl) ?_
  refine jfI (rnV (As := []) (rest := []) hx hb hml hown hE hK (hN _ _ hS) hP hD (k_readLabels_0 l D dA H.size h ad (MS.s_faultPlace (MS.s_faultCode (MS.s_cod x 0) 0) 0) c7 g7 (show x.length ≤ 65536 from by omega) rfl hrd) (q0 := 0) rfl rfl w435 w434 w436 w437 w328 rfl rfl ⟨⟨by decide, by decide⟩, rfl⟩ ⟨(Nat.le_of_ble_eq_true rfl), (Nat.le_of_ble_eq_true rfl)⟩ rfl hl.1 rfl (Nat.le_of_ble_eq_true rfl) d_M_series_46 ⟨(Nat.le_of_ble_eq_true rfl), (Nat.le_of_ble_eq_true rfl)⟩) hP hD hS hA (fun r14 u15 H locs hp9 hP hD hS => ?_)
  obtain ⟨y16, h9u⟩ : ∃ z9, z9 = u15 := ⟨_, rfl⟩
  subst h9u
  have hP : va_P D vwCl (MW dA h ad y16) H := hP
  have hD : va_D A (MW dA h ad y16) := hD
  obtain ⟨hp9, f_e_17⟩ := hp9
  replace hp9 : bI true = r14 := Eq.symm hp9
  subst hp9
  refine lv_if_ne hx hb d_M_series_49 (tgt := 59) rfl (fun _ => ?_) (fun h9 => absurd h9 (by decide))
  exact J59 y16 f_e_17 H _ ls hP hD hS (lv_sub hl [0, 1, 2] rfl)
theorem d_M_series_161 : decode prog_14_method_29_code 161 = .ok (.aload_n 0, 1) := by decide +kernel
theorem d_M_series_162 : decode prog_14_method_29_code 162 = .ok (.iload 4, 2) := by decide +kernel
theorem d_M_series_164 : decode prog_14_method_29_code 164 = .ok (.iload_n 3, 1) := by decide +kernel
theorem d_M_series_165 : decode prog_14_method_29_code 165 = .ok (.invokevirtual 254, 3) := by decide +kernel
set_option maxHeartbeats 4000000 in
set_option maxRecDepth 100000 in
theorem k_series_0 (l : Launch) (D : va_G) (dA : Nat → ClassId) (sz : Nat) (h : Nat) (ad : Nat → Nat) (x : MS) (c7 : Nat) (g7 : Nat → Nat) (n : Nat) (ho : x.on = true) (hl1 : x.length ≤ 65536) (hrd : rdM x.tape x.length 7 0 0 x.labels = .inr (c7, g7)) (h1 : x.seriesCount ≤ 256) (hc6 : c7 ≤ 6) (hlb : labOk g7 x.length c7) (hby : byteF x.tape) (hn : ((x.rdS c7 g7).layT c7).2 = n) (hn3 : n ≤ 304) (ht : ∀ q : Nat, q < x.seriesCount → x.textLengths q ≤ 304) (hfd : ((x.rdS c7 g7).lyS).fnd n = -1) (u1 : x.used ≤ 126) (u2 : x.block < 2 ^ 20) (u3 : x.journal ≤ 256) (h0 : ¬ x.seriesCount = 256) (hro : x.room (1 + (n + 31) / 32) = true) (r9a : x.records < 32000) (hcr : x.canR (1 + (n + 31) / 32)) : Met l ⟨"SeriesVaultModel", "series", "()I"⟩ [Cond.code ⟨"SeriesVaultModel", "series", "()I"⟩ prog_14_method_29_code 5 (some FieldType.int)] { frames := 4, cells := 0, slots := 0, locals := 67 } (pC D dA [.ref h] (MW dA h ad x) sz) (va_Qi (fun (r9 : Int32) (u9 : MS) => r9 = nI x.seriesCount ∧ u9 = ((((x.rdS c7 g7).lyS).recS 0 x.seriesCount (lN n) 0 (1 + (n + 31) / 32)).nwS x.seriesCount n).s_length 0) (fun (u9 : MS) t9 => bW D (va_A (MW dA h ad x) sz) (MW dA h ad u9) t9) (va_A (MW dA h ad x) sz)) 0 0 (va_A (MW dA h ad x) sz) := by
  refine mkC (y := ⟨"SeriesVaultModel", "series", "()I"⟩) (cc := prog_14_method_29_code) (maxL := 5) (av := [.ref h]) (ws := MW dA h ad x) (sz := sz) (Qc := fun A => va_Qi (fun (r9 : Int32) (u9 : MS) => r9 = nI x.seriesCount ∧ u9 = ((((x.rdS c7 g7).lyS).recS 0 x.seriesCount (lN n) 0 (1 + (n + 31) / 32)).nwS x.seriesCount n).s_length 0) (fun (u9 : MS) t9 => bW D A (MW dA h ad u9) t9) A) (by decide) (Nat.le_of_ble_eq_true rfl) ?_
  intro A p e s m below meth c ls hsz hB
  obtain ⟨hx, hb, hr, hml, hown, hin, hlk, hE, hK, hP, hD, hS, hA, hN, hl⟩ := hB
  have hown : s.vm.findClass "SeriesVaultModel" = some m.cls := hown
  have hl : lv_has ls 5 [(0, .ref h)] := hl
  obtain ⟨H, hH⟩ : ∃ z, z = s.heap := ⟨_, rfl⟩
  have hP : va_P D vwCl (MW dA h ad x) H := by rw [hH]; exact hP
  have hS : va_S A s.heap H [] := by rw [hH]; exact hS
  rw [← hH]
  refine lv_aload_n hx hb d_M_series_0 rfl (lv_at hl 0 rfl) ?_
  refine lv_aload_n hx hb d_M_series_1 rfl (lv_at hl 0 rfl) ?_
  refine gF (v := .int (bI x.on)) hx hb hown hE hK hP 0 rfl rfl layM 7 (by decide) w324 rfl d_M_series_2 ?_
  refine lv_if_eq hx hb d_M_series_5 (tgt := 12) rfl (fun h9 => absurd h9 (by rw [ho]; decide)) (fun _ => ?_)
  refine lv_iconst (v := 0) hx hb d_M_series_8 (by decide) ?_
  refine lv_goto hx hb d_M_series_9 (tgt := 13) rfl ?_
  refine pF (v := .int 0) hx hb hown hE hK hP hD hS 0 rfl rfl layM tyM tokM nmM 0 (by decide) w319 rfl rfl rfl (Nat.le_of_ble_eq_true rfl) d_M_series_13 (fun H locs hP hD hS => ?_)
  have hP : va_P D vwCl (MW dA h ad (MS.s_cod x 0)) H := hP
  have hD : va_D A (MW dA h ad (MS.s_cod x 0)) := hD
  refine lv_aload_n hx hb d_M_series_16 rfl (lv_at hl 0 rfl) ?_
  refine gF (v := .int 0) hx hb hown hE hK hP 0 rfl rfl layM 0 (by decide) w319 rfl d_M_series_17 ?_
  refine lv_if_le hx hb d_M_series_20 (tgt := 25) rfl (fun _ => ?_) (fun h9 => absurd (by decide) h9)
  refine lv_aload_n hx hb d_M_series_25 rfl (lv_at hl 0 rfl) ?_
  refine gF (v := .int x.faultCode) hx hb hown hE hK hP 0 rfl rfl layM 3 (by decide) w321 rfl d_M_series_26 ?_
  refine lv_istore_n hx hb d_M_series_29 rfl hl (by decide) rfl (fun ls hl => ?_)
  have hl : lv_has ls 5 [(1, .int x.faultCode), (0, .ref h)] := hl
  refine lv_aload_n hx hb d_M_series_30 rfl (lv_at hl 1 rfl) ?_
  refine gF (v := .int x.faultPlace) hx hb hown hE hK hP 0 rfl rfl layM 4 (by decide) w322 rfl d_M_series_31 ?_
  refine lv_istore_n hx hb d_M_series_34 rfl hl (by decide) rfl (fun ls hl => ?_)
  have hl : lv_has ls 5 [(2, .int x.faultPlace), (1, .int x.faultCode), (0, .ref h)] := hl
  refine lv_aload_n hx hb d_M_series_35 rfl (lv_at hl 2 rfl) ?_
  refine lv_iconst (v := 0) hx hb d_M_series_36 (by decide) ?_
  refine pF (v := .int 0) hx hb hown hE hK hP hD hS 0 rfl rfl layM tyM tokM nmM 3 (by decide) w321 rfl rfl rfl (Nat.le_of_ble_eq_true rfl) d_M_series_37 (fun H locs hP hD hS => ?_)
  have hP : va_P D vwCl (MW dA h ad (MS.s_faultCode (MS.s_cod x 0) 0)) H := hP
  have hD : va_D A (MW dA h ad (MS.s_faultCode (MS.s_cod x 0) 0)) := hD
  refine lv_aload_n hx hb d_M_series_40 rfl (lv_at hl 2 rfl) ?_
  refine lv_iconst (v := 0) hx hb d_M_series_41 (by decide) ?_
  refine pF (v := .int 0) hx hb hown hE hK hP hD hS 0 rfl rfl layM tyM tokM nmM 4 (by decide) w322 rfl rfl rfl (Nat.le_of_ble_eq_true rfl) d_M_series_42 (fun H locs hP hD hS => ?_)
  have hP : va_P D vwCl (MW dA h ad (MS.s_faultPlace (MS.s_faultCode (MS.s_cod x 0) 0) 0)) H := hP
  have hD : va_D A (MW dA h ad (MS.s_faultPlace (MS.s_faultCode (MS.s_cod x 0) 0) 0)) := hD
  have J59 : ∀ (z : MS) (ez : z = x.rdS c7 g7), ∀ (H : Heap) (locs : List Loc) (ls : Array Slot) (hP : va_P D vwCl (MW dA h ad z) H) (hD : va_D A (MW dA h ad z)) (hS : va_S A s.heap H locs) (hl : lv_has ls 5 [(2, .int x.faultPlace), (1, .int x.faultCode), (0, .ref h)]), W p l e ({ frames := 4, cells := 0, slots := 0, locals := 67 } : Room) s m ([.ref h] : List Value).toArray below meth c H locs 0 0 (MQ below (va_Qi (fun (r9 : Int32) (u9 : MS) => r9 = nI x.seriesCount ∧ u9 = ((((x.rdS c7 g7).lyS).recS 0 x.seriesCount (lN n) 0 (1 + (n + 31) / 32)).nwS x.seriesCount n).s_length 0) (fun (u9 : MS) t9 => bW D A (MW dA h ad u9) t9) A) ([.ref h] : List Value).toArray s 0 0 A) (F0 m 59 ls []) := by
    intro z ez H locs ls hP hD hS hl
    have J64 : ∀ (r : MS) (er : r = (x.rdS c7 g7).lyS) (r1 : r.seriesCount = x.seriesCount) (r2 : r.textLengths = x.textLengths) (r3 : r.used = x.used) (r4 : r.block = x.block) (r5 : r.journal = x.journal) (r6 : r.records = x.records) (r7 : r.fresh = x.fresh) (r8 : r.cutLeft = x.cutLeft), ∀ (H : Heap) (locs : List Loc) (ls : Array Slot) (hP : va_P D vwCl (MW dA h ad r) H) (hD : va_D A (MW dA h ad r)) (hS : va_S A s.heap H locs) (hl : lv_has ls 5 [(3, .int (nI n)), (2, .int x.faultPlace), (1, .int x.faultCode), (0, .ref h)]), W p l e ({ frames := 4, cells := 0, slots := 0, locals := 67 } : Room) s m ([.ref h] : List Value).toArray below meth c H locs 0 0 (MQ below (va_Qi (fun (r9 : Int32) (u9 : MS) => r9 = nI x.seriesCount ∧ u9 = ((((x.rdS c7 g7).lyS).recS 0 x.seriesCount (lN n) 0 (1 + (n + 31) / 32)).nwS x.seriesCount n).s_length 0) (fun (u9 : MS) t9 => bW D A (MW dA h ad u9) t9) A) ([.ref h] : List Value).toArray s 0 0 A) (F0 m 64 ls []) := by
      intro r er r1 r2 r3 r4 r5 r6 r7 r8 H locs ls hP hD hS hl
      refine lv_aload_n hx hb d_M_series_64 rfl (lv_at hl 3 rfl) ?_
      refine lv_iload_n hx hb d_M_series_65 rfl (lv_at hl 0 rfl) ?_
      refine jfI (rnV (As := [.int (nI n)]) (rest := []) hx hb hml hown hE hK (hN _ _ hS) hP hD (k_find l D dA H.size h ad r n (show r.seriesCount ≤ 256 from by omega) (show n ≤ 304 from by omega) (by rw [r1, r2]; exact ht)) (q0 := 0) rfl rfl w943 w942 w944 w945 w328 rfl rfl ⟨⟨by decide, by decide⟩, rfl⟩ ⟨(Nat.le_of_ble_eq_true rfl), (Nat.le_of_ble_eq_true rfl)⟩ rfl hl.1 rfl (Nat.le_of_ble_eq_true rfl) d_M_series_66 ⟨(Nat.le_of_ble_eq_true rfl), (Nat.le_of_ble_eq_true rfl)⟩) hP hD hS hA (fun r1 u2 H locs hp9 hP hD hS => ?_)
      have hP : va_P D vwCl (MW dA h ad r) H := hP
      have hD : va_D A (MW dA h ad r) := hD
      replace hp9 : r.fnd n = r1 := Eq.symm hp9
      subst hp9
      refine tpi (y := (-1)) (by rw [er]; exact hfd) ?_
      refine lv_istore hx hb d_M_series_69 hl (by decide) rfl (fun ls hl => ?_)
      have hl : lv_has ls 5 [(4, .int (-1)), (3, .int (nI n)), (2, .int x.faultPlace), (1, .int x.faultCode), (0, .ref h)] := hl
      refine lv_iload hx hb d_M_series_71 (lv_at hl 0 rfl) ?_
      refine lv_iconst (v := (-1)) hx hb d_M_series_73 (by decide) ?_
      refine lv_icmp_ne hx hb d_M_series_74 (tgt := 115) rfl (fun h9 => absurd (by decide) h9) (fun _ => ?_)
      refine lv_aload_n hx hb d_M_series_77 rfl (lv_at hl 4 rfl) ?_
      refine gF (v := .int (nI r.seriesCount)) hx hb hown hE hK hP 0 rfl rfl layM 12 (by decide) w332 rfl d_M_series_78 ?_
      refine lv_sipush (v := 256) hx hb d_M_series_81 (by decide) ?_
      refine lv_icmp_eq hx hb d_M_series_84 (tgt := 98) rfl (fun g3 => ?_) (fun g3 => ?_)
      · have g3 := (nI_eq (a := r.seriesCount) (b := 256) (by omega) (by omega)).mp g3; exfalso; omega
      have g3 := mt (nI_eq (a := r.seriesCount) (b := 256) (by omega) (by omega)).mpr g3
      refine lv_aload_n hx hb d_M_series_87 rfl (lv_at hl 4 rfl) ?_
      refine lv_iload_n hx hb d_M_series_88 rfl (lv_at hl 1 rfl) ?_
      have hPc := hP.sub (ws' := []) [] rfl
      have hDc := hD.sub (ws' := []) [] (by decide) rfl
      refine jnI (rnS (As := [.int (nI n)]) (rest := [.ref h]) hx hb hml hown hE hK (hN _ _ hS) hPc hDc (k_unitsOf l D dA H.size n (show n ≤ 65536 from by omega)) w882 w881 w883 w328 rfl rfl ⟨⟨by decide, by decide⟩, rfl⟩ ⟨(Nat.le_of_ble_eq_true rfl), (Nat.le_of_ble_eq_true rfl)⟩ rfl hl.1 rfl (Nat.le_of_ble_eq_true rfl) d_M_series_89 ⟨(Nat.le_of_ble_eq_true rfl), (Nat.le_of_ble_eq_true rfl)⟩) hP hD hS hA [] [0, 1, 2, 3, 4, 5, 6, 7, 8, 9, 10, 11, 12, 13, 14, 15, 16, 17, 18, 19, 20, 21, 22, 23, 24, 25, 26, 27, 28, 29, 30, 31, 32, 33, 34, 35, 36, 37, 38] (wr := MW dA h ad r) rfl rfl (by decide) (by decide) (fun r4 u9 H locs hp9 hP hD hS => ?_)
      have hP : va_P D vwCl (MW dA h ad r) H := hP
      have hD : va_D A (MW dA h ad r) := hD
      replace hp9 : nI (1 + (n + 31) / 32) = r4 := Eq.symm hp9
      subst hp9
      refine jfI (rnV (As := [.int (nI (1 + (n + 31) / 32))]) (rest := []) hx hb hml hown hE hK (hN _ _ hS) hP hD (k_hasRoom l D dA H.size h ad r (1 + (n + 31) / 32) (show r.used + (1 + (n + 31) / 32) < 2 ^ 31 from by omega) (show r.block + 1 < 2 ^ 31 from by omega) (show r.journal < 2 ^ 31 from by omega)) (q0 := 0) rfl rfl w867 w866 w868 w869 w328 rfl rfl ⟨⟨by decide, by decide⟩, rfl⟩ ⟨(Nat.le_of_ble_eq_true rfl), (Nat.le_of_ble_eq_true rfl)⟩ rfl hl.1 rfl (Nat.le_of_ble_eq_true rfl) d_M_series_92 ⟨(Nat.le_of_ble_eq_true rfl), (Nat.le_of_ble_eq_true rfl)⟩) hP hD hS hA (fun r6 u7 H locs hp9 hP hD hS => ?_)
      have hP : va_P D vwCl (MW dA h ad r) H := hP
      have hD : va_D A (MW dA h ad r) := hD
      replace hp9 : bI (r.room (1 + (n + 31) / 32)) = r6 := Eq.symm hp9
      subst hp9
      refine lv_if_ne hx hb d_M_series_95 (tgt := 115) rfl (fun _ => ?_) (fun h9 => absurd h9 (by rw [show r.room (1 + (n + 31) / 32) = true from (by show (decide _ || decide _) = true; rw [r3, r4, r5]; exact hro)]; decide))
      refine lv_iload hx hb d_M_series_115 (lv_at hl 0 rfl) ?_
      refine lv_iconst (v := (-1)) hx hb d_M_series_117 (by decide) ?_
      refine lv_icmp_ne hx hb d_M_series_118 (tgt := 168) rfl (fun h9 => absurd (by decide) h9) (fun _ => ?_)
      refine lv_aload_n hx hb d_M_series_121 rfl (lv_at hl 4 rfl) ?_
      refine gF (v := .int (nI r.seriesCount)) hx hb hown hE hK hP 0 rfl rfl layM 12 (by decide) w332 rfl d_M_series_122 ?_
      refine lv_istore hx hb d_M_series_125 hl (by decide) rfl (fun ls hl => ?_)
      have hl : lv_has ls 5 [(4, .int (nI r.seriesCount)), (3, .int (nI n)), (2, .int x.faultPlace), (1, .int x.faultCode), (0, .ref h)] := hl
      refine lv_aload_n hx hb d_M_series_127 rfl (lv_at hl 4 rfl) ?_
      refine lv_iconst (v := 0) hx hb d_M_series_128 (by decide) ?_
      refine lv_iload hx hb d_M_series_129 (lv_at hl 0 rfl) ?_
      refine lv_iload_n hx hb d_M_series_131 rfl (lv_at hl 1 rfl) ?_
      refine lv_i2l (v := lN (n)) hx hb d_M_series_132 (nI_l (by omega)) ?_
      refine lv_lconst (v := 0) hx hb d_M_series_133 (by decide) ?_
      refine lv_iload_n hx hb d_M_series_134 rfl (lv_at hl 1 rfl) ?_
      have hPc := hP.sub (ws' := []) [] rfl
      have hDc := hD.sub (ws' := []) [] (by decide) rfl
      refine jnI (rnS (As := [.int (nI n)]) (rest := [.long 0, .long (lN (n)), .int (nI r.seriesCount), .int 0, .ref h]) hx hb hml hown hE hK (hN _ _ hS) hPc hDc (k_unitsOf l D dA H.size n (show n ≤ 65536 from by omega)) w882 w881 w883 w328 rfl rfl ⟨⟨by decide, by decide⟩, rfl⟩ ⟨(Nat.le_of_ble_eq_true rfl), (Nat.le_of_ble_eq_true rfl)⟩ rfl hl.1 rfl (Nat.le_of_ble_eq_true rfl) d_M_series_135 ⟨(Nat.le_of_ble_eq_true rfl), (Nat.le_of_ble_eq_true rfl)⟩) hP hD hS hA [] [0, 1, 2, 3, 4, 5, 6, 7, 8, 9, 10, 11, 12, 13, 14, 15, 16, 17, 18, 19, 20, 21, 22, 23, 24, 25, 26, 27, 28, 29, 30, 31, 32, 33, 34, 35, 36, 37, 38] (wr := MW dA h ad r) rfl rfl (by decide) (by decide) (fun r8 u9 H locs hp9 hP hD hS => ?_)
      have hP : va_P D vwCl (MW dA h ad r) H := hP
      have hD : va_D A (MW dA h ad r) := hD
      replace hp9 : nI (1 + (n + 31) / 32) = r8 := Eq.symm hp9
      subst hp9
      refine jfI (rnV (As := [.int 0, .int (nI r.seriesCount), .long (lN (n)), .long 0, .int (nI (1 + (n + 31) / 32))]) (rest := []) hx hb hml hown hE hK (hN _ _ hS) hP hD (k_record l D dA H.size h ad r 0 r.seriesCount (lN (n)) 0 (1 + (n + 31) / 32) (by decide) (show r.records < 32000 from by omega) (show r.used + (1 + (n + 31) / 32) < 2 ^ 31 from by omega) (show r.block < 2 ^ 30 from by omega) (by rw [r3, r7, r8]; exact hcr)) (q0 := 0) rfl rfl w889 w888 w890 w891 w328 rfl rfl ⟨⟨by decide, by decide⟩, rfl⟩ ⟨(Nat.le_of_ble_eq_true rfl), (Nat.le_of_ble_eq_true rfl)⟩ rfl hl.1 rfl (Nat.le_of_ble_eq_true rfl) d_M_series_138 ⟨(Nat.le_of_ble_eq_true rfl), (Nat.le_of_ble_eq_true rfl)⟩) hP hD hS hA (fun r10 u11 H locs hp9 hP hD hS => ?_)
      have hP : va_P D vwCl (MW dA h ad (MS.s_fresh (MS.s_used (MS.s_block (MS.s_kept (MS.s_records (MS.s_recordBlocks (MS.s_units (MS.s_seconds (MS.s_firsts (MS.s_recordSeries (MS.s_kinds (MS.s_written (MS.s_cutLeft r (r.rCut (1 + (n + 31) / 32))) (r.rWr (1 + (n + 31) / 32))) (va_up r.kinds r.records 0)) (va_up r.recordSeries r.records r.seriesCount)) (va_up r.firsts r.records (lN (n)))) (va_up r.seconds r.records 0)) (va_up r.units r.records (1 + (n + 31) / 32))) (va_up r.recordBlocks r.records (r.rBlock (1 + (n + 31) / 32)))) (r.records + 1)) (r.rKept (1 + (n + 31) / 32))) (r.rBlock (1 + (n + 31) / 32))) (r.rUsed (1 + (n + 31) / 32))) true)) H := hP
      have hD : va_D A (MW dA h ad (MS.s_fresh (MS.s_used (MS.s_block (MS.s_kept (MS.s_records (MS.s_recordBlocks (MS.s_units (MS.s_seconds (MS.s_firsts (MS.s_recordSeries (MS.s_kinds (MS.s_written (MS.s_cutLeft r (r.rCut (1 + (n + 31) / 32))) (r.rWr (1 + (n + 31) / 32))) (va_up r.kinds r.records 0)) (va_up r.recordSeries r.records r.seriesCount)) (va_up r.firsts r.records (lN (n)))) (va_up r.seconds r.records 0)) (va_up r.units r.records (1 + (n + 31) / 32))) (va_up r.recordBlocks r.records (r.rBlock (1 + (n + 31) / 32)))) (r.records + 1)) (r.rKept (1 + (n + 31) / 32))) (r.rBlock (1 + (n + 31) / 32))) (r.rUsed (1 + (n + 31) / 32))) true)) := hD
      replace hp9 : bI true = r10 := Eq.symm hp9
      subst hp9
      refine lv_if_ne hx hb d_M_series_141 (tgt := 161) rfl (fun _ => ?_) (fun h9 => absurd h9 (by decide))
      refine lv_aload_n hx hb d_M_series_161 rfl (lv_at hl 4 rfl) ?_
      refine lv_iload hx hb d_M_series_162 (lv_at hl 0 rfl) ?_
      refine lv_iload_n hx hb d_M_series_164 rfl (lv_at hl 1 rfl) ?_
      refine jfV (rnV (As := [.int (nI r.seriesCount), .int (nI n)]) (rest := []) hx hb hml hown hE hK (hN _ _ hS) hP hD (k_newSeries l D dA H.size h ad (MS.s_fresh (MS.s_used (MS.s_block (MS.s_kept (MS.s_records (MS.s_recordBlocks (MS.s_units (MS.s_seconds (MS.s_firsts (MS.s_recordSeries (MS.s_kinds (MS.s_written (MS.s_cutLeft r (r.rCut (1 + (n + 31) / 32))) (r.rWr (1 + (n + 31) / 32))) (va_up r.kinds r.records 0)) (va_up r.recordSeries r.records r.seriesCount)) (va_up r.firsts r.records (lN (n)))) (va_up r.seconds r.records 0)) (va_up r.units r.records (1 + (n + 31) / 32))) (va_up r.recordBlocks r.records (r.rBlock (1 + (n + 31) / 32)))) (r.records + 1)) (r.rKept (1 + (n + 31) / 32))) (r.rBlock (1 + (n + 31) / 32))) (r.rUsed (1 + (n + 31) / 32))) true) r.seriesCount n (show r.seriesCount < 256 from by omega)) (q0 := 0) rfl rfl w935 w934 w936 w937 w328 rfl rfl ⟨⟨by decide, by decide⟩, rfl⟩ ⟨(Nat.le_of_ble_eq_true rfl), (Nat.le_of_ble_eq_true rfl)⟩ rfl hl.1 rfl (Nat.le_of_ble_eq_true rfl) d_M_series_165 ⟨(Nat.le_of_ble_eq_true rfl), (Nat.le_of_ble_eq_true rfl)⟩) hP hD hS hA (fun u13 H locs hp9 hP hD hS => ?_)
      have hP : va_P D vwCl (MW dA h ad (MS.s_fresh (MS.s_used (MS.s_block (MS.s_kept (MS.s_records (MS.s_recordBlocks (MS.s_units (MS.s_seconds (MS.s_firsts (MS.s_recordSeries (MS.s_kinds (MS.s_lasts (MS.s_seriesCount (MS.s_textLengths (MS.s_written (MS.s_cutLeft r (r.rCut (1 + (n + 31) / 32))) (r.rWr (1 + (n + 31) / 32))) (va_up r.textLengths r.seriesCount n)) (r.seriesCount + 1)) (va_up r.lasts r.seriesCount (-1))) (va_up r.kinds r.records 0)) (va_up r.recordSeries r.records r.seriesCount)) (va_up r.firsts r.records (lN (n)))) (va_up r.seconds r.records 0)) (va_up r.units r.records (1 + (n + 31) / 32))) (va_up r.recordBlocks r.records (r.rBlock (1 + (n + 31) / 32)))) (r.records + 1)) (r.rKept (1 + (n + 31) / 32))) (r.rBlock (1 + (n + 31) / 32))) (r.rUsed (1 + (n + 31) / 32))) true)) H := hP
      have hD : va_D A (MW dA h ad (MS.s_fresh (MS.s_used (MS.s_block (MS.s_kept (MS.s_records (MS.s_recordBlocks (MS.s_units (MS.s_seconds (MS.s_firsts (MS.s_recordSeries (MS.s_kinds (MS.s_lasts (MS.s_seriesCount (MS.s_textLengths (MS.s_written (MS.s_cutLeft r (r.rCut (1 + (n + 31) / 32))) (r.rWr (1 + (n + 31) / 32))) (va_up r.textLengths r.seriesCount n)) (r.seriesCount + 1)) (va_up r.lasts r.seriesCount (-1))) (va_up r.kinds r.records 0)) (va_up r.recordSeries r.records r.seriesCount)) (va_up r.firsts r.records (lN (n)))) (va_up r.seconds r.records 0)) (va_up r.units r.records (1 + (n + 31) / 32))) (va_up r.recordBlocks r.records (r.rBlock (1 + (n + 31) / 32)))) (r.records + 1)) (r.rKept (1 + (n + 31) / 32))) (r.rBlock (1 + (n + 31) / 32))) (r.rUsed (1 + (n + 31) / 32))) true)) := hD
      refine lv_aload_n hx hb d_M_series_168 rfl (lv_at hl 4 rfl) ?_
      refine lv_iconst (v := 0) hx hb d_M_series_169 (by decide) ?_
      refine pF (v := .int (nI 0)) hx hb hown hE hK hP hD hS 0 rfl rfl layM tyM tokM nmM 2 (by decide) w320 rfl rfl rfl (Nat.le_of_ble_eq_true rfl) d_M_series_170 (fun H locs hP hD hS => ?_)
      have hP : va_P D vwCl (MW dA h ad (MS.s_fresh (MS.s_used (MS.s_block (MS.s_kept (MS.s_records (MS.s_recordBlocks (MS.s_units (MS.s_seconds (MS.s_firsts (MS.s_recordSeries (MS.s_kinds (MS.s_lasts (MS.s_seriesCount (MS.s_textLengths (MS.s_written (MS.s_cutLeft (MS.s_length r 0) (r.rCut (1 + (n + 31) / 32))) (r.rWr (1 + (n + 31) / 32))) (va_up r.textLengths r.seriesCount n)) (r.seriesCount + 1)) (va_up r.lasts r.seriesCount (-1))) (va_up r.kinds r.records 0)) (va_up r.recordSeries r.records r.seriesCount)) (va_up r.firsts r.records (lN (n)))) (va_up r.seconds r.records 0)) (va_up r.units r.records (1 + (n + 31) / 32))) (va_up r.recordBlocks r.records (r.rBlock (1 + (n + 31) / 32)))) (r.records + 1)) (r.rKept (1 + (n + 31) / 32))) (r.rBlock (1 + (n + 31) / 32))) (r.rUsed (1 + (n + 31) / 32))) true)) H := hP
      have hD : va_D A (MW dA h ad (MS.s_fresh (MS.s_used (MS.s_block (MS.s_kept (MS.s_records (MS.s_recordBlocks (MS.s_units (MS.s_seconds (MS.s_firsts (MS.s_recordSeries (MS.s_kinds (MS.s_lasts (MS.s_seriesCount (MS.s_textLengths (MS.s_written (MS.s_cutLeft (MS.s_length r 0) (r.rCut (1 + (n + 31) / 32))) (r.rWr (1 + (n + 31) / 32))) (va_up r.textLengths r.seriesCount n)) (r.seriesCount + 1)) (va_up r.lasts r.seriesCount (-1))) (va_up r.kinds r.records 0)) (va_up r.recordSeries r.records r.seriesCount)) (va_up r.firsts r.records (lN (n)))) (va_up r.seconds r.records 0)) (va_up r.units r.records (1 + (n + 31) / 32))) (va_up r.recordBlocks r.records (r.rBlock (1 + (n + 31) / 32)))) (r.records + 1)) (r.rKept (1 + (n + 31) / 32))) (r.rBlock (1 + (n + 31) / 32))) (r.rUsed (1 + (n + 31) / 32))) true)) := hD
      refine lv_iload hx hb d_M_series_173 (lv_at hl 0 rfl) ?_
      exact rfI hx hb hr hlk hS (MS.s_fresh (MS.s_used (MS.s_block (MS.s_kept (MS.s_records (MS.s_recordBlocks (MS.s_units (MS.s_seconds (MS.s_firsts (MS.s_recordSeries (MS.s_kinds (MS.s_lasts (MS.s_seriesCount (MS.s_textLengths (MS.s_written (MS.s_cutLeft (MS.s_length r 0) (r.rCut (1 + (n + 31) / 32))) (r.rWr (1 + (n + 31) / 32))) (va_up r.textLengths r.seriesCount n)) (r.seriesCount + 1)) (va_up r.lasts r.seriesCount (-1))) (va_up r.kinds r.records 0)) (va_up r.recordSeries r.records r.seriesCount)) (va_up r.firsts r.records (lN (n)))) (va_up r.seconds r.records 0)) (va_up r.units r.records (1 + (n + 31) / 32))) (va_up r.recordBlocks r.records (r.rBlock (1 + (n + 31) / 32)))) (r.records + 1)) (r.rKept (1 + (n + 31) / 32))) (r.rBlock (1 + (n + 31) / 32))) (r.rUsed (1 + (n + 31) / 32))) true) ⟨by rw [r1], by rw [r1, er] <;> rfl⟩ hP hD (Nat.le_of_ble_eq_true rfl) (Nat.le_of_ble_eq_true rfl) d_M_series_175
    refine lv_aload_n hx hb d_M_series_59 rfl (lv_at hl 2 rfl) ?_
    refine jfI (rnV (As := []) (rest := []) hx hb hml hown hE hK (hN _ _ hS) hP hD (k_layText l D dA H.size h ad z (by rw [ez]; exact h1) (by rw [ez]; exact hc6) (by rw [ez]; exact hlb) (by rw [ez]; exact hl1) (by rw [ez]; exact hby)) (q0 := 0) rfl rfl w947 w946 w948 w949 w328 rfl rfl ⟨⟨by decide, by decide⟩, rfl⟩ ⟨(Nat.le_of_ble_eq_true rfl), (Nat.le_of_ble_eq_true rfl)⟩ rfl hl.1 rfl (Nat.le_of_ble_eq_true rfl) d_M_series_60 ⟨(Nat.le_of_ble_eq_true rfl), (Nat.le_of_ble_eq_true rfl)⟩) hP hD hS hA (fun r14 u15 H locs hp9 hP hD hS => ?_)
    have hP : va_P D vwCl (MW dA h ad (MS.s_texts z ((z.layT z.labelCount).1))) H := hP
    have hD : va_D A (MW dA h ad (MS.s_texts z ((z.layT z.labelCount).1))) := hD
    replace hp9 : nI (z.layT z.labelCount).2 = r14 := Eq.symm hp9
    subst hp9
    refine tpi (y := nI n) (congrArg nI (by rw [ez]; exact hn)) ?_
    refine lv_istore_n hx hb d_M_series_63 rfl hl (by decide) rfl (fun ls hl => ?_)
    have hl : lv_has ls 5 [(3, .int (nI n)), (2, .int x.faultPlace), (1, .int x.faultCode), (0, .ref h)] := hl
    exact J64 (MS.s_texts z ((z.layT z.labelCount).1)) (by rw [ez]; rfl) (by rw [ez]; rfl) (by rw [ez]; rfl) (by rw [ez]; rfl) (by rw [ez]; rfl) (by rw [ez]; rfl) (by rw [ez]; rfl) (by rw [ez]; rfl) (by rw [ez]; rfl) H _ ls hP hD hS (lv_sub hl [0, 1, 2, 3] rfl)
  refine lv_aload_n hx hb d_M_series_45 rfl (lv_at hl 2 rfl) ?_
  refine jfI (rnV (As := []) (rest := []) hx hb hml hown hE hK (hN _ _ hS) hP hD (k_readLabels_0 l D dA H.size h ad (MS.s_faultPlace (MS.s_faultCode (MS.s_cod x 0) 0) 0) c7 g7 (show x.length ≤ 65536 from by omega) rfl hrd) (q0 := 0) rfl rfl w435 w434 w436 w437 w328 rfl rfl ⟨⟨by decide, by decide⟩, rfl⟩ ⟨(Nat.le_of_ble_eq_true rfl), (Nat.le_of_ble_eq_true rfl)⟩ rfl hl.1 rfl (Nat.le_of_ble_eq_true rfl) d_M_series_46 ⟨(Nat.le_of_ble_eq_true rfl), (Nat.le_of_ble_eq_true rfl)⟩) hP hD hS hA (fun r16 u17 H locs hp9 hP hD hS => ?_)
  obtain ⟨y18, h9u⟩ : ∃ z9, z9 = u17 := ⟨_, rfl⟩
  subst h9u
  have hP : va_P D vwCl (MW dA h ad y18) H := hP
  have hD : va_D A (MW dA h ad y18) := hD
  obtain ⟨hp9, f_e_19⟩ := hp9
  replace hp9 : bI true = r16 := Eq.symm hp9
  subst hp9
  refine lv_if_ne hx hb d_M_series_49 (tgt := 59) rfl (fun _ => ?_) (fun h9 => absurd h9 (by decide))
  exact J59 y18 f_e_19 H _ ls hP hD hS (lv_sub hl [0, 1, 2] rfl)
end
section
def isDg (z : Int32) : Bool := !decide (z < 48) && !decide (57 < z)
def isLt (z : Int32) : Bool := (!decide (z < 97) && decide (z ≤ 122)) || ((!decide (z < 65) && decide (z ≤ 90)) || decide (z = 95))
/-- the byte at place k, 0 behind the end -/
def atI (f : Nat → Int32) (len k : Nat) : Int32 := if len ≤ k then 0 else f k &&& 255
def MS.atN (x : MS) (k : Nat) : Int32 := atI x.tape x.length k
def rkN (z : Int32) : Nat := if z = 43 ∨ z = 45 then 1 else if z = 42 ∨ z = 47 ∨ z = 37 then 2 else if z = 109 then 3 else 0
def MS.stB (x : MS) (a b c : Int32) : Bool := decide (x.atN x.frm = a) && (decide (x.atN (x.frm + 1) = b) && decide (x.atN (x.frm + 2) = c))
set_option maxHeartbeats 4000000 in
set_option maxRecDepth 100000 in
theorem k_names_0 (l : Launch) (D : va_G) (dA : Nat → ClassId) (sz : Nat) (h : Nat) (ad : Nat → Nat) (x : MS) (ht : x.isTable = false) : Met l ⟨"SeriesVaultModel", "names", "()I"⟩ [Cond.code ⟨"SeriesVaultModel", "names", "()I"⟩ prog_14_method_92_code 1 (some FieldType.int)] { frames := 1, cells := 0, slots := 0, locals := 0 } (pC D dA [.ref h] (MW dA h ad x) sz) (va_Qi (fun (r9 : Int32) (u9 : Unit) => r9 = (-1)) (fun (u9 : Unit) t9 => bW D (va_A (MW dA h ad x) sz) (MW dA h ad (MS.s_cod x 0)) t9) (va_A (MW dA h ad x) sz)) 0 0 (va_A (MW dA h ad x) sz) := by
  refine mkC (y := ⟨"SeriesVaultModel", "names", "()I"⟩) (cc := prog_14_method_92_code) (maxL := 1) (av := [.ref h]) (ws := MW dA h ad x) (sz := sz) (Qc := fun A => va_Qi (fun (r9 : Int32) (u9 : Unit) => r9 = (-1)) (fun (u9 : Unit) t9 => bW D A (MW dA h ad (MS.s_cod x 0)) t9) A) (by decide) (Nat.le_of_ble_eq_true rfl) ?_
  intro A p e s m below meth c ls hsz hB
  obtain ⟨hx, hb, hr, hml, hown, hin, hlk, hE, hK, hP, hD, hS, hA, hN, hl⟩ := hB
  have hown : s.vm.findClass "SeriesVaultModel" = some m.cls := hown
  have hl : lv_has ls 1 [(0, .ref h)] := hl
  obtain ⟨H, hH⟩ : ∃ z, z = s.heap := ⟨_, rfl⟩
  have hP : va_P D vwCl (MW dA h ad x) H := by rw [hH]; exact hP
  have hS : va_S A s.heap H [] := by rw [hH]; exact hS
  rw [← hH]
  refine lv_aload_n hx hb d_M_names_0 rfl (lv_at hl 0 rfl) ?_
  refine lv_iconst (v := 0) hx hb d_M_names_1 (by decide) ?_
  refine pF (v := .int 0) hx hb hown hE hK hP hD hS 0 rfl rfl layM tyM tokM nmM 0 (by decide) w319 rfl rfl rfl (Nat.le_of_ble_eq_true rfl) d_M_names_2 (fun H locs hP hD hS => ?_)
  have hP : va_P D vwCl (MW dA h ad (MS.s_cod x 0)) H := hP
  have hD : va_D A (MW dA h ad (MS.s_cod x 0)) := hD
  refine lv_aload_n hx hb d_M_names_5 rfl (lv_at hl 0 rfl) ?_
  refine gF (v := .int (bI x.isTable)) hx hb hown hE hK hP 0 rfl rfl layM 71 (by decide) w326 rfl d_M_names_6 ?_
  refine lv_if_eq hx hb d_M_names_9 (tgt := 19) rfl (fun _ => ?_) (fun h9 => absurd (by rw [ht]; decide) h9)
  refine lv_iconst (v := (-1)) hx hb d_M_names_19 (by decide) ?_
  exact rfI hx hb hr hlk hS () rfl hP hD (Nat.le_of_ble_eq_true rfl) (Nat.le_of_ble_eq_true rfl) d_M_names_20
theorem d_M_names_12 : decode prog_14_method_92_code 12 = .ok (.aload_n 0, 1) := by decide +kernel
theorem d_M_names_13 : decode prog_14_method_92_code 13 = .ok (.getfield 495, 3) := by decide +kernel
theorem d_M_names_16 : decode prog_14_method_92_code 16 = .ok (.goto 4, 3) := by decide +kernel
theorem w950 : Cond.fieldLink "SeriesVaultModel" 495 "SeriesVaultModel" "names" "I" ∈ aW := aw_of (tb_9 (List.mem_of_getElem? (i := 6) rfl)) rfl
set_option maxHeartbeats 4000000 in
set_option maxRecDepth 100000 in
theorem k_names (l : Launch) (D : va_G) (dA : Nat → ClassId) (sz : Nat) (h : Nat) (ad : Nat → Nat) (x : MS) (ht : x.isTable = true) : Met l ⟨"SeriesVaultModel", "names", "()I"⟩ [Cond.code ⟨"SeriesVaultModel", "names", "()I"⟩ prog_14_method_92_code 1 (some FieldType.int)] { frames := 1, cells := 0, slots := 0, locals := 0 } (pC D dA [.ref h] (MW dA h ad x) sz) (va_Qi (fun (r9 : Int32) (u9 : Unit) => r9 = nI x.names) (fun (u9 : Unit) t9 => bW D (va_A (MW dA h ad x) sz) (MW dA h ad (MS.s_cod x 0)) t9) (va_A (MW dA h ad x) sz)) 0 0 (va_A (MW dA h ad x) sz) := by
  refine mkC (y := ⟨"SeriesVaultModel", "names", "()I"⟩) (cc := prog_14_method_92_code) (maxL := 1) (av := [.ref h]) (ws := MW dA h ad x) (sz := sz) (Qc := fun A => va_Qi (fun (r9 : Int32) (u9 : Unit) => r9 = nI x.names) (fun (u9 : Unit) t9 => bW D A (MW dA h ad (MS.s_cod x 0)) t9) A) (by decide) (Nat.le_of_ble_eq_true rfl) ?_
  intro A p e s m below meth c ls hsz hB
  obtain ⟨hx, hb, hr, hml, hown, hin, hlk, hE, hK, hP, hD, hS, hA, hN, hl⟩ := hB
  have hown : s.vm.findClass "SeriesVaultModel" = some m.cls := hown
  have hl : lv_has ls 1 [(0, .ref h)] := hl
  obtain ⟨H, hH⟩ : ∃ z, z = s.heap := ⟨_, rfl⟩
  have hP : va_P D vwCl (MW dA h ad x) H := by rw [hH]; exact hP
  have hS : va_S A s.heap H [] := by rw [hH]; exact hS
  rw [← hH]
  refine lv_aload_n hx hb d_M_names_0 rfl (lv_at hl 0 rfl) ?_
  refine lv_iconst (v := 0) hx hb d_M_names_1 (by decide) ?_
  refine pF (v := .int 0) hx hb hown hE hK hP hD hS 0 rfl rfl layM tyM tokM nmM 0 (by decide) w319 rfl rfl rfl (Nat.le_of_ble_eq_true rfl) d_M_names_2 (fun H locs hP hD hS => ?_)
  have hP : va_P D vwCl (MW dA h ad (MS.s_cod x 0)) H := hP
  have hD : va_D A (MW dA h ad (MS.s_cod x 0)) := hD
  refine lv_aload_n hx hb d_M_names_5 rfl (lv_at hl 0 rfl) ?_
  refine gF (v := .int (bI x.isTable)) hx hb hown hE hK hP 0 rfl rfl layM 71 (by decide) w326 rfl d_M_names_6 ?_
  refine lv_if_eq hx hb d_M_names_9 (tgt := 19) rfl (fun h9 => absurd h9 (by rw [ht]; decide)) (fun _ => ?_)
  refine lv_aload_n hx hb d_M_names_12 rfl (lv_at hl 0 rfl) ?_
  refine gF (v := .int (nI x.names)) hx hb hown hE hK hP 0 rfl rfl layM 72 (by decide) w950 rfl d_M_names_13 ?_
  refine lv_goto hx hb d_M_names_16 (tgt := 20) rfl ?_
  exact rfI hx hb hr hlk hS () rfl hP hD (Nat.le_of_ble_eq_true rfl) (Nat.le_of_ble_eq_true rfl) d_M_names_20
theorem d_M_isRow_7 : decode prog_14_method_93_code 7 = .ok (.iload_n 1, 1) := by decide +kernel
theorem d_M_isRow_8 : decode prog_14_method_93_code 8 = .ok (.ifCond .lt 15, 3) := by decide +kernel
theorem d_M_isRow_11 : decode prog_14_method_93_code 11 = .ok (.iload_n 1, 1) := by decide +kernel
theorem d_M_isRow_12 : decode prog_14_method_93_code 12 = .ok (.aload_n 0, 1) := by decide +kernel
theorem d_M_isRow_13 : decode prog_14_method_93_code 13 = .ok (.getfield 498, 3) := by decide +kernel
theorem d_M_isRow_16 : decode prog_14_method_93_code 16 = .ok (.if_icmp .ge 7, 3) := by decide +kernel
theorem w951 : Cond.fieldLink "SeriesVaultModel" 498 "SeriesVaultModel" "rows" "I" ∈ aW := aw_of (tb_9 (List.mem_of_getElem? (i := 7) rfl)) rfl
set_option maxHeartbeats 4000000 in
set_option maxRecDepth 100000 in
theorem k_isRow_0 (l : Launch) (D : va_G) (dA : Nat → ClassId) (sz : Nat) (h : Nat) (ad : Nat → Nat) (x : MS) (z : Int32) (h0 : x.isTable = false ∨ z < 0 ∨ nI x.rows ≤ z) : Met l ⟨"SeriesVaultModel", "isRow", "(I)Z"⟩ [Cond.code ⟨"SeriesVaultModel", "isRow", "(I)Z"⟩ prog_14_method_93_code 2 (some FieldType.boolean)] { frames := 1, cells := 0, slots := 0, locals := 0 } (pC D dA [.ref h, .int z] (MW dA h ad x) sz) (va_Qi (fun (r9 : Int32) (u9 : Unit) => r9 = bI false) (fun (u9 : Unit) t9 => bW D (va_A (MW dA h ad x) sz) (MW dA h ad x) t9) (va_A (MW dA h ad x) sz)) 0 0 (va_A (MW dA h ad x) sz) := by
  refine mkC (y := ⟨"SeriesVaultModel", "isRow", "(I)Z"⟩) (cc := prog_14_method_93_code) (maxL := 2) (av := [.ref h, .int z]) (ws := MW dA h ad x) (sz := sz) (Qc := fun A => va_Qi (fun (r9 : Int32) (u9 : Unit) => r9 = bI false) (fun (u9 : Unit) t9 => bW D A (MW dA h ad x) t9) A) (by decide) (Nat.le_of_ble_eq_true rfl) ?_
  intro A p e s m below meth c ls hsz hB
  obtain ⟨hx, hb, hr, hml, hown, hin, hlk, hE, hK, hP, hD, hS, hA, hN, hl⟩ := hB
  have hown : s.vm.findClass "SeriesVaultModel" = some m.cls := hown
  have hl : lv_has ls 2 [(0, .ref h), (1, .int z)] := hl
  obtain ⟨H, hH⟩ : ∃ z, z = s.heap := ⟨_, rfl⟩
  have hP : va_P D vwCl (MW dA h ad x) H := by rw [hH]; exact hP
  have hS : va_S A s.heap H [] := by rw [hH]; exact hS
  rw [← hH]
  refine lv_aload_n hx hb d_M_isRow_0 rfl (lv_at hl 0 rfl) ?_
  refine gF (v := .int (bI x.isTable)) hx hb hown hE hK hP 0 rfl rfl layM 71 (by decide) w326 rfl d_M_isRow_1 ?_
  refine lv_if_eq hx hb d_M_isRow_4 (tgt := 23) rfl (fun g1 => ?_) (fun g1 => ?_)
  · have g1 := bI_0 g1
    refine lv_iconst (v := 0) hx hb d_M_isRow_23 (by decide) ?_
    exact rfZ hx hb hr (bI_nar false) hlk hS () rfl hP hD (Nat.le_of_ble_eq_true rfl) (Nat.le_of_ble_eq_true rfl) d_M_isRow_24
  · have g1 := bI_n0 g1
    refine lv_iload_n hx hb d_M_isRow_7 rfl (lv_at hl 1 rfl) ?_
    refine lv_if_lt hx hb d_M_isRow_8 (tgt := 23) rfl (fun g2 => ?_) (fun g2 => ?_)
    · have g2 := g2
      refine lv_iconst (v := 0) hx hb d_M_isRow_23 (by decide) ?_
      exact rfZ hx hb hr (bI_nar false) hlk hS () rfl hP hD (Nat.le_of_ble_eq_true rfl) (Nat.le_of_ble_eq_true rfl) d_M_isRow_24
    · have g2 := g2
      refine lv_iload_n hx hb d_M_isRow_11 rfl (lv_at hl 1 rfl) ?_
      refine lv_aload_n hx hb d_M_isRow_12 rfl (lv_at hl 0 rfl) ?_
      refine gF (v := .int (nI x.rows)) hx hb hown hE hK hP 0 rfl rfl layM 73 (by decide) w951 rfl d_M_isRow_13 ?_
      refine lv_icmp_ge hx hb d_M_isRow_16 (tgt := 23) rfl (fun _ => ?_) (fun h9 => absurd ((h0.resolve_left (by simp [*])).resolve_left (by assumption)) h9)
      refine lv_iconst (v := 0) hx hb d_M_isRow_23 (by decide) ?_
      exact rfZ hx hb hr (bI_nar false) hlk hS () rfl hP hD (Nat.le_of_ble_eq_true rfl) (Nat.le_of_ble_eq_true rfl) d_M_isRow_24
theorem d_M_isRow_19 : decode prog_14_method_93_code 19 = .ok (.iconst 1, 1) := by decide +kernel
theorem d_M_isRow_20 : decode prog_14_method_93_code 20 = .ok (.goto 4, 3) := by decide +kernel
set_option maxHeartbeats 4000000 in
set_option maxRecDepth 100000 in
theorem k_isRow (l : Launch) (D : va_G) (dA : Nat → ClassId) (sz : Nat) (h : Nat) (ad : Nat → Nat) (x : MS) (w : Nat) (ht : x.isTable = true) (hw : w < x.rows) (hr2 : x.rows ≤ 256) : Met l ⟨"SeriesVaultModel", "isRow", "(I)Z"⟩ [Cond.code ⟨"SeriesVaultModel", "isRow", "(I)Z"⟩ prog_14_method_93_code 2 (some FieldType.boolean)] { frames := 1, cells := 0, slots := 0, locals := 0 } (pC D dA [.ref h, .int (nI w)] (MW dA h ad x) sz) (va_Qi (fun (r9 : Int32) (u9 : Unit) => r9 = bI true) (fun (u9 : Unit) t9 => bW D (va_A (MW dA h ad x) sz) (MW dA h ad x) t9) (va_A (MW dA h ad x) sz)) 0 0 (va_A (MW dA h ad x) sz) := by
  refine mkC (y := ⟨"SeriesVaultModel", "isRow", "(I)Z"⟩) (cc := prog_14_method_93_code) (maxL := 2) (av := [.ref h, .int (nI w)]) (ws := MW dA h ad x) (sz := sz) (Qc := fun A => va_Qi (fun (r9 : Int32) (u9 : Unit) => r9 = bI true) (fun (u9 : Unit) t9 => bW D A (MW dA h ad x) t9) A) (by decide) (Nat.le_of_ble_eq_true rfl) ?_
  intro A p e s m below meth c ls hsz hB
  obtain ⟨hx, hb, hr, hml, hown, hin, hlk, hE, hK, hP, hD, hS, hA, hN, hl⟩ := hB
  have hown : s.vm.findClass "SeriesVaultModel" = some m.cls := hown
  have hl : lv_has ls 2 [(0, .ref h), (1, .int (nI w))] := hl
  obtain ⟨H, hH⟩ : ∃ z, z = s.heap := ⟨_, rfl⟩
  have hP : va_P D vwCl (MW dA h ad x) H := by rw [hH]; exact hP
  have hS : va_S A s.heap H [] := by rw [hH]; exact hS
  rw [← hH]
  refine lv_aload_n hx hb d_M_isRow_0 rfl (lv_at hl 0 rfl) ?_
  refine gF (v := .int (bI x.isTable)) hx hb hown hE hK hP 0 rfl rfl layM 71 (by decide) w326 rfl d_M_isRow_1 ?_
  refine lv_if_eq hx hb d_M_isRow_4 (tgt := 23) rfl (fun h9 => absurd h9 (by rw [ht]; decide)) (fun _ => ?_)
  refine lv_iload_n hx hb d_M_isRow_7 rfl (lv_at hl 1 rfl) ?_
  refine lv_if_lt hx hb d_M_isRow_8 (tgt := 23) rfl (fun h9 => absurd h9 (nI_pos (n := w) (by omega))) (fun _ => ?_)
  refine lv_iload_n hx hb d_M_isRow_11 rfl (lv_at hl 1 rfl) ?_
  refine lv_aload_n hx hb d_M_isRow_12 rfl (lv_at hl 0 rfl) ?_
  refine gF (v := .int (nI x.rows)) hx hb hown hE hK hP 0 rfl rfl layM 73 (by decide) w951 rfl d_M_isRow_13 ?_
  refine lv_icmp_ge hx hb d_M_isRow_16 (tgt := 23) rfl (fun h9 => absurd h9 (mt (nI_leI (a := x.rows) (b := w) (by omega) (by omega)).mp (Nat.not_le.mpr hw))) (fun _ => ?_)
  refine lv_iconst (v := 1) hx hb d_M_isRow_19 (by decide) ?_
  refine lv_goto hx hb d_M_isRow_20 (tgt := 24) rfl ?_
  exact rfZ hx hb hr (bI_nar true) hlk hS () rfl hP hD (Nat.le_of_ble_eq_true rfl) (Nat.le_of_ble_eq_true rfl) d_M_isRow_24
set_option maxHeartbeats 4000000 in
set_option maxRecDepth 100000 in
theorem k_text_1 (l : Launch) (D : va_G) (dA : Nat → ClassId) (sz : Nat) (h : Nat) (ad : Nat → Nat) (x : MS) (z : Int32) (k : Int32) (j : Int32) (h0 : x.isTable = false ∨ z < 0 ∨ nI x.rows ≤ z) : Met l ⟨"SeriesVaultModel", "text", "(III)I"⟩ [Cond.code ⟨"SeriesVaultModel", "text", "(III)I"⟩ prog_14_method_94_code 4 (some FieldType.int)] { frames := 2, cells := 0, slots := 0, locals := 21 } (pC D dA [.ref h, .int z, .int k, .int j] (MW dA h ad x) sz) (va_Qi (fun (r9 : Int32) (u9 : Unit) => r9 = 0) (fun (u9 : Unit) t9 => bW D (va_A (MW dA h ad x) sz) (MW dA h ad (MS.s_cod x 1)) t9) (va_A (MW dA h ad x) sz)) 0 0 (va_A (MW dA h ad x) sz) := by
  refine mkC (y := ⟨"SeriesVaultModel", "text", "(III)I"⟩) (cc := prog_14_method_94_code) (maxL := 4) (av := [.ref h, .int z, .int k, .int j]) (ws := MW dA h ad x) (sz := sz) (Qc := fun A => va_Qi (fun (r9 : Int32) (u9 : Unit) => r9 = 0) (fun (u9 : Unit) t9 => bW D A (MW dA h ad (MS.s_cod x 1)) t9) A) (by decide) (Nat.le_of_ble_eq_true rfl) ?_
  intro A p e s m below meth c ls hsz hB
  obtain ⟨hx, hb, hr, hml, hown, hin, hlk, hE, hK, hP, hD, hS, hA, hN, hl⟩ := hB
  have hown : s.vm.findClass "SeriesVaultModel" = some m.cls := hown
  have hl : lv_has ls 4 [(0, .ref h), (1, .int z), (2, .int k), (3, .int j)] := hl
  obtain ⟨H, hH⟩ : ∃ z, z = s.heap := ⟨_, rfl⟩
  have hP : va_P D vwCl (MW dA h ad x) H := by rw [hH]; exact hP
  have hS : va_S A s.heap H [] := by rw [hH]; exact hS
  rw [← hH]
  refine lv_aload_n hx hb d_M_text_0 rfl (lv_at hl 0 rfl) ?_
  refine lv_aload_n hx hb d_M_text_1 rfl (lv_at hl 0 rfl) ?_
  refine lv_iload_n hx hb d_M_text_2 rfl (lv_at hl 1 rfl) ?_
  refine jfI (rnV (As := [.int z]) (rest := [.ref h]) hx hb hml hown hE hK (hN _ _ hS) hP hD (k_isRow_0 l D dA H.size h ad x z h0) (q0 := 0) rfl rfl w329 w327 w330 w331 w328 rfl rfl ⟨⟨by decide, by decide⟩, rfl⟩ ⟨(Nat.le_of_ble_eq_true rfl), (Nat.le_of_ble_eq_true rfl)⟩ rfl hl.1 rfl (Nat.le_of_ble_eq_true rfl) d_M_text_3 ⟨(Nat.le_of_ble_eq_true rfl), (Nat.le_of_ble_eq_true rfl)⟩) hP hD hS hA (fun r1 u2 H locs hp9 hP hD hS => ?_)
  have hP : va_P D vwCl (MW dA h ad x) H := hP
  have hD : va_D A (MW dA h ad x) := hD
  replace hp9 : bI false = r1 := Eq.symm hp9
  subst hp9
  refine lv_if_eq hx hb d_M_text_6 (tgt := 13) rfl (fun _ => ?_) (fun h9 => absurd (by decide) h9)
  refine lv_iconst (v := 1) hx hb d_M_text_13 (by decide) ?_
  refine pF (v := .int 1) hx hb hown hE hK hP hD hS 0 rfl rfl layM tyM tokM nmM 0 (by decide) w319 rfl rfl rfl (Nat.le_of_ble_eq_true rfl) d_M_text_14 (fun H locs hP hD hS => ?_)
  have hP : va_P D vwCl (MW dA h ad (MS.s_cod x 1)) H := hP
  have hD : va_D A (MW dA h ad (MS.s_cod x 1)) := hD
  refine lv_aload_n hx hb d_M_text_17 rfl (lv_at hl 0 rfl) ?_
  refine gF (v := .int 1) hx hb hown hE hK hP 0 rfl rfl layM 0 (by decide) w319 rfl d_M_text_18 ?_
  refine lv_if_le hx hb d_M_text_21 (tgt := 28) rfl (fun h9 => absurd h9 (by decide)) (fun _ => ?_)
  refine lv_iconst (v := 0) hx hb d_M_text_24 (by decide) ?_
  refine lv_goto hx hb d_M_text_25 (tgt := 79) rfl ?_
  exact rfI hx hb hr hlk hS () rfl hP hD (Nat.le_of_ble_eq_true rfl) (Nat.le_of_ble_eq_true rfl) d_M_text_79
theorem d_M_text_9 : decode prog_14_method_94_code 9 = .ok (.iconst 0, 1) := by decide +kernel
theorem d_M_text_10 : decode prog_14_method_94_code 10 = .ok (.goto 4, 3) := by decide +kernel
theorem d_M_text_28 : decode prog_14_method_94_code 28 = .ok (.iload_n 2, 1) := by decide +kernel
theorem d_M_text_29 : decode prog_14_method_94_code 29 = .ok (.ifCond .lt 30, 3) := by decide +kernel
theorem d_M_text_59 : decode prog_14_method_94_code 59 = .ok (.iconst (-1), 1) := by decide +kernel
theorem d_M_text_60 : decode prog_14_method_94_code 60 = .ok (.goto 19, 3) := by decide +kernel
theorem d_M_text_32 : decode prog_14_method_94_code 32 = .ok (.iload_n 2, 1) := by decide +kernel
theorem d_M_text_33 : decode prog_14_method_94_code 33 = .ok (.aload_n 0, 1) := by decide +kernel
theorem d_M_text_34 : decode prog_14_method_94_code 34 = .ok (.getfield 495, 3) := by decide +kernel
theorem d_M_text_37 : decode prog_14_method_94_code 37 = .ok (.if_icmp .ge 22, 3) := by decide +kernel
set_option maxHeartbeats 4000000 in
set_option maxRecDepth 100000 in
theorem k_text_n (l : Launch) (D : va_G) (dA : Nat → ClassId) (sz : Nat) (h : Nat) (ad : Nat → Nat) (x : MS) (w : Nat) (k : Int32) (j : Int32) (ht : x.isTable = true) (hw : w < x.rows) (hr2 : x.rows ≤ 256) (h0 : k < 0 ∨ nI x.names ≤ k) : Met l ⟨"SeriesVaultModel", "text", "(III)I"⟩ [Cond.code ⟨"SeriesVaultModel", "text", "(III)I"⟩ prog_14_method_94_code 4 (some FieldType.int)] { frames := 2, cells := 0, slots := 0, locals := 21 } (pC D dA [.ref h, .int (nI w), .int k, .int j] (MW dA h ad x) sz) (va_Qi (fun (r9 : Int32) (u9 : Unit) => r9 = (-1)) (fun (u9 : Unit) t9 => bW D (va_A (MW dA h ad x) sz) (MW dA h ad (MS.s_cod x 0)) t9) (va_A (MW dA h ad x) sz)) 0 0 (va_A (MW dA h ad x) sz) := by
  refine mkC (y := ⟨"SeriesVaultModel", "text", "(III)I"⟩) (cc := prog_14_method_94_code) (maxL := 4) (av := [.ref h, .int (nI w), .int k, .int j]) (ws := MW dA h ad x) (sz := sz) (Qc := fun A => va_Qi (fun (r9 : Int32) (u9 : Unit) => r9 = (-1)) (fun (u9 : Unit) t9 => bW D A (MW dA h ad (MS.s_cod x 0)) t9) A) (by decide) (Nat.le_of_ble_eq_true rfl) ?_
  intro A p e s m below meth c ls hsz hB
  obtain ⟨hx, hb, hr, hml, hown, hin, hlk, hE, hK, hP, hD, hS, hA, hN, hl⟩ := hB
  have hown : s.vm.findClass "SeriesVaultModel" = some m.cls := hown
  have hl : lv_has ls 4 [(0, .ref h), (1, .int (nI w)), (2, .int k), (3, .int j)] := hl
  obtain ⟨H, hH⟩ : ∃ z, z = s.heap := ⟨_, rfl⟩
  have hP : va_P D vwCl (MW dA h ad x) H := by rw [hH]; exact hP
  have hS : va_S A s.heap H [] := by rw [hH]; exact hS
  rw [← hH]
  refine lv_aload_n hx hb d_M_text_0 rfl (lv_at hl 0 rfl) ?_
  refine lv_aload_n hx hb d_M_text_1 rfl (lv_at hl 0 rfl) ?_
  refine lv_iload_n hx hb d_M_text_2 rfl (lv_at hl 1 rfl) ?_
  refine jfI (rnV (As := [.int (nI w)]) (rest := [.ref h]) hx hb hml hown hE hK (hN _ _ hS) hP hD (k_isRow l D dA H.size h ad x w ht hw hr2) (q0 := 0) rfl rfl w329 w327 w330 w331 w328 rfl rfl ⟨⟨by decide, by decide⟩, rfl⟩ ⟨(Nat.le_of_ble_eq_true rfl), (Nat.le_of_ble_eq_true rfl)⟩ rfl hl.1 rfl (Nat.le_of_ble_eq_true rfl) d_M_text_3 ⟨(Nat.le_of_ble_eq_true rfl), (Nat.le_of_ble_eq_true rfl)⟩) hP hD hS hA (fun r1 u2 H locs hp9 hP hD hS => ?_)
  have hP : va_P D vwCl (MW dA h ad x) H := hP
  have hD : va_D A (MW dA h ad x) := hD
  replace hp9 : bI true = r1 := Eq.symm hp9
  subst hp9
  refine lv_if_eq hx hb d_M_text_6 (tgt := 13) rfl (fun h9 => absurd h9 (by decide)) (fun _ => ?_)
  refine lv_iconst (v := 0) hx hb d_M_text_9 (by decide) ?_
  refine lv_goto hx hb d_M_text_10 (tgt := 14) rfl ?_
  refine pF (v := .int 0) hx hb hown hE hK hP hD hS 0 rfl rfl layM tyM tokM nmM 0 (by decide) w319 rfl rfl rfl (Nat.le_of_ble_eq_true rfl) d_M_text_14 (fun H locs hP hD hS => ?_)
  have hP : va_P D vwCl (MW dA h ad (MS.s_cod x 0)) H := hP
  have hD : va_D A (MW dA h ad (MS.s_cod x 0)) := hD
  refine lv_aload_n hx hb d_M_text_17 rfl (lv_at hl 0 rfl) ?_
  refine gF (v := .int 0) hx hb hown hE hK hP 0 rfl rfl layM 0 (by decide) w319 rfl d_M_text_18 ?_
  refine lv_if_le hx hb d_M_text_21 (tgt := 28) rfl (fun _ => ?_) (fun h9 => absurd (by decide) h9)
  refine lv_iload_n hx hb d_M_text_28 rfl (lv_at hl 2 rfl) ?_
  refine lv_if_lt hx hb d_M_text_29 (tgt := 59) rfl (fun g3 => ?_) (fun g3 => ?_)
  · have g3 := g3
    refine lv_iconst (v := (-1)) hx hb d_M_text_59 (by decide) ?_
    refine lv_goto hx hb d_M_text_60 (tgt := 79) rfl ?_
    exact rfI hx hb hr hlk hS () rfl hP hD (Nat.le_of_ble_eq_true rfl) (Nat.le_of_ble_eq_true rfl) d_M_text_79
  · have g3 := g3
    refine lv_iload_n hx hb d_M_text_32 rfl (lv_at hl 2 rfl) ?_
    refine lv_aload_n hx hb d_M_text_33 rfl (lv_at hl 0 rfl) ?_
    refine gF (v := .int (nI x.names)) hx hb hown hE hK hP 0 rfl rfl layM 72 (by decide) w950 rfl d_M_text_34 ?_
    refine lv_icmp_ge hx hb d_M_text_37 (tgt := 59) rfl (fun _ => ?_) (fun h9 => absurd (h0.resolve_left (by assumption)) h9)
    refine lv_iconst (v := (-1)) hx hb d_M_text_59 (by decide) ?_
    refine lv_goto hx hb d_M_text_60 (tgt := 79) rfl ?_
    exact rfI hx hb hr hlk hS () rfl hP hD (Nat.le_of_ble_eq_true rfl) (Nat.le_of_ble_eq_true rfl) d_M_text_79
theorem d_M_text_40 : decode prog_14_method_94_code 40 = .ok (.iload_n 3, 1) := by decide +kernel
theorem d_M_text_41 : decode prog_14_method_94_code 41 = .ok (.ifCond .lt 18, 3) := by decide +kernel
theorem d_M_text_44 : decode prog_14_method_94_code 44 = .ok (.iload_n 3, 1) := by decide +kernel
theorem d_M_text_45 : decode prog_14_method_94_code 45 = .ok (.aload_n 0, 1) := by decide +kernel
theorem d_M_text_46 : decode prog_14_method_94_code 46 = .ok (.getfield 136, 3) := by decide +kernel
theorem d_M_text_49 : decode prog_14_method_94_code 49 = .ok (.bipush 6, 2) := by decide +kernel
theorem d_M_text_51 : decode prog_14_method_94_code 51 = .ok (.iload_n 1, 1) := by decide +kernel
theorem d_M_text_52 : decode prog_14_method_94_code 52 = .ok (.imul, 1) := by decide +kernel
theorem d_M_text_53 : decode prog_14_method_94_code 53 = .ok (.iload_n 2, 1) := by decide +kernel
theorem d_M_text_54 : decode prog_14_method_94_code 54 = .ok (.iadd, 1) := by decide +kernel
theorem d_M_text_55 : decode prog_14_method_94_code 55 = .ok (.iaload, 1) := by decide +kernel
theorem d_M_text_56 : decode prog_14_method_94_code 56 = .ok (.if_icmp .lt 7, 3) := by decide +kernel
set_option maxHeartbeats 4000000 in
set_option maxRecDepth 100000 in
theorem k_text_m (l : Launch) (D : va_G) (dA : Nat → ClassId) (sz : Nat) (h : Nat) (ad : Nat → Nat) (x : MS) (w : Nat) (k : Nat) (j : Int32) (ht : x.isTable = true) (hw : w < x.rows) (hr2 : x.rows ≤ 256) (hk : k < x.names) (hn : x.names ≤ 6) (h0 : j < 0 ∨ nI (x.rowLengths (6 * w + k)) ≤ j) : Met l ⟨"SeriesVaultModel", "text", "(III)I"⟩ [Cond.code ⟨"SeriesVaultModel", "text", "(III)I"⟩ prog_14_method_94_code 4 (some FieldType.int)] { frames := 2, cells := 0, slots := 0, locals := 21 } (pC D dA [.ref h, .int (nI w), .int (nI k), .int j] (MW dA h ad x) sz) (va_Qi (fun (r9 : Int32) (u9 : Unit) => r9 = (-1)) (fun (u9 : Unit) t9 => bW D (va_A (MW dA h ad x) sz) (MW dA h ad (MS.s_cod x 0)) t9) (va_A (MW dA h ad x) sz)) 0 0 (va_A (MW dA h ad x) sz) := by
  refine mkC (y := ⟨"SeriesVaultModel", "text", "(III)I"⟩) (cc := prog_14_method_94_code) (maxL := 4) (av := [.ref h, .int (nI w), .int (nI k), .int j]) (ws := MW dA h ad x) (sz := sz) (Qc := fun A => va_Qi (fun (r9 : Int32) (u9 : Unit) => r9 = (-1)) (fun (u9 : Unit) t9 => bW D A (MW dA h ad (MS.s_cod x 0)) t9) A) (by decide) (Nat.le_of_ble_eq_true rfl) ?_
  intro A p e s m below meth c ls hsz hB
  obtain ⟨hx, hb, hr, hml, hown, hin, hlk, hE, hK, hP, hD, hS, hA, hN, hl⟩ := hB
  have hown : s.vm.findClass "SeriesVaultModel" = some m.cls := hown
  have hl : lv_has ls 4 [(0, .ref h), (1, .int (nI w)), (2, .int (nI k)), (3, .int j)] := hl
  obtain ⟨H, hH⟩ : ∃ z, z = s.heap := ⟨_, rfl⟩
  have hP : va_P D vwCl (MW dA h ad x) H := by rw [hH]; exact hP
  have hS : va_S A s.heap H [] := by rw [hH]; exact hS
  rw [← hH]
  refine lv_aload_n hx hb d_M_text_0 rfl (lv_at hl 0 rfl) ?_
  refine lv_aload_n hx hb d_M_text_1 rfl (lv_at hl 0 rfl) ?_
  refine lv_iload_n hx hb d_M_text_2 rfl (lv_at hl 1 rfl) ?_
  refine jfI (rnV (As := [.int (nI w)]) (rest := [.ref h]) hx hb hml hown hE hK (hN _ _ hS) hP hD (k_isRow l D dA H.size h ad x w ht hw hr2) (q0 := 0) rfl rfl w329 w327 w330 w331 w328 rfl rfl ⟨⟨by decide, by decide⟩, rfl⟩ ⟨(Nat.le_of_ble_eq_true rfl), (Nat.le_of_ble_eq_true rfl)⟩ rfl hl.1 rfl (Nat.le_of_ble_eq_true rfl) d_M_text_3 ⟨(Nat.le_of_ble_eq_true rfl), (Nat.le_of_ble_eq_true rfl)⟩) hP hD hS hA (fun r1 u2 H locs hp9 hP hD hS => ?_)
  have hP : va_P D vwCl (MW dA h ad x) H := hP
  have hD : va_D A (MW dA h ad x) := hD
  replace hp9 : bI true = r1 := Eq.symm hp9
  subst hp9
  refine lv_if_eq hx hb d_M_text_6 (tgt := 13) rfl (fun h9 => absurd h9 (by decide)) (fun _ => ?_)
  refine lv_iconst (v := 0) hx hb d_M_text_9 (by decide) ?_
  refine lv_goto hx hb d_M_text_10 (tgt := 14) rfl ?_
  refine pF (v := .int 0) hx hb hown hE hK hP hD hS 0 rfl rfl layM tyM tokM nmM 0 (by decide) w319 rfl rfl rfl (Nat.le_of_ble_eq_true rfl) d_M_text_14 (fun H locs hP hD hS => ?_)
  have hP : va_P D vwCl (MW dA h ad (MS.s_cod x 0)) H := hP
  have hD : va_D A (MW dA h ad (MS.s_cod x 0)) := hD
  refine lv_aload_n hx hb d_M_text_17 rfl (lv_at hl 0 rfl) ?_
  refine gF (v := .int 0) hx hb hown hE hK hP 0 rfl rfl layM 0 (by decide) w319 rfl d_M_text_18 ?_
  refine lv_if_le hx hb d_M_text_21 (tgt := 28) rfl (fun _ => ?_) (fun h9 => absurd (by decide) h9)
  refine lv_iload_n hx hb d_M_text_28 rfl (lv_at hl 2 rfl) ?_
  refine lv_if_lt hx hb d_M_text_29 (tgt := 59) rfl (fun h9 => absurd h9 (nI_pos (n := k) (by omega))) (fun _ => ?_)
  refine lv_iload_n hx hb d_M_text_32 rfl (lv_at hl 2 rfl) ?_
  refine lv_aload_n hx hb d_M_text_33 rfl (lv_at hl 0 rfl) ?_
  refine gF (v := .int (nI x.names)) hx hb hown hE hK hP 0 rfl rfl layM 72 (by decide) w950 rfl d_M_text_34 ?_
  refine lv_icmp_ge hx hb d_M_text_37 (tgt := 59) rfl (fun h9 => absurd h9 (mt (nI_leI (a := x.names) (b := k) (by omega) (by omega)).mp (Nat.not_le.mpr hk))) (fun _ => ?_)
  refine lv_iload_n hx hb d_M_text_40 rfl (lv_at hl 3 rfl) ?_
  refine lv_if_lt hx hb d_M_text_41 (tgt := 59) rfl (fun g3 => ?_) (fun g3 => ?_)
  · have g3 := g3
    refine lv_iconst (v := (-1)) hx hb d_M_text_59 (by decide) ?_
    refine lv_goto hx hb d_M_text_60 (tgt := 79) rfl ?_
    exact rfI hx hb hr hlk hS () rfl hP hD (Nat.le_of_ble_eq_true rfl) (Nat.le_of_ble_eq_true rfl) d_M_text_79
  · have g3 := g3
    refine lv_iload_n hx hb d_M_text_44 rfl (lv_at hl 3 rfl) ?_
    refine lv_aload_n hx hb d_M_text_45 rfl (lv_at hl 0 rfl) ?_
    refine gF (v := .ref (ad 76)) hx hb hown hE hK hP 0 rfl rfl layM 76 (by decide) w536 rfl d_M_text_46 ?_
    refine lv_bipush (v := 6) hx hb d_M_text_49 (by decide) ?_
    refine lv_iload_n hx hb d_M_text_51 rfl (lv_at hl 1 rfl) ?_
    refine lv_imul hx hb d_M_text_52 (tpi (y := nI (6 * w)) (pk_mul (6) (w)) ?_)
    refine lv_iload_n hx hb d_M_text_53 rfl (lv_at hl 2 rfl) ?_
    refine lv_iadd hx hb d_M_text_54 (tpi (y := nI ((6 * w) + k)) (nI_add (6 * w) (k)) ?_)
    refine nild (f := (fun z9 => nI (x.rowLengths z9))) hx hb hK hP 36 1 rfl rfl ((6 * w) + k) (by omega) (by decide) d_M_text_55 ?_
    refine lv_icmp_lt hx hb d_M_text_56 (tgt := 63) rfl (fun h9 => absurd h9 (Int32.not_lt.mpr (h0.resolve_left (by assumption)))) (fun _ => ?_)
    refine lv_iconst (v := (-1)) hx hb d_M_text_59 (by decide) ?_
    refine lv_goto hx hb d_M_text_60 (tgt := 79) rfl ?_
    exact rfI hx hb hr hlk hS () rfl hP hD (Nat.le_of_ble_eq_true rfl) (Nat.le_of_ble_eq_true rfl) d_M_text_79
theorem d_M_text_63 : decode prog_14_method_94_code 63 = .ok (.aload_n 0, 1) := by decide +kernel
theorem d_M_text_64 : decode prog_14_method_94_code 64 = .ok (.getfield 133, 3) := by decide +kernel
theorem d_M_text_67 : decode prog_14_method_94_code 67 = .ok (.bipush 6, 2) := by decide +kernel
theorem d_M_text_69 : decode prog_14_method_94_code 69 = .ok (.iload_n 1, 1) := by decide +kernel
theorem d_M_text_70 : decode prog_14_method_94_code 70 = .ok (.imul, 1) := by decide +kernel
theorem d_M_text_71 : decode prog_14_method_94_code 71 = .ok (.iload_n 2, 1) := by decide +kernel
theorem d_M_text_72 : decode prog_14_method_94_code 72 = .ok (.iadd, 1) := by decide +kernel
theorem d_M_text_73 : decode prog_14_method_94_code 73 = .ok (.bipush 24, 2) := by decide +kernel
theorem d_M_text_75 : decode prog_14_method_94_code 75 = .ok (.imul, 1) := by decide +kernel
theorem d_M_text_76 : decode prog_14_method_94_code 76 = .ok (.iload_n 3, 1) := by decide +kernel
theorem d_M_text_77 : decode prog_14_method_94_code 77 = .ok (.iadd, 1) := by decide +kernel
theorem d_M_text_78 : decode prog_14_method_94_code 78 = .ok (.baload, 1) := by decide +kernel
set_option maxHeartbeats 4000000 in
set_option maxRecDepth 100000 in
theorem k_text_0 (l : Launch) (D : va_G) (dA : Nat → ClassId) (sz : Nat) (h : Nat) (ad : Nat → Nat) (x : MS) (w : Nat) (k : Nat) (j : Nat) (ht : x.isTable = true) (hw : w < x.rows) (hr2 : x.rows ≤ 256) (hk : k < x.names) (hn : x.names ≤ 6) (hj : j < x.rowLengths ((6 * w) + k)) (hj2 : x.rowLengths (6 * w + k) ≤ 24) : Met l ⟨"SeriesVaultModel", "text", "(III)I"⟩ [Cond.code ⟨"SeriesVaultModel", "text", "(III)I"⟩ prog_14_method_94_code 4 (some FieldType.int)] { frames := 2, cells := 0, slots := 0, locals := 21 } (pC D dA [.ref h, .int (nI w), .int (nI k), .int (nI j)] (MW dA h ad x) sz) (va_Qi (fun (r9 : Int32) (u9 : Unit) => r9 = x.rowTexts ((6 * w + k) * 24 + j)) (fun (u9 : Unit) t9 => bW D (va_A (MW dA h ad x) sz) (MW dA h ad (MS.s_cod x 0)) t9) (va_A (MW dA h ad x) sz)) 0 0 (va_A (MW dA h ad x) sz) := by
  refine mkC (y := ⟨"SeriesVaultModel", "text", "(III)I"⟩) (cc := prog_14_method_94_code) (maxL := 4) (av := [.ref h, .int (nI w), .int (nI k), .int (nI j)]) (ws := MW dA h ad x) (sz := sz) (Qc := fun A => va_Qi (fun (r9 : Int32) (u9 : Unit) => r9 = x.rowTexts ((6 * w + k) * 24 + j)) (fun (u9 : Unit) t9 => bW D A (MW dA h ad (MS.s_cod x 0)) t9) A) (by decide) (Nat.le_of_ble_eq_true rfl) ?_
  intro A p e s m below meth c ls hsz hB
  obtain ⟨hx, hb, hr, hml, hown, hin, hlk, hE, hK, hP, hD, hS, hA, hN, hl⟩ := hB
  have hown : s.vm.findClass "SeriesVaultModel" = some m.cls := hown
  have hl : lv_has ls 4 [(0, .ref h), (1, .int (nI w)), (2, .int (nI k)), (3, .int (nI j))] := hl
  obtain ⟨H, hH⟩ : ∃ z, z = s.heap := ⟨_, rfl⟩
  have hP : va_P D vwCl (MW dA h ad x) H := by rw [hH]; exact hP
  have hS : va_S A s.heap H [] := by rw [hH]; exact hS
  rw [← hH]
  refine lv_aload_n hx hb d_M_text_0 rfl (lv_at hl 0 rfl) ?_
  refine lv_aload_n hx hb d_M_text_1 rfl (lv_at hl 0 rfl) ?_
  refine lv_iload_n hx hb d_M_text_2 rfl (lv_at hl 1 rfl) ?_
  refine jfI (rnV (As := [.int (nI w)]) (rest := [.ref h]) hx hb hml hown hE hK (hN _ _ hS) hP hD (k_isRow l D dA H.size h ad x w ht hw hr2) (q0 := 0) rfl rfl w329 w327 w330 w331 w328 rfl rfl ⟨⟨by decide, by decide⟩, rfl⟩ ⟨(Nat.le_of_ble_eq_true rfl), (Nat.le_of_ble_eq_true rfl)⟩ rfl hl.1 rfl (Nat.le_of_ble_eq_true rfl) d_M_text_3 ⟨(Nat.le_of_ble_eq_true rfl), (Nat.le_of_ble_eq_true rfl)⟩) hP hD hS hA (fun r1 u2 H locs hp9 hP hD hS => ?_)
  have hP : va_P D vwCl (MW dA h ad x) H := hP
  have hD : va_D A (MW dA h ad x) := hD
  replace hp9 : bI true = r1 := Eq.symm hp9
  subst hp9
  refine lv_if_eq hx hb d_M_text_6 (tgt := 13) rfl (fun h9 => absurd h9 (by decide)) (fun _ => ?_)
  refine lv_iconst (v := 0) hx hb d_M_text_9 (by decide) ?_
  refine lv_goto hx hb d_M_text_10 (tgt := 14) rfl ?_
  refine pF (v := .int 0) hx hb hown hE hK hP hD hS 0 rfl rfl layM tyM tokM nmM 0 (by decide) w319 rfl rfl rfl (Nat.le_of_ble_eq_true rfl) d_M_text_14 (fun H locs hP hD hS => ?_)
  have hP : va_P D vwCl (MW dA h ad (MS.s_cod x 0)) H := hP
  have hD : va_D A (MW dA h ad (MS.s_cod x 0)) := hD
  refine lv_aload_n hx hb d_M_text_17 rfl (lv_at hl 0 rfl) ?_
  refine gF (v := .int 0) hx hb hown hE hK hP 0 rfl rfl layM 0 (by decide) w319 rfl d_M_text_18 ?_
  refine lv_if_le hx hb d_M_text_21 (tgt := 28) rfl (fun _ => ?_) (fun h9 => absurd (by decide) h9)
  refine lv_iload_n hx hb d_M_text_28 rfl (lv_at hl 2 rfl) ?_
  refine lv_if_lt hx hb d_M_text_29 (tgt := 59) rfl (fun h9 => absurd h9 (nI_pos (n := k) (by omega))) (fun _ => ?_)
  refine lv_iload_n hx hb d_M_text_32 rfl (lv_at hl 2 rfl) ?_
  refine lv_aload_n hx hb d_M_text_33 rfl (lv_at hl 0 rfl) ?_
  refine gF (v := .int (nI x.names)) hx hb hown hE hK hP 0 rfl rfl layM 72 (by decide) w950 rfl d_M_text_34 ?_
  refine lv_icmp_ge hx hb d_M_text_37 (tgt := 59) rfl (fun h9 => absurd h9 (mt (nI_leI (a := x.names) (b := k) (by omega) (by omega)).mp (Nat.not_le.mpr hk))) (fun _ => ?_)
  refine lv_iload_n hx hb d_M_text_40 rfl (lv_at hl 3 rfl) ?_
  refine lv_if_lt hx hb d_M_text_41 (tgt := 59) rfl (fun h9 => absurd h9 (nI_pos (n := j) (by omega))) (fun _ => ?_)
  refine lv_iload_n hx hb d_M_text_44 rfl (lv_at hl 3 rfl) ?_
  refine lv_aload_n hx hb d_M_text_45 rfl (lv_at hl 0 rfl) ?_
  refine gF (v := .ref (ad 76)) hx hb hown hE hK hP 0 rfl rfl layM 76 (by decide) w536 rfl d_M_text_46 ?_
  refine lv_bipush (v := 6) hx hb d_M_text_49 (by decide) ?_
  refine lv_iload_n hx hb d_M_text_51 rfl (lv_at hl 1 rfl) ?_
  refine lv_imul hx hb d_M_text_52 (tpi (y := nI (6 * w)) (pk_mul (6) (w)) ?_)
  refine lv_iload_n hx hb d_M_text_53 rfl (lv_at hl 2 rfl) ?_
  refine lv_iadd hx hb d_M_text_54 (tpi (y := nI ((6 * w) + k)) (nI_add (6 * w) (k)) ?_)
  refine nild (f := (fun z9 => nI (x.rowLengths z9))) hx hb hK hP 36 1 rfl rfl ((6 * w) + k) (by omega) (by decide) d_M_text_55 ?_
  refine lv_icmp_lt hx hb d_M_text_56 (tgt := 63) rfl (fun _ => ?_) (fun h9 => absurd ((nI_ltI (a := j) (b := x.rowLengths ((6 * w) + k)) (by omega) (by omega)).mpr hj) h9)
  refine lv_aload_n hx hb d_M_text_63 rfl (lv_at hl 0 rfl) ?_
  refine gF (v := .ref (ad 75)) hx hb hown hE hK hP 0 rfl rfl layM 75 (by decide) w535 rfl d_M_text_64 ?_
  refine lv_bipush (v := 6) hx hb d_M_text_67 (by decide) ?_
  refine lv_iload_n hx hb d_M_text_69 rfl (lv_at hl 1 rfl) ?_
  refine lv_imul hx hb d_M_text_70 (tpi (y := nI (6 * w)) (pk_mul (6) (w)) ?_)
  refine lv_iload_n hx hb d_M_text_71 rfl (lv_at hl 2 rfl) ?_
  refine lv_iadd hx hb d_M_text_72 (tpi (y := nI ((6 * w) + k)) (nI_add (6 * w) (k)) ?_)
  refine lv_bipush (v := 24) hx hb d_M_text_73 (by decide) ?_
  refine lv_imul hx hb d_M_text_75 (tpi (y := nI (((6 * w) + k) * 24)) (pk_mul ((6 * w) + k) (24)) ?_)
  refine lv_iload_n hx hb d_M_text_76 rfl (lv_at hl 3 rfl) ?_
  refine lv_iadd hx hb d_M_text_77 (tpi (y := nI ((((6 * w) + k) * 24) + j)) (nI_add (((6 * w) + k) * 24) (j)) ?_)
  refine nbld (f := x.rowTexts) hx hb hK hP 35 0 rfl rfl ((((6 * w) + k) * 24) + j) (by omega) (by decide) d_M_text_78 ?_
  exact rfI hx hb hr hlk hS () rfl hP hD (Nat.le_of_ble_eq_true rfl) (Nat.le_of_ble_eq_true rfl) d_M_text_79
set_option maxHeartbeats 4000000 in
set_option maxRecDepth 100000 in
theorem k_isThere_1 (l : Launch) (D : va_G) (dA : Nat → ClassId) (sz : Nat) (h : Nat) (ad : Nat → Nat) (x : MS) (z : Int32) (k : Int32) (h0 : x.isTable = false ∨ z < 0 ∨ nI x.rows ≤ z) : Met l ⟨"SeriesVaultModel", "isThere", "(II)Z"⟩ [Cond.code ⟨"SeriesVaultModel", "isThere", "(II)Z"⟩ prog_14_method_95_code 3 (some FieldType.boolean)] { frames := 2, cells := 0, slots := 0, locals := 21 } (pC D dA [.ref h, .int z, .int k] (MW dA h ad x) sz) (va_Qi (fun (r9 : Int32) (u9 : Unit) => r9 = bI false) (fun (u9 : Unit) t9 => bW D (va_A (MW dA h ad x) sz) (MW dA h ad (MS.s_cod x 1)) t9) (va_A (MW dA h ad x) sz)) 0 0 (va_A (MW dA h ad x) sz) := by
  refine mkC (y := ⟨"SeriesVaultModel", "isThere", "(II)Z"⟩) (cc := prog_14_method_95_code) (maxL := 3) (av := [.ref h, .int z, .int k]) (ws := MW dA h ad x) (sz := sz) (Qc := fun A => va_Qi (fun (r9 : Int32) (u9 : Unit) => r9 = bI false) (fun (u9 : Unit) t9 => bW D A (MW dA h ad (MS.s_cod x 1)) t9) A) (by decide) (Nat.le_of_ble_eq_true rfl) ?_
  intro A p e s m below meth c ls hsz hB
  obtain ⟨hx, hb, hr, hml, hown, hin, hlk, hE, hK, hP, hD, hS, hA, hN, hl⟩ := hB
  have hown : s.vm.findClass "SeriesVaultModel" = some m.cls := hown
  have hl : lv_has ls 3 [(0, .ref h), (1, .int z), (2, .int k)] := hl
  obtain ⟨H, hH⟩ : ∃ z, z = s.heap := ⟨_, rfl⟩
  have hP : va_P D vwCl (MW dA h ad x) H := by rw [hH]; exact hP
  have hS : va_S A s.heap H [] := by rw [hH]; exact hS
  rw [← hH]
  refine lv_aload_n hx hb d_M_isThere_0 rfl (lv_at hl 0 rfl) ?_
  refine lv_aload_n hx hb d_M_isThere_1 rfl (lv_at hl 0 rfl) ?_
  refine lv_iload_n hx hb d_M_isThere_2 rfl (lv_at hl 1 rfl) ?_
  refine jfI (rnV (As := [.int z]) (rest := [.ref h]) hx hb hml hown hE hK (hN _ _ hS) hP hD (k_isRow_0 l D dA H.size h ad x z h0) (q0 := 0) rfl rfl w329 w327 w330 w331 w328 rfl rfl ⟨⟨by decide, by decide⟩, rfl⟩ ⟨(Nat.le_of_ble_eq_true rfl), (Nat.le_of_ble_eq_true rfl)⟩ rfl hl.1 rfl (Nat.le_of_ble_eq_true rfl) d_M_isThere_3 ⟨(Nat.le_of_ble_eq_true rfl), (Nat.le_of_ble_eq_true rfl)⟩) hP hD hS hA (fun r1 u2 H locs hp9 hP hD hS => ?_)
  have hP : va_P D vwCl (MW dA h ad x) H := hP
  have hD : va_D A (MW dA h ad x) := hD
  replace hp9 : bI false = r1 := Eq.symm hp9
  subst hp9
  refine lv_if_eq hx hb d_M_isThere_6 (tgt := 25) rfl (fun _ => ?_) (fun h9 => absurd (by decide) h9)
  refine lv_iconst (v := 1) hx hb d_M_isThere_25 (by decide) ?_
  refine pF (v := .int 1) hx hb hown hE hK hP hD hS 0 rfl rfl layM tyM tokM nmM 0 (by decide) w319 rfl rfl rfl (Nat.le_of_ble_eq_true rfl) d_M_isThere_26 (fun H locs hP hD hS => ?_)
  have hP : va_P D vwCl (MW dA h ad (MS.s_cod x 1)) H := hP
  have hD : va_D A (MW dA h ad (MS.s_cod x 1)) := hD
  refine lv_aload_n hx hb d_M_isThere_29 rfl (lv_at hl 0 rfl) ?_
  refine gF (v := .int 1) hx hb hown hE hK hP 0 rfl rfl layM 0 (by decide) w319 rfl d_M_isThere_30 ?_
  refine lv_if_ne hx hb d_M_isThere_33 (tgt := 54) rfl (fun _ => ?_) (fun h9 => absurd h9 (by decide))
  refine lv_iconst (v := 0) hx hb d_M_isThere_54 (by decide) ?_
  exact rfZ hx hb hr (bI_nar false) hlk hS () rfl hP hD (Nat.le_of_ble_eq_true rfl) (Nat.le_of_ble_eq_true rfl) d_M_isThere_55
theorem d_M_isThere_9 : decode prog_14_method_95_code 9 = .ok (.iload_n 2, 1) := by decide +kernel
theorem d_M_isThere_10 : decode prog_14_method_95_code 10 = .ok (.ifCond .lt 15, 3) := by decide +kernel
theorem d_M_isThere_13 : decode prog_14_method_95_code 13 = .ok (.iload_n 2, 1) := by decide +kernel
theorem d_M_isThere_14 : decode prog_14_method_95_code 14 = .ok (.aload_n 0, 1) := by decide +kernel
theorem d_M_isThere_15 : decode prog_14_method_95_code 15 = .ok (.getfield 501, 3) := by decide +kernel
theorem d_M_isThere_18 : decode prog_14_method_95_code 18 = .ok (.if_icmp .ge 7, 3) := by decide +kernel
theorem w952 : Cond.fieldLink "SeriesVaultModel" 501 "SeriesVaultModel" "shownWindows" "I" ∈ aW := aw_of (tb_9 (List.mem_of_getElem? (i := 8) rfl)) rfl
set_option maxHeartbeats 4000000 in
set_option maxRecDepth 100000 in
theorem k_isThere_2 (l : Launch) (D : va_G) (dA : Nat → ClassId) (sz : Nat) (h : Nat) (ad : Nat → Nat) (x : MS) (w : Nat) (k : Int32) (ht : x.isTable = true) (hw : w < x.rows) (hr2 : x.rows ≤ 256) (h0 : k < 0 ∨ nI x.shownWindows ≤ k) : Met l ⟨"SeriesVaultModel", "isThere", "(II)Z"⟩ [Cond.code ⟨"SeriesVaultModel", "isThere", "(II)Z"⟩ prog_14_method_95_code 3 (some FieldType.boolean)] { frames := 2, cells := 0, slots := 0, locals := 21 } (pC D dA [.ref h, .int (nI w), .int k] (MW dA h ad x) sz) (va_Qi (fun (r9 : Int32) (u9 : Unit) => r9 = bI false) (fun (u9 : Unit) t9 => bW D (va_A (MW dA h ad x) sz) (MW dA h ad (MS.s_cod x 1)) t9) (va_A (MW dA h ad x) sz)) 0 0 (va_A (MW dA h ad x) sz) := by
  refine mkC (y := ⟨"SeriesVaultModel", "isThere", "(II)Z"⟩) (cc := prog_14_method_95_code) (maxL := 3) (av := [.ref h, .int (nI w), .int k]) (ws := MW dA h ad x) (sz := sz) (Qc := fun A => va_Qi (fun (r9 : Int32) (u9 : Unit) => r9 = bI false) (fun (u9 : Unit) t9 => bW D A (MW dA h ad (MS.s_cod x 1)) t9) A) (by decide) (Nat.le_of_ble_eq_true rfl) ?_
  intro A p e s m below meth c ls hsz hB
  obtain ⟨hx, hb, hr, hml, hown, hin, hlk, hE, hK, hP, hD, hS, hA, hN, hl⟩ := hB
  have hown : s.vm.findClass "SeriesVaultModel" = some m.cls := hown
  have hl : lv_has ls 3 [(0, .ref h), (1, .int (nI w)), (2, .int k)] := hl
  obtain ⟨H, hH⟩ : ∃ z, z = s.heap := ⟨_, rfl⟩
  have hP : va_P D vwCl (MW dA h ad x) H := by rw [hH]; exact hP
  have hS : va_S A s.heap H [] := by rw [hH]; exact hS
  rw [← hH]
  refine lv_aload_n hx hb d_M_isThere_0 rfl (lv_at hl 0 rfl) ?_
  refine lv_aload_n hx hb d_M_isThere_1 rfl (lv_at hl 0 rfl) ?_
  refine lv_iload_n hx hb d_M_isThere_2 rfl (lv_at hl 1 rfl) ?_
  refine jfI (rnV (As := [.int (nI w)]) (rest := [.ref h]) hx hb hml hown hE hK (hN _ _ hS) hP hD (k_isRow l D dA H.size h ad x w ht hw hr2) (q0 := 0) rfl rfl w329 w327 w330 w331 w328 rfl rfl ⟨⟨by decide, by decide⟩, rfl⟩ ⟨(Nat.le_of_ble_eq_true rfl), (Nat.le_of_ble_eq_true rfl)⟩ rfl hl.1 rfl (Nat.le_of_ble_eq_true rfl) d_M_isThere_3 ⟨(Nat.le_of_ble_eq_true rfl), (Nat.le_of_ble_eq_true rfl)⟩) hP hD hS hA (fun r1 u2 H locs hp9 hP hD hS => ?_)
  have hP : va_P D vwCl (MW dA h ad x) H := hP
  have hD : va_D A (MW dA h ad x) := hD
  replace hp9 : bI true = r1 := Eq.symm hp9
  subst hp9
  refine lv_if_eq hx hb d_M_isThere_6 (tgt := 25) rfl (fun h9 => absurd h9 (by decide)) (fun _ => ?_)
  refine lv_iload_n hx hb d_M_isThere_9 rfl (lv_at hl 2 rfl) ?_
  refine lv_if_lt hx hb d_M_isThere_10 (tgt := 25) rfl (fun g3 => ?_) (fun g3 => ?_)
  · have g3 := g3
    refine lv_iconst (v := 1) hx hb d_M_isThere_25 (by decide) ?_
    refine pF (v := .int 1) hx hb hown hE hK hP hD hS 0 rfl rfl layM tyM tokM nmM 0 (by decide) w319 rfl rfl rfl (Nat.le_of_ble_eq_true rfl) d_M_isThere_26 (fun H locs hP hD hS => ?_)
    have hP : va_P D vwCl (MW dA h ad (MS.s_cod x 1)) H := hP
    have hD : va_D A (MW dA h ad (MS.s_cod x 1)) := hD
    refine lv_aload_n hx hb d_M_isThere_29 rfl (lv_at hl 0 rfl) ?_
    refine gF (v := .int 1) hx hb hown hE hK hP 0 rfl rfl layM 0 (by decide) w319 rfl d_M_isThere_30 ?_
    refine lv_if_ne hx hb d_M_isThere_33 (tgt := 54) rfl (fun _ => ?_) (fun h9 => absurd h9 (by decide))
    refine lv_iconst (v := 0) hx hb d_M_isThere_54 (by decide) ?_
    exact rfZ hx hb hr (bI_nar false) hlk hS () rfl hP hD (Nat.le_of_ble_eq_true rfl) (Nat.le_of_ble_eq_true rfl) d_M_isThere_55
  · have g3 := g3
    refine lv_iload_n hx hb d_M_isThere_13 rfl (lv_at hl 2 rfl) ?_
    refine lv_aload_n hx hb d_M_isThere_14 rfl (lv_at hl 0 rfl) ?_
    refine gF (v := .int (nI x.shownWindows)) hx hb hown hE hK hP 0 rfl rfl layM 74 (by decide) w952 rfl d_M_isThere_15 ?_
    refine lv_icmp_ge hx hb d_M_isThere_18 (tgt := 25) rfl (fun _ => ?_) (fun h9 => absurd (h0.resolve_left (by assumption)) h9)
    refine lv_iconst (v := 1) hx hb d_M_isThere_25 (by decide) ?_
    refine pF (v := .int 1) hx hb hown hE hK hP hD hS 0 rfl rfl layM tyM tokM nmM 0 (by decide) w319 rfl rfl rfl (Nat.le_of_ble_eq_true rfl) d_M_isThere_26 (fun H locs hP hD hS => ?_)
    have hP : va_P D vwCl (MW dA h ad (MS.s_cod x 1)) H := hP
    have hD : va_D A (MW dA h ad (MS.s_cod x 1)) := hD
    refine lv_aload_n hx hb d_M_isThere_29 rfl (lv_at hl 0 rfl) ?_
    refine gF (v := .int 1) hx hb hown hE hK hP 0 rfl rfl layM 0 (by decide) w319 rfl d_M_isThere_30 ?_
    refine lv_if_ne hx hb d_M_isThere_33 (tgt := 54) rfl (fun _ => ?_) (fun h9 => absurd h9 (by decide))
    refine lv_iconst (v := 0) hx hb d_M_isThere_54 (by decide) ?_
    exact rfZ hx hb hr (bI_nar false) hlk hS () rfl hP hD (Nat.le_of_ble_eq_true rfl) (Nat.le_of_ble_eq_true rfl) d_M_isThere_55
theorem d_M_isThere_21 : decode prog_14_method_95_code 21 = .ok (.iconst 0, 1) := by decide +kernel
theorem d_M_isThere_22 : decode prog_14_method_95_code 22 = .ok (.goto 4, 3) := by decide +kernel
theorem d_M_isThere_36 : decode prog_14_method_95_code 36 = .ok (.aload_n 0, 1) := by decide +kernel
theorem d_M_isThere_37 : decode prog_14_method_95_code 37 = .ok (.getfield 142, 3) := by decide +kernel
theorem d_M_isThere_40 : decode prog_14_method_95_code 40 = .ok (.bipush 64, 2) := by decide +kernel
theorem d_M_isThere_42 : decode prog_14_method_95_code 42 = .ok (.iload_n 1, 1) := by decide +kernel
theorem d_M_isThere_43 : decode prog_14_method_95_code 43 = .ok (.imul, 1) := by decide +kernel
theorem d_M_isThere_44 : decode prog_14_method_95_code 44 = .ok (.iload_n 2, 1) := by decide +kernel
theorem d_M_isThere_45 : decode prog_14_method_95_code 45 = .ok (.iadd, 1) := by decide +kernel
theorem d_M_isThere_46 : decode prog_14_method_95_code 46 = .ok (.baload, 1) := by decide +kernel
theorem d_M_isThere_47 : decode prog_14_method_95_code 47 = .ok (.ifCond .eq 7, 3) := by decide +kernel
theorem d_M_isThere_50 : decode prog_14_method_95_code 50 = .ok (.iconst 1, 1) := by decide +kernel
theorem d_M_isThere_51 : decode prog_14_method_95_code 51 = .ok (.goto 4, 3) := by decide +kernel
set_option maxHeartbeats 4000000 in
set_option maxRecDepth 100000 in
theorem k_isThere_t (l : Launch) (D : va_G) (dA : Nat → ClassId) (sz : Nat) (h : Nat) (ad : Nat → Nat) (x : MS) (w : Nat) (k : Nat) (ht : x.isTable = true) (hw : w < x.rows) (hr2 : x.rows ≤ 256) (hk : k < x.shownWindows) (hk2 : x.shownWindows ≤ 64) (hs : x.isShown ((64 * w) + k) = true) : Met l ⟨"SeriesVaultModel", "isThere", "(II)Z"⟩ [Cond.code ⟨"SeriesVaultModel", "isThere", "(II)Z"⟩ prog_14_method_95_code 3 (some FieldType.boolean)] { frames := 2, cells := 0, slots := 0, locals := 21 } (pC D dA [.ref h, .int (nI w), .int (nI k)] (MW dA h ad x) sz) (va_Qi (fun (r9 : Int32) (u9 : Unit) => r9 = bI true) (fun (u9 : Unit) t9 => bW D (va_A (MW dA h ad x) sz) (MW dA h ad (MS.s_cod x 0)) t9) (va_A (MW dA h ad x) sz)) 0 0 (va_A (MW dA h ad x) sz) := by
  refine mkC (y := ⟨"SeriesVaultModel", "isThere", "(II)Z"⟩) (cc := prog_14_method_95_code) (maxL := 3) (av := [.ref h, .int (nI w), .int (nI k)]) (ws := MW dA h ad x) (sz := sz) (Qc := fun A => va_Qi (fun (r9 : Int32) (u9 : Unit) => r9 = bI true) (fun (u9 : Unit) t9 => bW D A (MW dA h ad (MS.s_cod x 0)) t9) A) (by decide) (Nat.le_of_ble_eq_true rfl) ?_
  intro A p e s m below meth c ls hsz hB
  obtain ⟨hx, hb, hr, hml, hown, hin, hlk, hE, hK, hP, hD, hS, hA, hN, hl⟩ := hB
  have hown : s.vm.findClass "SeriesVaultModel" = some m.cls := hown
  have hl : lv_has ls 3 [(0, .ref h), (1, .int (nI w)), (2, .int (nI k))] := hl
  obtain ⟨H, hH⟩ : ∃ z, z = s.heap := ⟨_, rfl⟩
  have hP : va_P D vwCl (MW dA h ad x) H := by rw [hH]; exact hP
  have hS : va_S A s.heap H [] := by rw [hH]; exact hS
  rw [← hH]
  refine lv_aload_n hx hb d_M_isThere_0 rfl (lv_at hl 0 rfl) ?_
  refine lv_aload_n hx hb d_M_isThere_1 rfl (lv_at hl 0 rfl) ?_
  refine lv_iload_n hx hb d_M_isThere_2 rfl (lv_at hl 1 rfl) ?_
  refine jfI (rnV (As := [.int (nI w)]) (rest := [.ref h]) hx hb hml hown hE hK (hN _ _ hS) hP hD (k_isRow l D dA H.size h ad x w ht hw hr2) (q0 := 0) rfl rfl w329 w327 w330 w331 w328 rfl rfl ⟨⟨by decide, by decide⟩, rfl⟩ ⟨(Nat.le_of_ble_eq_true rfl), (Nat.le_of_ble_eq_true rfl)⟩ rfl hl.1 rfl (Nat.le_of_ble_eq_true rfl) d_M_isThere_3 ⟨(Nat.le_of_ble_eq_true rfl), (Nat.le_of_ble_eq_true rfl)⟩) hP hD hS hA (fun r1 u2 H locs hp9 hP hD hS => ?_)
  have hP : va_P D vwCl (MW dA h ad x) H := hP
  have hD : va_D A (MW dA h ad x) := hD
  replace hp9 : bI true = r1 := Eq.symm hp9
  subst hp9
  refine lv_if_eq hx hb d_M_isThere_6 (tgt := 25) rfl (fun h9 => absurd h9 (by decide)) (fun _ => ?_)
  refine lv_iload_n hx hb d_M_isThere_9 rfl (lv_at hl 2 rfl) ?_
  refine lv_if_lt hx hb d_M_isThere_10 (tgt := 25) rfl (fun h9 => absurd h9 (nI_pos (n := k) (by omega))) (fun _ => ?_)
  refine lv_iload_n hx hb d_M_isThere_13 rfl (lv_at hl 2 rfl) ?_
  refine lv_aload_n hx hb d_M_isThere_14 rfl (lv_at hl 0 rfl) ?_
  refine gF (v := .int (nI x.shownWindows)) hx hb hown hE hK hP 0 rfl rfl layM 74 (by decide) w952 rfl d_M_isThere_15 ?_
  refine lv_icmp_ge hx hb d_M_isThere_18 (tgt := 25) rfl (fun h9 => absurd h9 (mt (nI_leI (a := x.shownWindows) (b := k) (by omega) (by omega)).mp (Nat.not_le.mpr hk))) (fun _ => ?_)
  refine lv_iconst (v := 0) hx hb d_M_isThere_21 (by decide) ?_
  refine lv_goto hx hb d_M_isThere_22 (tgt := 26) rfl ?_
  refine pF (v := .int 0) hx hb hown hE hK hP hD hS 0 rfl rfl layM tyM tokM nmM 0 (by decide) w319 rfl rfl rfl (Nat.le_of_ble_eq_true rfl) d_M_isThere_26 (fun H locs hP hD hS => ?_)
  have hP : va_P D vwCl (MW dA h ad (MS.s_cod x 0)) H := hP
  have hD : va_D A (MW dA h ad (MS.s_cod x 0)) := hD
  refine lv_aload_n hx hb d_M_isThere_29 rfl (lv_at hl 0 rfl) ?_
  refine gF (v := .int 0) hx hb hown hE hK hP 0 rfl rfl layM 0 (by decide) w319 rfl d_M_isThere_30 ?_
  refine lv_if_ne hx hb d_M_isThere_33 (tgt := 54) rfl (fun h9 => absurd (by decide) h9) (fun _ => ?_)
  refine lv_aload_n hx hb d_M_isThere_36 rfl (lv_at hl 0 rfl) ?_
  refine gF (v := .ref (ad 78)) hx hb hown hE hK hP 0 rfl rfl layM 78 (by decide) w538 rfl d_M_isThere_37 ?_
  refine lv_bipush (v := 64) hx hb d_M_isThere_40 (by decide) ?_
  refine lv_iload_n hx hb d_M_isThere_42 rfl (lv_at hl 1 rfl) ?_
  refine lv_imul hx hb d_M_isThere_43 (tpi (y := nI (64 * w)) (pk_mul (64) (w)) ?_)
  refine lv_iload_n hx hb d_M_isThere_44 rfl (lv_at hl 2 rfl) ?_
  refine lv_iadd hx hb d_M_isThere_45 (tpi (y := nI ((64 * w) + k)) (nI_add (64 * w) (k)) ?_)
  refine nzld (f := (fun z9 => bI (x.isShown z9))) hx hb hK hP 38 3 rfl rfl ((64 * w) + k) (by omega) (by decide) d_M_isThere_46 ?_
  refine lv_if_eq hx hb d_M_isThere_47 (tgt := 54) rfl (fun h9 => absurd h9 (by rw [hs]; decide)) (fun _ => ?_)
  refine lv_iconst (v := 1) hx hb d_M_isThere_50 (by decide) ?_
  refine lv_goto hx hb d_M_isThere_51 (tgt := 55) rfl ?_
  exact rfZ hx hb hr (bI_nar true) hlk hS () rfl hP hD (Nat.le_of_ble_eq_true rfl) (Nat.le_of_ble_eq_true rfl) d_M_isThere_55
set_option maxHeartbeats 4000000 in
set_option maxRecDepth 100000 in
theorem k_isThere_f (l : Launch) (D : va_G) (dA : Nat → ClassId) (sz : Nat) (h : Nat) (ad : Nat → Nat) (x : MS) (w : Nat) (k : Nat) (ht : x.isTable = true) (hw : w < x.rows) (hr2 : x.rows ≤ 256) (hk : k < x.shownWindows) (hk2 : x.shownWindows ≤ 64) (hs : x.isShown ((64 * w) + k) = false) : Met l ⟨"SeriesVaultModel", "isThere", "(II)Z"⟩ [Cond.code ⟨"SeriesVaultModel", "isThere", "(II)Z"⟩ prog_14_method_95_code 3 (some FieldType.boolean)] { frames := 2, cells := 0, slots := 0, locals := 21 } (pC D dA [.ref h, .int (nI w), .int (nI k)] (MW dA h ad x) sz) (va_Qi (fun (r9 : Int32) (u9 : Unit) => r9 = bI false) (fun (u9 : Unit) t9 => bW D (va_A (MW dA h ad x) sz) (MW dA h ad (MS.s_cod x 0)) t9) (va_A (MW dA h ad x) sz)) 0 0 (va_A (MW dA h ad x) sz) := by
  refine mkC (y := ⟨"SeriesVaultModel", "isThere", "(II)Z"⟩) (cc := prog_14_method_95_code) (maxL := 3) (av := [.ref h, .int (nI w), .int (nI k)]) (ws := MW dA h ad x) (sz := sz) (Qc := fun A => va_Qi (fun (r9 : Int32) (u9 : Unit) => r9 = bI false) (fun (u9 : Unit) t9 => bW D A (MW dA h ad (MS.s_cod x 0)) t9) A) (by decide) (Nat.le_of_ble_eq_true rfl) ?_
  intro A p e s m below meth c ls hsz hB
  obtain ⟨hx, hb, hr, hml, hown, hin, hlk, hE, hK, hP, hD, hS, hA, hN, hl⟩ := hB
  have hown : s.vm.findClass "SeriesVaultModel" = some m.cls := hown
  have hl : lv_has ls 3 [(0, .ref h), (1, .int (nI w)), (2, .int (nI k))] := hl
  obtain ⟨H, hH⟩ : ∃ z, z = s.heap := ⟨_, rfl⟩
  have hP : va_P D vwCl (MW dA h ad x) H := by rw [hH]; exact hP
  have hS : va_S A s.heap H [] := by rw [hH]; exact hS
  rw [← hH]
  refine lv_aload_n hx hb d_M_isThere_0 rfl (lv_at hl 0 rfl) ?_
  refine lv_aload_n hx hb d_M_isThere_1 rfl (lv_at hl 0 rfl) ?_
  refine lv_iload_n hx hb d_M_isThere_2 rfl (lv_at hl 1 rfl) ?_
  refine jfI (rnV (As := [.int (nI w)]) (rest := [.ref h]) hx hb hml hown hE hK (hN _ _ hS) hP hD (k_isRow l D dA H.size h ad x w ht hw hr2) (q0 := 0) rfl rfl w329 w327 w330 w331 w328 rfl rfl ⟨⟨by decide, by decide⟩, rfl⟩ ⟨(Nat.le_of_ble_eq_true rfl), (Nat.le_of_ble_eq_true rfl)⟩ rfl hl.1 rfl (Nat.le_of_ble_eq_true rfl) d_M_isThere_3 ⟨(Nat.le_of_ble_eq_true rfl), (Nat.le_of_ble_eq_true rfl)⟩) hP hD hS hA (fun r1 u2 H locs hp9 hP hD hS => ?_)
  have hP : va_P D vwCl (MW dA h ad x) H := hP
  have hD : va_D A (MW dA h ad x) := hD
  replace hp9 : bI true = r1 := Eq.symm hp9
  subst hp9
  refine lv_if_eq hx hb d_M_isThere_6 (tgt := 25) rfl (fun h9 => absurd h9 (by decide)) (fun _ => ?_)
  refine lv_iload_n hx hb d_M_isThere_9 rfl (lv_at hl 2 rfl) ?_
  refine lv_if_lt hx hb d_M_isThere_10 (tgt := 25) rfl (fun h9 => absurd h9 (nI_pos (n := k) (by omega))) (fun _ => ?_)
  refine lv_iload_n hx hb d_M_isThere_13 rfl (lv_at hl 2 rfl) ?_
  refine lv_aload_n hx hb d_M_isThere_14 rfl (lv_at hl 0 rfl) ?_
  refine gF (v := .int (nI x.shownWindows)) hx hb hown hE hK hP 0 rfl rfl layM 74 (by decide) w952 rfl d_M_isThere_15 ?_
  refine lv_icmp_ge hx hb d_M_isThere_18 (tgt := 25) rfl (fun h9 => absurd h9 (mt (nI_leI (a := x.shownWindows) (b := k) (by omega) (by omega)).mp (Nat.not_le.mpr hk))) (fun _ => ?_)
  refine lv_iconst (v := 0) hx hb d_M_isThere_21 (by decide) ?_
  refine lv_goto hx hb d_M_isThere_22 (tgt := 26) rfl ?_
  refine pF (v := .int 0) hx hb hown hE hK hP hD hS 0 rfl rfl layM tyM tokM nmM 0 (by decide) w319 rfl rfl rfl (Nat.le_of_ble_eq_true rfl) d_M_isThere_26 (fun H locs hP hD hS => ?_)
  have hP : va_P D vwCl (MW dA h ad (MS.s_cod x 0)) H := hP
  have hD : va_D A (MW dA h ad (MS.s_cod x 0)) := hD
  refine lv_aload_n hx hb d_M_isThere_29 rfl (lv_at hl 0 rfl) ?_
  refine gF (v := .int 0) hx hb hown hE hK hP 0 rfl rfl layM 0 (by decide) w319 rfl d_M_isThere_30 ?_
  refine lv_if_ne hx hb d_M_isThere_33 (tgt := 54) rfl (fun h9 => absurd (by decide) h9) (fun _ => ?_)
  refine lv_aload_n hx hb d_M_isThere_36 rfl (lv_at hl 0 rfl) ?_
  refine gF (v := .ref (ad 78)) hx hb hown hE hK hP 0 rfl rfl layM 78 (by decide) w538 rfl d_M_isThere_37 ?_
  refine lv_bipush (v := 64) hx hb d_M_isThere_40 (by decide) ?_
  refine lv_iload_n hx hb d_M_isThere_42 rfl (lv_at hl 1 rfl) ?_
  refine lv_imul hx hb d_M_isThere_43 (tpi (y := nI (64 * w)) (pk_mul (64) (w)) ?_)
  refine lv_iload_n hx hb d_M_isThere_44 rfl (lv_at hl 2 rfl) ?_
  refine lv_iadd hx hb d_M_isThere_45 (tpi (y := nI ((64 * w) + k)) (nI_add (64 * w) (k)) ?_)
  refine nzld (f := (fun z9 => bI (x.isShown z9))) hx hb hK hP 38 3 rfl rfl ((64 * w) + k) (by omega) (by decide) d_M_isThere_46 ?_
  refine lv_if_eq hx hb d_M_isThere_47 (tgt := 54) rfl (fun _ => ?_) (fun h9 => absurd (by rw [hs]; decide) h9)
  refine lv_iconst (v := 0) hx hb d_M_isThere_54 (by decide) ?_
  exact rfZ hx hb hr (bI_nar false) hlk hS () rfl hP hD (Nat.le_of_ble_eq_true rfl) (Nat.le_of_ble_eq_true rfl) d_M_isThere_55
set_option maxHeartbeats 4000000 in
set_option maxRecDepth 100000 in
theorem k_cell_1 (l : Launch) (D : va_G) (dA : Nat → ClassId) (sz : Nat) (h : Nat) (ad : Nat → Nat) (x : MS) (z : Int32) (k : Int32) (h0 : x.isTable = false ∨ z < 0 ∨ nI x.rows ≤ z) : Met l ⟨"SeriesVaultModel", "cell", "(II)J"⟩ [Cond.code ⟨"SeriesVaultModel", "cell", "(II)J"⟩ prog_14_method_96_code 3 (some FieldType.long)] { frames := 2, cells := 0, slots := 0, locals := 21 } (pC D dA [.ref h, .int z, .int k] (MW dA h ad x) sz) (va_Ql (fun (r9 : Int64) (u9 : Unit) => r9 = 0) (fun (u9 : Unit) t9 => bW D (va_A (MW dA h ad x) sz) (MW dA h ad (MS.s_cod x 1)) t9) (va_A (MW dA h ad x) sz)) 0 0 (va_A (MW dA h ad x) sz) := by
  refine mkC (y := ⟨"SeriesVaultModel", "cell", "(II)J"⟩) (cc := prog_14_method_96_code) (maxL := 3) (av := [.ref h, .int z, .int k]) (ws := MW dA h ad x) (sz := sz) (Qc := fun A => va_Ql (fun (r9 : Int64) (u9 : Unit) => r9 = 0) (fun (u9 : Unit) t9 => bW D A (MW dA h ad (MS.s_cod x 1)) t9) A) (by decide) (Nat.le_of_ble_eq_true rfl) ?_
  intro A p e s m below meth c ls hsz hB
  obtain ⟨hx, hb, hr, hml, hown, hin, hlk, hE, hK, hP, hD, hS, hA, hN, hl⟩ := hB
  have hown : s.vm.findClass "SeriesVaultModel" = some m.cls := hown
  have hl : lv_has ls 3 [(0, .ref h), (1, .int z), (2, .int k)] := hl
  obtain ⟨H, hH⟩ : ∃ z, z = s.heap := ⟨_, rfl⟩
  have hP : va_P D vwCl (MW dA h ad x) H := by rw [hH]; exact hP
  have hS : va_S A s.heap H [] := by rw [hH]; exact hS
  rw [← hH]
  refine lv_aload_n hx hb d_M_cell_0 rfl (lv_at hl 0 rfl) ?_
  refine lv_aload_n hx hb d_M_cell_1 rfl (lv_at hl 0 rfl) ?_
  refine lv_iload_n hx hb d_M_cell_2 rfl (lv_at hl 1 rfl) ?_
  refine jfI (rnV (As := [.int z]) (rest := [.ref h]) hx hb hml hown hE hK (hN _ _ hS) hP hD (k_isRow_0 l D dA H.size h ad x z h0) (q0 := 0) rfl rfl w329 w327 w330 w331 w328 rfl rfl ⟨⟨by decide, by decide⟩, rfl⟩ ⟨(Nat.le_of_ble_eq_true rfl), (Nat.le_of_ble_eq_true rfl)⟩ rfl hl.1 rfl (Nat.le_of_ble_eq_true rfl) d_M_cell_3 ⟨(Nat.le_of_ble_eq_true rfl), (Nat.le_of_ble_eq_true rfl)⟩) hP hD hS hA (fun r1 u2 H locs hp9 hP hD hS => ?_)
  have hP : va_P D vwCl (MW dA h ad x) H := hP
  have hD : va_D A (MW dA h ad x) := hD
  replace hp9 : bI false = r1 := Eq.symm hp9
  subst hp9
  refine lv_if_eq hx hb d_M_cell_6 (tgt := 25) rfl (fun _ => ?_) (fun h9 => absurd (by decide) h9)
  refine lv_iconst (v := 1) hx hb d_M_cell_25 (by decide) ?_
  refine pF (v := .int 1) hx hb hown hE hK hP hD hS 0 rfl rfl layM tyM tokM nmM 0 (by decide) w319 rfl rfl rfl (Nat.le_of_ble_eq_true rfl) d_M_cell_26 (fun H locs hP hD hS => ?_)
  have hP : va_P D vwCl (MW dA h ad (MS.s_cod x 1)) H := hP
  have hD : va_D A (MW dA h ad (MS.s_cod x 1)) := hD
  refine lv_aload_n hx hb d_M_cell_29 rfl (lv_at hl 0 rfl) ?_
  refine gF (v := .int 1) hx hb hown hE hK hP 0 rfl rfl layM 0 (by decide) w319 rfl d_M_cell_30 ?_
  refine lv_if_ne hx hb d_M_cell_33 (tgt := 64) rfl (fun _ => ?_) (fun h9 => absurd h9 (by decide))
  refine lv_lconst (v := 0) hx hb d_M_cell_64 (by decide) ?_
  exact rfL hx hb hr hlk hS () rfl hP hD (Nat.le_of_ble_eq_true rfl) (Nat.le_of_ble_eq_true rfl) d_M_cell_65
theorem d_M_cell_9 : decode prog_14_method_96_code 9 = .ok (.iload_n 2, 1) := by decide +kernel
theorem d_M_cell_10 : decode prog_14_method_96_code 10 = .ok (.ifCond .lt 15, 3) := by decide +kernel
theorem d_M_cell_13 : decode prog_14_method_96_code 13 = .ok (.iload_n 2, 1) := by decide +kernel
theorem d_M_cell_14 : decode prog_14_method_96_code 14 = .ok (.aload_n 0, 1) := by decide +kernel
theorem d_M_cell_15 : decode prog_14_method_96_code 15 = .ok (.getfield 501, 3) := by decide +kernel
theorem d_M_cell_18 : decode prog_14_method_96_code 18 = .ok (.if_icmp .ge 7, 3) := by decide +kernel
set_option maxHeartbeats 4000000 in
set_option maxRecDepth 100000 in
theorem k_cell_2 (l : Launch) (D : va_G) (dA : Nat → ClassId) (sz : Nat) (h : Nat) (ad : Nat → Nat) (x : MS) (w : Nat) (k : Int32) (ht : x.isTable = true) (hw : w < x.rows) (hr2 : x.rows ≤ 256) (h0 : k < 0 ∨ nI x.shownWindows ≤ k) : Met l ⟨"SeriesVaultModel", "cell", "(II)J"⟩ [Cond.code ⟨"SeriesVaultModel", "cell", "(II)J"⟩ prog_14_method_96_code 3 (some FieldType.long)] { frames := 2, cells := 0, slots := 0, locals := 21 } (pC D dA [.ref h, .int (nI w), .int k] (MW dA h ad x) sz) (va_Ql (fun (r9 : Int64) (u9 : Unit) => r9 = 0) (fun (u9 : Unit) t9 => bW D (va_A (MW dA h ad x) sz) (MW dA h ad (MS.s_cod x 1)) t9) (va_A (MW dA h ad x) sz)) 0 0 (va_A (MW dA h ad x) sz) := by
  refine mkC (y := ⟨"SeriesVaultModel", "cell", "(II)J"⟩) (cc := prog_14_method_96_code) (maxL := 3) (av := [.ref h, .int (nI w), .int k]) (ws := MW dA h ad x) (sz := sz) (Qc := fun A => va_Ql (fun (r9 : Int64) (u9 : Unit) => r9 = 0) (fun (u9 : Unit) t9 => bW D A (MW dA h ad (MS.s_cod x 1)) t9) A) (by decide) (Nat.le_of_ble_eq_true rfl) ?_
  intro A p e s m below meth c ls hsz hB
  obtain ⟨hx, hb, hr, hml, hown, hin, hlk, hE, hK, hP, hD, hS, hA, hN, hl⟩ := hB
  have hown : s.vm.findClass "SeriesVaultModel" = some m.cls := hown
  have hl : lv_has ls 3 [(0, .ref h), (1, .int (nI w)), (2, .int k)] := hl
  obtain ⟨H, hH⟩ : ∃ z, z = s.heap := ⟨_, rfl⟩
  have hP : va_P D vwCl (MW dA h ad x) H := by rw [hH]; exact hP
  have hS : va_S A s.heap H [] := by rw [hH]; exact hS
  rw [← hH]
  refine lv_aload_n hx hb d_M_cell_0 rfl (lv_at hl 0 rfl) ?_
  refine lv_aload_n hx hb d_M_cell_1 rfl (lv_at hl 0 rfl) ?_
  refine lv_iload_n hx hb d_M_cell_2 rfl (lv_at hl 1 rfl) ?_
  refine jfI (rnV (As := [.int (nI w)]) (rest := [.ref h]) hx hb hml hown hE hK (hN _ _ hS) hP hD (k_isRow l D dA H.size h ad x w ht hw hr2) (q0 := 0) rfl rfl w329 w327 w330 w331 w328 rfl rfl ⟨⟨by decide, by decide⟩, rfl⟩ ⟨(Nat.le_of_ble_eq_true rfl), (Nat.le_of_ble_eq_true rfl)⟩ rfl hl.1 rfl (Nat.le_of_ble_eq_true rfl) d_M_cell_3 ⟨(Nat.le_of_ble_eq_true rfl), (Nat.le_of_ble_eq_true rfl)⟩) hP hD hS hA (fun r1 u2 H locs hp9 hP hD hS => ?_)
  have hP : va_P D vwCl (MW dA h ad x) H := hP
  have hD : va_D A (MW dA h ad x) := hD
  replace hp9 : bI true = r1 := Eq.symm hp9
  subst hp9
  refine lv_if_eq hx hb d_M_cell_6 (tgt := 25) rfl (fun h9 => absurd h9 (by decide)) (fun _ => ?_)
  refine lv_iload_n hx hb d_M_cell_9 rfl (lv_at hl 2 rfl) ?_
  refine lv_if_lt hx hb d_M_cell_10 (tgt := 25) rfl (fun g3 => ?_) (fun g3 => ?_)
  · have g3 := g3
    refine lv_iconst (v := 1) hx hb d_M_cell_25 (by decide) ?_
    refine pF (v := .int 1) hx hb hown hE hK hP hD hS 0 rfl rfl layM tyM tokM nmM 0 (by decide) w319 rfl rfl rfl (Nat.le_of_ble_eq_true rfl) d_M_cell_26 (fun H locs hP hD hS => ?_)
    have hP : va_P D vwCl (MW dA h ad (MS.s_cod x 1)) H := hP
    have hD : va_D A (MW dA h ad (MS.s_cod x 1)) := hD
    refine lv_aload_n hx hb d_M_cell_29 rfl (lv_at hl 0 rfl) ?_
    refine gF (v := .int 1) hx hb hown hE hK hP 0 rfl rfl layM 0 (by decide) w319 rfl d_M_cell_30 ?_
    refine lv_if_ne hx hb d_M_cell_33 (tgt := 64) rfl (fun _ => ?_) (fun h9 => absurd h9 (by decide))
    refine lv_lconst (v := 0) hx hb d_M_cell_64 (by decide) ?_
    exact rfL hx hb hr hlk hS () rfl hP hD (Nat.le_of_ble_eq_true rfl) (Nat.le_of_ble_eq_true rfl) d_M_cell_65
  · have g3 := g3
    refine lv_iload_n hx hb d_M_cell_13 rfl (lv_at hl 2 rfl) ?_
    refine lv_aload_n hx hb d_M_cell_14 rfl (lv_at hl 0 rfl) ?_
    refine gF (v := .int (nI x.shownWindows)) hx hb hown hE hK hP 0 rfl rfl layM 74 (by decide) w952 rfl d_M_cell_15 ?_
    refine lv_icmp_ge hx hb d_M_cell_18 (tgt := 25) rfl (fun _ => ?_) (fun h9 => absurd (h0.resolve_left (by assumption)) h9)
    refine lv_iconst (v := 1) hx hb d_M_cell_25 (by decide) ?_
    refine pF (v := .int 1) hx hb hown hE hK hP hD hS 0 rfl rfl layM tyM tokM nmM 0 (by decide) w319 rfl rfl rfl (Nat.le_of_ble_eq_true rfl) d_M_cell_26 (fun H locs hP hD hS => ?_)
    have hP : va_P D vwCl (MW dA h ad (MS.s_cod x 1)) H := hP
    have hD : va_D A (MW dA h ad (MS.s_cod x 1)) := hD
    refine lv_aload_n hx hb d_M_cell_29 rfl (lv_at hl 0 rfl) ?_
    refine gF (v := .int 1) hx hb hown hE hK hP 0 rfl rfl layM 0 (by decide) w319 rfl d_M_cell_30 ?_
    refine lv_if_ne hx hb d_M_cell_33 (tgt := 64) rfl (fun _ => ?_) (fun h9 => absurd h9 (by decide))
    refine lv_lconst (v := 0) hx hb d_M_cell_64 (by decide) ?_
    exact rfL hx hb hr hlk hS () rfl hP hD (Nat.le_of_ble_eq_true rfl) (Nat.le_of_ble_eq_true rfl) d_M_cell_65
theorem d_M_cell_21 : decode prog_14_method_96_code 21 = .ok (.iconst 0, 1) := by decide +kernel
theorem d_M_cell_22 : decode prog_14_method_96_code 22 = .ok (.goto 4, 3) := by decide +kernel
theorem d_M_cell_36 : decode prog_14_method_96_code 36 = .ok (.aload_n 0, 1) := by decide +kernel
theorem d_M_cell_37 : decode prog_14_method_96_code 37 = .ok (.getfield 142, 3) := by decide +kernel
theorem d_M_cell_40 : decode prog_14_method_96_code 40 = .ok (.bipush 64, 2) := by decide +kernel
theorem d_M_cell_42 : decode prog_14_method_96_code 42 = .ok (.iload_n 1, 1) := by decide +kernel
theorem d_M_cell_43 : decode prog_14_method_96_code 43 = .ok (.imul, 1) := by decide +kernel
theorem d_M_cell_44 : decode prog_14_method_96_code 44 = .ok (.iload_n 2, 1) := by decide +kernel
theorem d_M_cell_45 : decode prog_14_method_96_code 45 = .ok (.iadd, 1) := by decide +kernel
theorem d_M_cell_46 : decode prog_14_method_96_code 46 = .ok (.baload, 1) := by decide +kernel
theorem d_M_cell_47 : decode prog_14_method_96_code 47 = .ok (.ifCond .eq 17, 3) := by decide +kernel
theorem d_M_cell_50 : decode prog_14_method_96_code 50 = .ok (.aload_n 0, 1) := by decide +kernel
theorem d_M_cell_51 : decode prog_14_method_96_code 51 = .ok (.getfield 139, 3) := by decide +kernel
theorem d_M_cell_54 : decode prog_14_method_96_code 54 = .ok (.bipush 64, 2) := by decide +kernel
theorem d_M_cell_56 : decode prog_14_method_96_code 56 = .ok (.iload_n 1, 1) := by decide +kernel
theorem d_M_cell_57 : decode prog_14_method_96_code 57 = .ok (.imul, 1) := by decide +kernel
theorem d_M_cell_58 : decode prog_14_method_96_code 58 = .ok (.iload_n 2, 1) := by decide +kernel
theorem d_M_cell_59 : decode prog_14_method_96_code 59 = .ok (.iadd, 1) := by decide +kernel
theorem d_M_cell_60 : decode prog_14_method_96_code 60 = .ok (.laload, 1) := by decide +kernel
theorem d_M_cell_61 : decode prog_14_method_96_code 61 = .ok (.goto 4, 3) := by decide +kernel
set_option maxHeartbeats 4000000 in
set_option maxRecDepth 100000 in
theorem k_cell_t (l : Launch) (D : va_G) (dA : Nat → ClassId) (sz : Nat) (h : Nat) (ad : Nat → Nat) (x : MS) (w : Nat) (k : Nat) (ht : x.isTable = true) (hw : w < x.rows) (hr2 : x.rows ≤ 256) (hk : k < x.shownWindows) (hk2 : x.shownWindows ≤ 64) (hs : x.isShown ((64 * w) + k) = true) : Met l ⟨"SeriesVaultModel", "cell", "(II)J"⟩ [Cond.code ⟨"SeriesVaultModel", "cell", "(II)J"⟩ prog_14_method_96_code 3 (some FieldType.long)] { frames := 2, cells := 0, slots := 0, locals := 21 } (pC D dA [.ref h, .int (nI w), .int (nI k)] (MW dA h ad x) sz) (va_Ql (fun (r9 : Int64) (u9 : Unit) => r9 = x.shown (64 * w + k)) (fun (u9 : Unit) t9 => bW D (va_A (MW dA h ad x) sz) (MW dA h ad (MS.s_cod x 0)) t9) (va_A (MW dA h ad x) sz)) 0 0 (va_A (MW dA h ad x) sz) := by
  refine mkC (y := ⟨"SeriesVaultModel", "cell", "(II)J"⟩) (cc := prog_14_method_96_code) (maxL := 3) (av := [.ref h, .int (nI w), .int (nI k)]) (ws := MW dA h ad x) (sz := sz) (Qc := fun A => va_Ql (fun (r9 : Int64) (u9 : Unit) => r9 = x.shown (64 * w + k)) (fun (u9 : Unit) t9 => bW D A (MW dA h ad (MS.s_cod x 0)) t9) A) (by decide) (Nat.le_of_ble_eq_true rfl) ?_
  intro A p e s m below meth c ls hsz hB
  obtain ⟨hx, hb, hr, hml, hown, hin, hlk, hE, hK, hP, hD, hS, hA, hN, hl⟩ := hB
  have hown : s.vm.findClass "SeriesVaultModel" = some m.cls := hown
  have hl : lv_has ls 3 [(0, .ref h), (1, .int (nI w)), (2, .int (nI k))] := hl
  obtain ⟨H, hH⟩ : ∃ z, z = s.heap := ⟨_, rfl⟩
  have hP : va_P D vwCl (MW dA h ad x) H := by rw [hH]; exact hP
  have hS : va_S A s.heap H [] := by rw [hH]; exact hS
  rw [← hH]
  refine lv_aload_n hx hb d_M_cell_0 rfl (lv_at hl 0 rfl) ?_
  refine lv_aload_n hx hb d_M_cell_1 rfl (lv_at hl 0 rfl) ?_
  refine lv_iload_n hx hb d_M_cell_2 rfl (lv_at hl 1 rfl) ?_
  refine jfI (rnV (As := [.int (nI w)]) (rest := [.ref h]) hx hb hml hown hE hK (hN _ _ hS) hP hD (k_isRow l D dA H.size h ad x w ht hw hr2) (q0 := 0) rfl rfl w329 w327 w330 w331 w328 rfl rfl ⟨⟨by decide, by decide⟩, rfl⟩ ⟨(Nat.le_of_ble_eq_true rfl), (Nat.le_of_ble_eq_true rfl)⟩ rfl hl.1 rfl (Nat.le_of_ble_eq_true rfl) d_M_cell_3 ⟨(Nat.le_of_ble_eq_true rfl), (Nat.le_of_ble_eq_true rfl)⟩) hP hD hS hA (fun r1 u2 H locs hp9 hP hD hS => ?_)
  have hP : va_P D vwCl (MW dA h ad x) H := hP
  have hD : va_D A (MW dA h ad x) := hD
  replace hp9 : bI true = r1 := Eq.symm hp9
  subst hp9
  refine lv_if_eq hx hb d_M_cell_6 (tgt := 25) rfl (fun h9 => absurd h9 (by decide)) (fun _ => ?_)
  refine lv_iload_n hx hb d_M_cell_9 rfl (lv_at hl 2 rfl) ?_
  refine lv_if_lt hx hb d_M_cell_10 (tgt := 25) rfl (fun h9 => absurd h9 (nI_pos (n := k) (by omega))) (fun _ => ?_)
  refine lv_iload_n hx hb d_M_cell_13 rfl (lv_at hl 2 rfl) ?_
  refine lv_aload_n hx hb d_M_cell_14 rfl (lv_at hl 0 rfl) ?_
  refine gF (v := .int (nI x.shownWindows)) hx hb hown hE hK hP 0 rfl rfl layM 74 (by decide) w952 rfl d_M_cell_15 ?_
  refine lv_icmp_ge hx hb d_M_cell_18 (tgt := 25) rfl (fun h9 => absurd h9 (mt (nI_leI (a := x.shownWindows) (b := k) (by omega) (by omega)).mp (Nat.not_le.mpr hk))) (fun _ => ?_)
  refine lv_iconst (v := 0) hx hb d_M_cell_21 (by decide) ?_
  refine lv_goto hx hb d_M_cell_22 (tgt := 26) rfl ?_
  refine pF (v := .int 0) hx hb hown hE hK hP hD hS 0 rfl rfl layM tyM tokM nmM 0 (by decide) w319 rfl rfl rfl (Nat.le_of_ble_eq_true rfl) d_M_cell_26 (fun H locs hP hD hS => ?_)
  have hP : va_P D vwCl (MW dA h ad (MS.s_cod x 0)) H := hP
  have hD : va_D A (MW dA h ad (MS.s_cod x 0)) := hD
  refine lv_aload_n hx hb d_M_cell_29 rfl (lv_at hl 0 rfl) ?_
  refine gF (v := .int 0) hx hb hown hE hK hP 0 rfl rfl layM 0 (by decide) w319 rfl d_M_cell_30 ?_
  refine lv_if_ne hx hb d_M_cell_33 (tgt := 64) rfl (fun h9 => absurd (by decide) h9) (fun _ => ?_)
  refine lv_aload_n hx hb d_M_cell_36 rfl (lv_at hl 0 rfl) ?_
  refine gF (v := .ref (ad 78)) hx hb hown hE hK hP 0 rfl rfl layM 78 (by decide) w538 rfl d_M_cell_37 ?_
  refine lv_bipush (v := 64) hx hb d_M_cell_40 (by decide) ?_
  refine lv_iload_n hx hb d_M_cell_42 rfl (lv_at hl 1 rfl) ?_
  refine lv_imul hx hb d_M_cell_43 (tpi (y := nI (64 * w)) (pk_mul (64) (w)) ?_)
  refine lv_iload_n hx hb d_M_cell_44 rfl (lv_at hl 2 rfl) ?_
  refine lv_iadd hx hb d_M_cell_45 (tpi (y := nI ((64 * w) + k)) (nI_add (64 * w) (k)) ?_)
  refine nzld (f := (fun z9 => bI (x.isShown z9))) hx hb hK hP 38 3 rfl rfl ((64 * w) + k) (by omega) (by decide) d_M_cell_46 ?_
  refine lv_if_eq hx hb d_M_cell_47 (tgt := 64) rfl (fun h9 => absurd h9 (by rw [hs]; decide)) (fun _ => ?_)
  refine lv_aload_n hx hb d_M_cell_50 rfl (lv_at hl 0 rfl) ?_
  refine gF (v := .ref (ad 77)) hx hb hown hE hK hP 0 rfl rfl layM 77 (by decide) w537 rfl d_M_cell_51 ?_
  refine lv_bipush (v := 64) hx hb d_M_cell_54 (by decide) ?_
  refine lv_iload_n hx hb d_M_cell_56 rfl (lv_at hl 1 rfl) ?_
  refine lv_imul hx hb d_M_cell_57 (tpi (y := nI (64 * w)) (pk_mul (64) (w)) ?_)
  refine lv_iload_n hx hb d_M_cell_58 rfl (lv_at hl 2 rfl) ?_
  refine lv_iadd hx hb d_M_cell_59 (tpi (y := nI ((64 * w) + k)) (nI_add (64 * w) (k)) ?_)
  refine nlld (f := x.shown) hx hb hK hP 37 2 rfl rfl ((64 * w) + k) (by omega) (by decide) d_M_cell_60 ?_
  refine lv_goto hx hb d_M_cell_61 (tgt := 65) rfl ?_
  exact rfL hx hb hr hlk hS () rfl hP hD (Nat.le_of_ble_eq_true rfl) (Nat.le_of_ble_eq_true rfl) d_M_cell_65
set_option maxHeartbeats 4000000 in
set_option maxRecDepth 100000 in
theorem k_cell_f (l : Launch) (D : va_G) (dA : Nat → ClassId) (sz : Nat) (h : Nat) (ad : Nat → Nat) (x : MS) (w : Nat) (k : Nat) (ht : x.isTable = true) (hw : w < x.rows) (hr2 : x.rows ≤ 256) (hk : k < x.shownWindows) (hk2 : x.shownWindows ≤ 64) (hs : x.isShown ((64 * w) + k) = false) : Met l ⟨"SeriesVaultModel", "cell", "(II)J"⟩ [Cond.code ⟨"SeriesVaultModel", "cell", "(II)J"⟩ prog_14_method_96_code 3 (some FieldType.long)] { frames := 2, cells := 0, slots := 0, locals := 21 } (pC D dA [.ref h, .int (nI w), .int (nI k)] (MW dA h ad x) sz) (va_Ql (fun (r9 : Int64) (u9 : Unit) => r9 = 0) (fun (u9 : Unit) t9 => bW D (va_A (MW dA h ad x) sz) (MW dA h ad (MS.s_cod x 0)) t9) (va_A (MW dA h ad x) sz)) 0 0 (va_A (MW dA h ad x) sz) := by
  refine mkC (y := ⟨"SeriesVaultModel", "cell", "(II)J"⟩) (cc := prog_14_method_96_code) (maxL := 3) (av := [.ref h, .int (nI w), .int (nI k)]) (ws := MW dA h ad x) (sz := sz) (Qc := fun A => va_Ql (fun (r9 : Int64) (u9 : Unit) => r9 = 0) (fun (u9 : Unit) t9 => bW D A (MW dA h ad (MS.s_cod x 0)) t9) A) (by decide) (Nat.le_of_ble_eq_true rfl) ?_
  intro A p e s m below meth c ls hsz hB
  obtain ⟨hx, hb, hr, hml, hown, hin, hlk, hE, hK, hP, hD, hS, hA, hN, hl⟩ := hB
  have hown : s.vm.findClass "SeriesVaultModel" = some m.cls := hown
  have hl : lv_has ls 3 [(0, .ref h), (1, .int (nI w)), (2, .int (nI k))] := hl
  obtain ⟨H, hH⟩ : ∃ z, z = s.heap := ⟨_, rfl⟩
  have hP : va_P D vwCl (MW dA h ad x) H := by rw [hH]; exact hP
  have hS : va_S A s.heap H [] := by rw [hH]; exact hS
  rw [← hH]
  refine lv_aload_n hx hb d_M_cell_0 rfl (lv_at hl 0 rfl) ?_
  refine lv_aload_n hx hb d_M_cell_1 rfl (lv_at hl 0 rfl) ?_
  refine lv_iload_n hx hb d_M_cell_2 rfl (lv_at hl 1 rfl) ?_
  refine jfI (rnV (As := [.int (nI w)]) (rest := [.ref h]) hx hb hml hown hE hK (hN _ _ hS) hP hD (k_isRow l D dA H.size h ad x w ht hw hr2) (q0 := 0) rfl rfl w329 w327 w330 w331 w328 rfl rfl ⟨⟨by decide, by decide⟩, rfl⟩ ⟨(Nat.le_of_ble_eq_true rfl), (Nat.le_of_ble_eq_true rfl)⟩ rfl hl.1 rfl (Nat.le_of_ble_eq_true rfl) d_M_cell_3 ⟨(Nat.le_of_ble_eq_true rfl), (Nat.le_of_ble_eq_true rfl)⟩) hP hD hS hA (fun r1 u2 H locs hp9 hP hD hS => ?_)
  have hP : va_P D vwCl (MW dA h ad x) H := hP
  have hD : va_D A (MW dA h ad x) := hD
  replace hp9 : bI true = r1 := Eq.symm hp9
  subst hp9
  refine lv_if_eq hx hb d_M_cell_6 (tgt := 25) rfl (fun h9 => absurd h9 (by decide)) (fun _ => ?_)
  refine lv_iload_n hx hb d_M_cell_9 rfl (lv_at hl 2 rfl) ?_
  refine lv_if_lt hx hb d_M_cell_10 (tgt := 25) rfl (fun h9 => absurd h9 (nI_pos (n := k) (by omega))) (fun _ => ?_)
  refine lv_iload_n hx hb d_M_cell_13 rfl (lv_at hl 2 rfl) ?_
  refine lv_aload_n hx hb d_M_cell_14 rfl (lv_at hl 0 rfl) ?_
  refine gF (v := .int (nI x.shownWindows)) hx hb hown hE hK hP 0 rfl rfl layM 74 (by decide) w952 rfl d_M_cell_15 ?_
  refine lv_icmp_ge hx hb d_M_cell_18 (tgt := 25) rfl (fun h9 => absurd h9 (mt (nI_leI (a := x.shownWindows) (b := k) (by omega) (by omega)).mp (Nat.not_le.mpr hk))) (fun _ => ?_)
  refine lv_iconst (v := 0) hx hb d_M_cell_21 (by decide) ?_
  refine lv_goto hx hb d_M_cell_22 (tgt := 26) rfl ?_
  refine pF (v := .int 0) hx hb hown hE hK hP hD hS 0 rfl rfl layM tyM tokM nmM 0 (by decide) w319 rfl rfl rfl (Nat.le_of_ble_eq_true rfl) d_M_cell_26 (fun H locs hP hD hS => ?_)
  have hP : va_P D vwCl (MW dA h ad (MS.s_cod x 0)) H := hP
  have hD : va_D A (MW dA h ad (MS.s_cod x 0)) := hD
  refine lv_aload_n hx hb d_M_cell_29 rfl (lv_at hl 0 rfl) ?_
  refine gF (v := .int 0) hx hb hown hE hK hP 0 rfl rfl layM 0 (by decide) w319 rfl d_M_cell_30 ?_
  refine lv_if_ne hx hb d_M_cell_33 (tgt := 64) rfl (fun h9 => absurd (by decide) h9) (fun _ => ?_)
  refine lv_aload_n hx hb d_M_cell_36 rfl (lv_at hl 0 rfl) ?_
  refine gF (v := .ref (ad 78)) hx hb hown hE hK hP 0 rfl rfl layM 78 (by decide) w538 rfl d_M_cell_37 ?_
  refine lv_bipush (v := 64) hx hb d_M_cell_40 (by decide) ?_
  refine lv_iload_n hx hb d_M_cell_42 rfl (lv_at hl 1 rfl) ?_
  refine lv_imul hx hb d_M_cell_43 (tpi (y := nI (64 * w)) (pk_mul (64) (w)) ?_)
  refine lv_iload_n hx hb d_M_cell_44 rfl (lv_at hl 2 rfl) ?_
  refine lv_iadd hx hb d_M_cell_45 (tpi (y := nI ((64 * w) + k)) (nI_add (64 * w) (k)) ?_)
  refine nzld (f := (fun z9 => bI (x.isShown z9))) hx hb hK hP 38 3 rfl rfl ((64 * w) + k) (by omega) (by decide) d_M_cell_46 ?_
  refine lv_if_eq hx hb d_M_cell_47 (tgt := 64) rfl (fun _ => ?_) (fun h9 => absurd (by rw [hs]; decide) h9)
  refine lv_lconst (v := 0) hx hb d_M_cell_64 (by decide) ?_
  exact rfL hx hb hr hlk hS () rfl hP hD (Nat.le_of_ble_eq_true rfl) (Nat.le_of_ble_eq_true rfl) d_M_cell_65
theorem d_M_at_12 : decode prog_14_method_56_code 12 = .ok (.aload_n 0, 1) := by decide +kernel
theorem d_M_at_13 : decode prog_14_method_56_code 13 = .ok (.getfield 8, 3) := by decide +kernel
theorem d_M_at_16 : decode prog_14_method_56_code 16 = .ok (.iload_n 1, 1) := by decide +kernel
theorem d_M_at_17 : decode prog_14_method_56_code 17 = .ok (.baload, 1) := by decide +kernel
theorem d_M_at_18 : decode prog_14_method_56_code 18 = .ok (.sipush 255, 3) := by decide +kernel
theorem d_M_at_21 : decode prog_14_method_56_code 21 = .ok (.iand, 1) := by decide +kernel
theorem d_M_at_22 : decode prog_14_method_56_code 22 = .ok (.goto 4, 3) := by decide +kernel
set_option maxHeartbeats 4000000 in
set_option maxRecDepth 100000 in
theorem k_at (l : Launch) (D : va_G) (dA : Nat → ClassId) (sz : Nat) (h : Nat) (ad : Nat → Nat) (x : MS) (k : Nat) (hk : k < 2 ^ 31) (hl1 : x.length ≤ 65536) : Met l ⟨"SeriesVaultModel", "at", "(I)I"⟩ [Cond.code ⟨"SeriesVaultModel", "at", "(I)I"⟩ prog_14_method_56_code 2 (some FieldType.int)] { frames := 1, cells := 0, slots := 0, locals := 0 } (pC D dA [.ref h, .int (nI k)] (MW dA h ad x) sz) (va_Qi (fun (r9 : Int32) (u9 : Unit) => r9 = x.atN k) (fun (u9 : Unit) t9 => bW D (va_A (MW dA h ad x) sz) (MW dA h ad x) t9) (va_A (MW dA h ad x) sz)) 0 0 (va_A (MW dA h ad x) sz) := by
  refine mkC (y := ⟨"SeriesVaultModel", "at", "(I)I"⟩) (cc := prog_14_method_56_code) (maxL := 2) (av := [.ref h, .int (nI k)]) (ws := MW dA h ad x) (sz := sz) (Qc := fun A => va_Qi (fun (r9 : Int32) (u9 : Unit) => r9 = x.atN k) (fun (u9 : Unit) t9 => bW D A (MW dA h ad x) t9) A) (by decide) (Nat.le_of_ble_eq_true rfl) ?_
  intro A p e s m below meth c ls hsz hB
  obtain ⟨hx, hb, hr, hml, hown, hin, hlk, hE, hK, hP, hD, hS, hA, hN, hl⟩ := hB
  have hown : s.vm.findClass "SeriesVaultModel" = some m.cls := hown
  have hl : lv_has ls 2 [(0, .ref h), (1, .int (nI k))] := hl
  obtain ⟨H, hH⟩ : ∃ z, z = s.heap := ⟨_, rfl⟩
  have hP : va_P D vwCl (MW dA h ad x) H := by rw [hH]; exact hP
  have hS : va_S A s.heap H [] := by rw [hH]; exact hS
  rw [← hH]
  refine lv_iload_n hx hb d_M_at_0 rfl (lv_at hl 1 rfl) ?_
  refine lv_if_lt hx hb d_M_at_1 (tgt := 25) rfl (fun h9 => absurd h9 (nI_pos (n := k) (by omega))) (fun _ => ?_)
  refine lv_iload_n hx hb d_M_at_4 rfl (lv_at hl 1 rfl) ?_
  refine lv_aload_n hx hb d_M_at_5 rfl (lv_at hl 0 rfl) ?_
  refine gF (v := .int (nI x.length)) hx hb hown hE hK hP 0 rfl rfl layM 2 (by decide) w320 rfl d_M_at_6 ?_
  refine lv_icmp_ge hx hb d_M_at_9 (tgt := 25) rfl (fun g1 => ?_) (fun g1 => ?_)
  · have g1 := (nI_leI (a := x.length) (b := k) (by omega) (by omega)).mp g1
    refine lv_iconst (v := 0) hx hb d_M_at_25 (by decide) ?_
    exact rfI hx hb hr hlk hS () (show _ = atI x.tape x.length k from (if_pos g1).symm) hP hD (Nat.le_of_ble_eq_true rfl) (Nat.le_of_ble_eq_true rfl) d_M_at_26
  · have g1 := mt (nI_leI (a := x.length) (b := k) (by omega) (by omega)).mpr g1
    refine lv_aload_n hx hb d_M_at_12 rfl (lv_at hl 0 rfl) ?_
    refine gF (v := .ref (ad 1)) hx hb hown hE hK hP 0 rfl rfl layM 1 (by decide) w497 rfl d_M_at_13 ?_
    refine lv_iload_n hx hb d_M_at_16 rfl (lv_at hl 1 rfl) ?_
    refine nbld (f := x.tape) hx hb hK hP 1 0 rfl rfl (k) (by omega) (by decide) d_M_at_17 ?_
    refine lv_sipush (v := 255) hx hb d_M_at_18 (by decide) ?_
    refine lv_iand hx hb d_M_at_21 ?_
    refine lv_goto hx hb d_M_at_22 (tgt := 26) rfl ?_
    exact rfI hx hb hr hlk hS () (show _ = atI x.tape x.length k from (if_neg g1).symm) hP hD (Nat.le_of_ble_eq_true rfl) (Nat.le_of_ble_eq_true rfl) d_M_at_26
set_option maxHeartbeats 4000000 in
set_option maxRecDepth 100000 in
theorem k_at_x (l : Launch) (D : va_G) (dA : Nat → ClassId) (sz : Nat) (h : Nat) (ad : Nat → Nat) (x : MS) (z : Int32) (hz : z < 0) : Met l ⟨"SeriesVaultModel", "at", "(I)I"⟩ [Cond.code ⟨"SeriesVaultModel", "at", "(I)I"⟩ prog_14_method_56_code 2 (some FieldType.int)] { frames := 1, cells := 0, slots := 0, locals := 0 } (pC D dA [.ref h, .int z] (MW dA h ad x) sz) (va_Qi (fun (r9 : Int32) (u9 : Unit) => r9 = 0) (fun (u9 : Unit) t9 => bW D (va_A (MW dA h ad x) sz) (MW dA h ad x) t9) (va_A (MW dA h ad x) sz)) 0 0 (va_A (MW dA h ad x) sz) := by
  refine mkC (y := ⟨"SeriesVaultModel", "at", "(I)I"⟩) (cc := prog_14_method_56_code) (maxL := 2) (av := [.ref h, .int z]) (ws := MW dA h ad x) (sz := sz) (Qc := fun A => va_Qi (fun (r9 : Int32) (u9 : Unit) => r9 = 0) (fun (u9 : Unit) t9 => bW D A (MW dA h ad x) t9) A) (by decide) (Nat.le_of_ble_eq_true rfl) ?_
  intro A p e s m below meth c ls hsz hB
  obtain ⟨hx, hb, hr, hml, hown, hin, hlk, hE, hK, hP, hD, hS, hA, hN, hl⟩ := hB
  have hown : s.vm.findClass "SeriesVaultModel" = some m.cls := hown
  have hl : lv_has ls 2 [(0, .ref h), (1, .int z)] := hl
  obtain ⟨H, hH⟩ : ∃ z, z = s.heap := ⟨_, rfl⟩
  have hP : va_P D vwCl (MW dA h ad x) H := by rw [hH]; exact hP
  have hS : va_S A s.heap H [] := by rw [hH]; exact hS
  rw [← hH]
  refine lv_iload_n hx hb d_M_at_0 rfl (lv_at hl 1 rfl) ?_
  refine lv_if_lt hx hb d_M_at_1 (tgt := 25) rfl (fun _ => ?_) (fun h9 => absurd hz h9)
  refine lv_iconst (v := 0) hx hb d_M_at_25 (by decide) ?_
  exact rfI hx hb hr hlk hS () rfl hP hD (Nat.le_of_ble_eq_true rfl) (Nat.le_of_ble_eq_true rfl) d_M_at_26
theorem d_M_isDigit_0 : decode prog_14_method_54_code 0 = .ok (.iload_n 0, 1) := by decide +kernel
theorem d_M_isDigit_1 : decode prog_14_method_54_code 1 = .ok (.bipush 48, 2) := by decide +kernel
theorem d_M_isDigit_3 : decode prog_14_method_54_code 3 = .ok (.if_icmp .lt 13, 3) := by decide +kernel
theorem d_M_isDigit_16 : decode prog_14_method_54_code 16 = .ok (.iconst 0, 1) := by decide +kernel
theorem d_M_isDigit_17 : decode prog_14_method_54_code 17 = .ok (.ireturn, 1) := by decide +kernel
theorem d_M_isDigit_6 : decode prog_14_method_54_code 6 = .ok (.iload_n 0, 1) := by decide +kernel
theorem d_M_isDigit_7 : decode prog_14_method_54_code 7 = .ok (.bipush 57, 2) := by decide +kernel
theorem d_M_isDigit_9 : decode prog_14_method_54_code 9 = .ok (.if_icmp .gt 7, 3) := by decide +kernel
theorem d_M_isDigit_12 : decode prog_14_method_54_code 12 = .ok (.iconst 1, 1) := by decide +kernel
theorem d_M_isDigit_13 : decode prog_14_method_54_code 13 = .ok (.goto 4, 3) := by decide +kernel
set_option maxHeartbeats 4000000 in
set_option maxRecDepth 100000 in
theorem k_isDigit (l : Launch) (D : va_G) (dA : Nat → ClassId) (sz : Nat) (z : Int32) : Met l ⟨"SeriesVaultModel", "isDigit", "(I)Z"⟩ [Cond.code ⟨"SeriesVaultModel", "isDigit", "(I)Z"⟩ prog_14_method_54_code 1 (some FieldType.boolean)] { frames := 1, cells := 0, slots := 0, locals := 0 } (pC D dA [.int z] ([]) sz) (va_Qi (fun (r9 : Int32) (u9 : Unit) => r9 = bI (isDg z)) (fun (u9 : Unit) t9 => bW D (va_A ([]) sz) ([]) t9) (va_A ([]) sz)) 0 0 (va_A ([]) sz) := by
  refine mkC (y := ⟨"SeriesVaultModel", "isDigit", "(I)Z"⟩) (cc := prog_14_method_54_code) (maxL := 1) (av := [.int z]) (ws := []) (sz := sz) (Qc := fun A => va_Qi (fun (r9 : Int32) (u9 : Unit) => r9 = bI (isDg z)) (fun (u9 : Unit) t9 => bW D A ([]) t9) A) (by decide) (Nat.le_of_ble_eq_true rfl) ?_
  intro A p e s m below meth c ls hsz hB
  obtain ⟨hx, hb, hr, hml, hown, hin, hlk, hE, hK, hP, hD, hS, hA, hN, hl⟩ := hB
  have hown : s.vm.findClass "SeriesVaultModel" = some m.cls := hown
  have hl : lv_has ls 1 [(0, .int z)] := hl
  obtain ⟨H, hH⟩ : ∃ z, z = s.heap := ⟨_, rfl⟩
  have hP : va_P D vwCl ([]) H := by rw [hH]; exact hP
  have hS : va_S A s.heap H [] := by rw [hH]; exact hS
  rw [← hH]
  refine lv_iload_n hx hb d_M_isDigit_0 rfl (lv_at hl 0 rfl) ?_
  refine lv_bipush (v := 48) hx hb d_M_isDigit_1 (by decide) ?_
  refine lv_icmp_lt hx hb d_M_isDigit_3 (tgt := 16) rfl (fun g1 => ?_) (fun g1 => ?_)
  · have g1 := g1
    refine lv_iconst (v := 0) hx hb d_M_isDigit_16 (by decide) ?_
    exact rfZ hx hb hr (bI_nar false) hlk hS () (by simp [isDg, bI, *]) hP hD (Nat.le_of_ble_eq_true rfl) (Nat.le_of_ble_eq_true rfl) d_M_isDigit_17
  · have g1 := g1
    refine lv_iload_n hx hb d_M_isDigit_6 rfl (lv_at hl 0 rfl) ?_
    refine lv_bipush (v := 57) hx hb d_M_isDigit_7 (by decide) ?_
    refine lv_icmp_gt hx hb d_M_isDigit_9 (tgt := 16) rfl (fun g2 => ?_) (fun g2 => ?_)
    · have g2 := g2
      refine lv_iconst (v := 0) hx hb d_M_isDigit_16 (by decide) ?_
      exact rfZ hx hb hr (bI_nar false) hlk hS () (by simp [isDg, bI, *]) hP hD (Nat.le_of_ble_eq_true rfl) (Nat.le_of_ble_eq_true rfl) d_M_isDigit_17
    · have g2 := g2
      refine lv_iconst (v := 1) hx hb d_M_isDigit_12 (by decide) ?_
      refine lv_goto hx hb d_M_isDigit_13 (tgt := 17) rfl ?_
      exact rfZ hx hb hr (bI_nar true) hlk hS () (by simp [isDg, bI, *]) hP hD (Nat.le_of_ble_eq_true rfl) (Nat.le_of_ble_eq_true rfl) d_M_isDigit_17
theorem d_M_isLetter_0 : decode prog_14_method_55_code 0 = .ok (.iload_n 0, 1) := by decide +kernel
theorem d_M_isLetter_1 : decode prog_14_method_55_code 1 = .ok (.bipush 97, 2) := by decide +kernel
theorem d_M_isLetter_3 : decode prog_14_method_55_code 3 = .ok (.if_icmp .lt 9, 3) := by decide +kernel
theorem d_M_isLetter_12 : decode prog_14_method_55_code 12 = .ok (.iload_n 0, 1) := by decide +kernel
theorem d_M_isLetter_13 : decode prog_14_method_55_code 13 = .ok (.bipush 65, 2) := by decide +kernel
theorem d_M_isLetter_15 : decode prog_14_method_55_code 15 = .ok (.if_icmp .lt 9, 3) := by decide +kernel
theorem d_M_isLetter_24 : decode prog_14_method_55_code 24 = .ok (.iload_n 0, 1) := by decide +kernel
theorem d_M_isLetter_25 : decode prog_14_method_55_code 25 = .ok (.bipush 95, 2) := by decide +kernel
theorem d_M_isLetter_27 : decode prog_14_method_55_code 27 = .ok (.if_icmp .ne 7, 3) := by decide +kernel
theorem d_M_isLetter_34 : decode prog_14_method_55_code 34 = .ok (.iconst 0, 1) := by decide +kernel
theorem d_M_isLetter_35 : decode prog_14_method_55_code 35 = .ok (.ireturn, 1) := by decide +kernel
theorem d_M_isLetter_30 : decode prog_14_method_55_code 30 = .ok (.iconst 1, 1) := by decide +kernel
theorem d_M_isLetter_31 : decode prog_14_method_55_code 31 = .ok (.goto 4, 3) := by decide +kernel
theorem d_M_isLetter_18 : decode prog_14_method_55_code 18 = .ok (.iload_n 0, 1) := by decide +kernel
theorem d_M_isLetter_19 : decode prog_14_method_55_code 19 = .ok (.bipush 90, 2) := by decide +kernel
theorem d_M_isLetter_21 : decode prog_14_method_55_code 21 = .ok (.if_icmp .le 9, 3) := by decide +kernel
theorem d_M_isLetter_6 : decode prog_14_method_55_code 6 = .ok (.iload_n 0, 1) := by decide +kernel
theorem d_M_isLetter_7 : decode prog_14_method_55_code 7 = .ok (.bipush 122, 2) := by decide +kernel
theorem d_M_isLetter_9 : decode prog_14_method_55_code 9 = .ok (.if_icmp .le 21, 3) := by decide +kernel
set_option maxHeartbeats 4000000 in
set_option maxRecDepth 100000 in
theorem k_isLetter (l : Launch) (D : va_G) (dA : Nat → ClassId) (sz : Nat) (z : Int32) : Met l ⟨"SeriesVaultModel", "isLetter", "(I)Z"⟩ [Cond.code ⟨"SeriesVaultModel", "isLetter", "(I)Z"⟩ prog_14_method_55_code 1 (some FieldType.boolean)] { frames := 1, cells := 0, slots := 0, locals := 0 } (pC D dA [.int z] ([]) sz) (va_Qi (fun (r9 : Int32) (u9 : Unit) => r9 = bI (isLt z)) (fun (u9 : Unit) t9 => bW D (va_A ([]) sz) ([]) t9) (va_A ([]) sz)) 0 0 (va_A ([]) sz) := by
  refine mkC (y := ⟨"SeriesVaultModel", "isLetter", "(I)Z"⟩) (cc := prog_14_method_55_code) (maxL := 1) (av := [.int z]) (ws := []) (sz := sz) (Qc := fun A => va_Qi (fun (r9 : Int32) (u9 : Unit) => r9 = bI (isLt z)) (fun (u9 : Unit) t9 => bW D A ([]) t9) A) (by decide) (Nat.le_of_ble_eq_true rfl) ?_
  intro A p e s m below meth c ls hsz hB
  obtain ⟨hx, hb, hr, hml, hown, hin, hlk, hE, hK, hP, hD, hS, hA, hN, hl⟩ := hB
  have hown : s.vm.findClass "SeriesVaultModel" = some m.cls := hown
  have hl : lv_has ls 1 [(0, .int z)] := hl
  obtain ⟨H, hH⟩ : ∃ z, z = s.heap := ⟨_, rfl⟩
  have hP : va_P D vwCl ([]) H := by rw [hH]; exact hP
  have hS : va_S A s.heap H [] := by rw [hH]; exact hS
  rw [← hH]
  refine lv_iload_n hx hb d_M_isLetter_0 rfl (lv_at hl 0 rfl) ?_
  refine lv_bipush (v := 97) hx hb d_M_isLetter_1 (by decide) ?_
  refine lv_icmp_lt hx hb d_M_isLetter_3 (tgt := 12) rfl (fun g1 => ?_) (fun g1 => ?_)
  · have g1 := g1
    refine lv_iload_n hx hb d_M_isLetter_12 rfl (lv_at hl 0 rfl) ?_
    refine lv_bipush (v := 65) hx hb d_M_isLetter_13 (by decide) ?_
    refine lv_icmp_lt hx hb d_M_isLetter_15 (tgt := 24) rfl (fun g2 => ?_) (fun g2 => ?_)
    · have g2 := g2
      refine lv_iload_n hx hb d_M_isLetter_24 rfl (lv_at hl 0 rfl) ?_
      refine lv_bipush (v := 95) hx hb d_M_isLetter_25 (by decide) ?_
      refine lv_icmp_ne hx hb d_M_isLetter_27 (tgt := 34) rfl (fun g3 => ?_) (fun g3 => ?_)
      · have g3 := g3
        refine lv_iconst (v := 0) hx hb d_M_isLetter_34 (by decide) ?_
        exact rfZ hx hb hr (bI_nar false) hlk hS () (by simp [isLt, bI, *]) hP hD (Nat.le_of_ble_eq_true rfl) (Nat.le_of_ble_eq_true rfl) d_M_isLetter_35
      · have g3 := g3
        refine lv_iconst (v := 1) hx hb d_M_isLetter_30 (by decide) ?_
        refine lv_goto hx hb d_M_isLetter_31 (tgt := 35) rfl ?_
        exact rfZ hx hb hr (bI_nar true) hlk hS () (by simp [isLt, bI, *]) hP hD (Nat.le_of_ble_eq_true rfl) (Nat.le_of_ble_eq_true rfl) d_M_isLetter_35
    · have g2 := g2
      refine lv_iload_n hx hb d_M_isLetter_18 rfl (lv_at hl 0 rfl) ?_
      refine lv_bipush (v := 90) hx hb d_M_isLetter_19 (by decide) ?_
      refine lv_icmp_le hx hb d_M_isLetter_21 (tgt := 30) rfl (fun g4 => ?_) (fun g4 => ?_)
      · have g4 := g4
        refine lv_iconst (v := 1) hx hb d_M_isLetter_30 (by decide) ?_
        refine lv_goto hx hb d_M_isLetter_31 (tgt := 35) rfl ?_
        exact rfZ hx hb hr (bI_nar true) hlk hS () (by simp [isLt, bI, *]) hP hD (Nat.le_of_ble_eq_true rfl) (Nat.le_of_ble_eq_true rfl) d_M_isLetter_35
      · have g4 := g4
        refine lv_iload_n hx hb d_M_isLetter_24 rfl (lv_at hl 0 rfl) ?_
        refine lv_bipush (v := 95) hx hb d_M_isLetter_25 (by decide) ?_
        refine lv_icmp_ne hx hb d_M_isLetter_27 (tgt := 34) rfl (fun g5 => ?_) (fun g5 => ?_)
        · have g5 := g5
          refine lv_iconst (v := 0) hx hb d_M_isLetter_34 (by decide) ?_
          exact rfZ hx hb hr (bI_nar false) hlk hS () (by simp [isLt, bI, *]) hP hD (Nat.le_of_ble_eq_true rfl) (Nat.le_of_ble_eq_true rfl) d_M_isLetter_35
        · have g5 := g5
          refine lv_iconst (v := 1) hx hb d_M_isLetter_30 (by decide) ?_
          refine lv_goto hx hb d_M_isLetter_31 (tgt := 35) rfl ?_
          exact rfZ hx hb hr (bI_nar true) hlk hS () (by simp [isLt, bI, *]) hP hD (Nat.le_of_ble_eq_true rfl) (Nat.le_of_ble_eq_true rfl) d_M_isLetter_35
  · have g1 := g1
    refine lv_iload_n hx hb d_M_isLetter_6 rfl (lv_at hl 0 rfl) ?_
    refine lv_bipush (v := 122) hx hb d_M_isLetter_7 (by decide) ?_
    refine lv_icmp_le hx hb d_M_isLetter_9 (tgt := 30) rfl (fun g6 => ?_) (fun g6 => ?_)
    · have g6 := g6
      refine lv_iconst (v := 1) hx hb d_M_isLetter_30 (by decide) ?_
      refine lv_goto hx hb d_M_isLetter_31 (tgt := 35) rfl ?_
      exact rfZ hx hb hr (bI_nar true) hlk hS () (by simp [isLt, bI, *]) hP hD (Nat.le_of_ble_eq_true rfl) (Nat.le_of_ble_eq_true rfl) d_M_isLetter_35
    · have g6 := g6
      refine lv_iload_n hx hb d_M_isLetter_12 rfl (lv_at hl 0 rfl) ?_
      refine lv_bipush (v := 65) hx hb d_M_isLetter_13 (by decide) ?_
      refine lv_icmp_lt hx hb d_M_isLetter_15 (tgt := 24) rfl (fun g7 => ?_) (fun g7 => ?_)
      · have g7 := g7
        refine lv_iload_n hx hb d_M_isLetter_24 rfl (lv_at hl 0 rfl) ?_
        refine lv_bipush (v := 95) hx hb d_M_isLetter_25 (by decide) ?_
        refine lv_icmp_ne hx hb d_M_isLetter_27 (tgt := 34) rfl (fun g8 => ?_) (fun g8 => ?_)
        · have g8 := g8
          refine lv_iconst (v := 0) hx hb d_M_isLetter_34 (by decide) ?_
          exact rfZ hx hb hr (bI_nar false) hlk hS () (by simp [isLt, bI, *]) hP hD (Nat.le_of_ble_eq_true rfl) (Nat.le_of_ble_eq_true rfl) d_M_isLetter_35
        · have g8 := g8
          refine lv_iconst (v := 1) hx hb d_M_isLetter_30 (by decide) ?_
          refine lv_goto hx hb d_M_isLetter_31 (tgt := 35) rfl ?_
          exact rfZ hx hb hr (bI_nar true) hlk hS () (by simp [isLt, bI, *]) hP hD (Nat.le_of_ble_eq_true rfl) (Nat.le_of_ble_eq_true rfl) d_M_isLetter_35
      · have g7 := g7
        refine lv_iload_n hx hb d_M_isLetter_18 rfl (lv_at hl 0 rfl) ?_
        refine lv_bipush (v := 90) hx hb d_M_isLetter_19 (by decide) ?_
        refine lv_icmp_le hx hb d_M_isLetter_21 (tgt := 30) rfl (fun g9 => ?_) (fun g9 => ?_)
        · have g9 := g9
          refine lv_iconst (v := 1) hx hb d_M_isLetter_30 (by decide) ?_
          refine lv_goto hx hb d_M_isLetter_31 (tgt := 35) rfl ?_
          exact rfZ hx hb hr (bI_nar true) hlk hS () (by simp [isLt, bI, *]) hP hD (Nat.le_of_ble_eq_true rfl) (Nat.le_of_ble_eq_true rfl) d_M_isLetter_35
        · have g9 := g9
          refine lv_iload_n hx hb d_M_isLetter_24 rfl (lv_at hl 0 rfl) ?_
          refine lv_bipush (v := 95) hx hb d_M_isLetter_25 (by decide) ?_
          refine lv_icmp_ne hx hb d_M_isLetter_27 (tgt := 34) rfl (fun g10 => ?_) (fun g10 => ?_)
          · have g10 := g10
            refine lv_iconst (v := 0) hx hb d_M_isLetter_34 (by decide) ?_
            exact rfZ hx hb hr (bI_nar false) hlk hS () (by simp [isLt, bI, *]) hP hD (Nat.le_of_ble_eq_true rfl) (Nat.le_of_ble_eq_true rfl) d_M_isLetter_35
          · have g10 := g10
            refine lv_iconst (v := 1) hx hb d_M_isLetter_30 (by decide) ?_
            refine lv_goto hx hb d_M_isLetter_31 (tgt := 35) rfl ?_
            exact rfZ hx hb hr (bI_nar true) hlk hS () (by simp [isLt, bI, *]) hP hD (Nat.le_of_ble_eq_true rfl) (Nat.le_of_ble_eq_true rfl) d_M_isLetter_35
theorem d_M_cellAt_0 : decode prog_14_method_64_code 0 = .ok (.iload_n 0, 1) := by decide +kernel
theorem d_M_cellAt_1 : decode prog_14_method_64_code 1 = .ok (.sipush 256, 3) := by decide +kernel
theorem d_M_cellAt_4 : decode prog_14_method_64_code 4 = .ok (.imul, 1) := by decide +kernel
theorem d_M_cellAt_5 : decode prog_14_method_64_code 5 = .ok (.iload_n 1, 1) := by decide +kernel
theorem d_M_cellAt_6 : decode prog_14_method_64_code 6 = .ok (.iadd, 1) := by decide +kernel
theorem d_M_cellAt_7 : decode prog_14_method_64_code 7 = .ok (.bipush 64, 2) := by decide +kernel
theorem d_M_cellAt_9 : decode prog_14_method_64_code 9 = .ok (.imul, 1) := by decide +kernel
theorem d_M_cellAt_10 : decode prog_14_method_64_code 10 = .ok (.iload_n 2, 1) := by decide +kernel
theorem d_M_cellAt_11 : decode prog_14_method_64_code 11 = .ok (.iadd, 1) := by decide +kernel
theorem d_M_cellAt_12 : decode prog_14_method_64_code 12 = .ok (.ireturn, 1) := by decide +kernel
set_option maxHeartbeats 4000000 in
set_option maxRecDepth 100000 in
theorem k_cellAt (l : Launch) (D : va_G) (dA : Nat → ClassId) (sz : Nat) (a : Nat) (b : Nat) (k : Nat) : Met l ⟨"SeriesVaultModel", "cellAt", "(III)I"⟩ [Cond.code ⟨"SeriesVaultModel", "cellAt", "(III)I"⟩ prog_14_method_64_code 3 (some FieldType.int)] { frames := 1, cells := 0, slots := 0, locals := 0 } (pC D dA [.int (nI a), .int (nI b), .int (nI k)] ([]) sz) (va_Qi (fun (r9 : Int32) (u9 : Unit) => r9 = nI ((a * 256 + b) * 64 + k)) (fun (u9 : Unit) t9 => bW D (va_A ([]) sz) ([]) t9) (va_A ([]) sz)) 0 0 (va_A ([]) sz) := by
  refine mkC (y := ⟨"SeriesVaultModel", "cellAt", "(III)I"⟩) (cc := prog_14_method_64_code) (maxL := 3) (av := [.int (nI a), .int (nI b), .int (nI k)]) (ws := []) (sz := sz) (Qc := fun A => va_Qi (fun (r9 : Int32) (u9 : Unit) => r9 = nI ((a * 256 + b) * 64 + k)) (fun (u9 : Unit) t9 => bW D A ([]) t9) A) (by decide) (Nat.le_of_ble_eq_true rfl) ?_
  intro A p e s m below meth c ls hsz hB
  obtain ⟨hx, hb, hr, hml, hown, hin, hlk, hE, hK, hP, hD, hS, hA, hN, hl⟩ := hB
  have hown : s.vm.findClass "SeriesVaultModel" = some m.cls := hown
  have hl : lv_has ls 3 [(0, .int (nI a)), (1, .int (nI b)), (2, .int (nI k))] := hl
  obtain ⟨H, hH⟩ : ∃ z, z = s.heap := ⟨_, rfl⟩
  have hP : va_P D vwCl ([]) H := by rw [hH]; exact hP
  have hS : va_S A s.heap H [] := by rw [hH]; exact hS
  rw [← hH]
  refine lv_iload_n hx hb d_M_cellAt_0 rfl (lv_at hl 0 rfl) ?_
  refine lv_sipush (v := 256) hx hb d_M_cellAt_1 (by decide) ?_
  refine lv_imul hx hb d_M_cellAt_4 (tpi (y := nI (a * 256)) (pk_mul (a) (256)) ?_)
  refine lv_iload_n hx hb d_M_cellAt_5 rfl (lv_at hl 1 rfl) ?_
  refine lv_iadd hx hb d_M_cellAt_6 (tpi (y := nI ((a * 256) + b)) (nI_add (a * 256) (b)) ?_)
  refine lv_bipush (v := 64) hx hb d_M_cellAt_7 (by decide) ?_
  refine lv_imul hx hb d_M_cellAt_9 (tpi (y := nI (((a * 256) + b) * 64)) (pk_mul ((a * 256) + b) (64)) ?_)
  refine lv_iload_n hx hb d_M_cellAt_10 rfl (lv_at hl 2 rfl) ?_
  refine lv_iadd hx hb d_M_cellAt_11 (tpi (y := nI ((((a * 256) + b) * 64) + k)) (nI_add (((a * 256) + b) * 64) (k)) ?_)
  exact rfI hx hb hr hlk hS () rfl hP hD (Nat.le_of_ble_eq_true rfl) (Nat.le_of_ble_eq_true rfl) d_M_cellAt_12
theorem d_M_rank_0 : decode prog_14_method_79_code 0 = .ok (.iload_n 0, 1) := by decide +kernel
theorem d_M_rank_1 : decode prog_14_method_79_code 1 = .ok (.bipush 43, 2) := by decide +kernel
theorem d_M_rank_3 : decode prog_14_method_79_code 3 = .ok (.if_icmp .eq 9, 3) := by decide +kernel
theorem d_M_rank_12 : decode prog_14_method_79_code 12 = .ok (.iconst 1, 1) := by decide +kernel
theorem d_M_rank_13 : decode prog_14_method_79_code 13 = .ok (.goto 36, 3) := by decide +kernel
theorem d_M_rank_49 : decode prog_14_method_79_code 49 = .ok (.ireturn, 1) := by decide +kernel
theorem d_M_rank_6 : decode prog_14_method_79_code 6 = .ok (.iload_n 0, 1) := by decide +kernel
theorem d_M_rank_7 : decode prog_14_method_79_code 7 = .ok (.bipush 45, 2) := by decide +kernel
theorem d_M_rank_9 : decode prog_14_method_79_code 9 = .ok (.if_icmp .ne 7, 3) := by decide +kernel
theorem d_M_rank_16 : decode prog_14_method_79_code 16 = .ok (.iload_n 0, 1) := by decide +kernel
theorem d_M_rank_17 : decode prog_14_method_79_code 17 = .ok (.bipush 42, 2) := by decide +kernel
theorem d_M_rank_19 : decode prog_14_method_79_code 19 = .ok (.if_icmp .eq 15, 3) := by decide +kernel
theorem d_M_rank_34 : decode prog_14_method_79_code 34 = .ok (.iconst 2, 1) := by decide +kernel
theorem d_M_rank_35 : decode prog_14_method_79_code 35 = .ok (.goto 14, 3) := by decide +kernel
theorem d_M_rank_22 : decode prog_14_method_79_code 22 = .ok (.iload_n 0, 1) := by decide +kernel
theorem d_M_rank_23 : decode prog_14_method_79_code 23 = .ok (.bipush 47, 2) := by decide +kernel
theorem d_M_rank_25 : decode prog_14_method_79_code 25 = .ok (.if_icmp .eq 9, 3) := by decide +kernel
theorem d_M_rank_28 : decode prog_14_method_79_code 28 = .ok (.iload_n 0, 1) := by decide +kernel
theorem d_M_rank_29 : decode prog_14_method_79_code 29 = .ok (.bipush 37, 2) := by decide +kernel
theorem d_M_rank_31 : decode prog_14_method_79_code 31 = .ok (.if_icmp .ne 7, 3) := by decide +kernel
theorem d_M_rank_38 : decode prog_14_method_79_code 38 = .ok (.iload_n 0, 1) := by decide +kernel
theorem d_M_rank_39 : decode prog_14_method_79_code 39 = .ok (.bipush 109, 2) := by decide +kernel
theorem d_M_rank_41 : decode prog_14_method_79_code 41 = .ok (.if_icmp .ne 7, 3) := by decide +kernel
theorem d_M_rank_48 : decode prog_14_method_79_code 48 = .ok (.iconst 0, 1) := by decide +kernel
theorem d_M_rank_44 : decode prog_14_method_79_code 44 = .ok (.iconst 3, 1) := by decide +kernel
theorem d_M_rank_45 : decode prog_14_method_79_code 45 = .ok (.goto 4, 3) := by decide +kernel
set_option maxHeartbeats 4000000 in
set_option maxRecDepth 100000 in
theorem k_rank (l : Launch) (D : va_G) (dA : Nat → ClassId) (sz : Nat) (z : Int32) : Met l ⟨"SeriesVaultModel", "rank", "(I)I"⟩ [Cond.code ⟨"SeriesVaultModel", "rank", "(I)I"⟩ prog_14_method_79_code 1 (some FieldType.int)] { frames := 1, cells := 0, slots := 0, locals := 0 } (pC D dA [.int z] ([]) sz) (va_Qi (fun (r9 : Int32) (u9 : Unit) => r9 = nI (rkN z)) (fun (u9 : Unit) t9 => bW D (va_A ([]) sz) ([]) t9) (va_A ([]) sz)) 0 0 (va_A ([]) sz) := by
  refine mkC (y := ⟨"SeriesVaultModel", "rank", "(I)I"⟩) (cc := prog_14_method_79_code) (maxL := 1) (av := [.int z]) (ws := []) (sz := sz) (Qc := fun A => va_Qi (fun (r9 : Int32) (u9 : Unit) => r9 = nI (rkN z)) (fun (u9 : Unit) t9 => bW D A ([]) t9) A) (by decide) (Nat.le_of_ble_eq_true rfl) ?_
  intro A p e s m below meth c ls hsz hB
  obtain ⟨hx, hb, hr, hml, hown, hin, hlk, hE, hK, hP, hD, hS, hA, hN, hl⟩ := hB
  have hown : s.vm.findClass "SeriesVaultModel" = some m.cls := hown
  have hl : lv_has ls 1 [(0, .int z)] := hl
  obtain ⟨H, hH⟩ : ∃ z, z = s.heap := ⟨_, rfl⟩
  have hP : va_P D vwCl ([]) H := by rw [hH]; exact hP
  have hS : va_S A s.heap H [] := by rw [hH]; exact hS
  rw [← hH]
  refine lv_iload_n hx hb d_M_rank_0 rfl (lv_at hl 0 rfl) ?_
  refine lv_bipush (v := 43) hx hb d_M_rank_1 (by decide) ?_
  refine lv_icmp_eq hx hb d_M_rank_3 (tgt := 12) rfl (fun g1 => ?_) (fun g1 => ?_)
  · have g1 := g1
    refine lv_iconst (v := 1) hx hb d_M_rank_12 (by decide) ?_
    refine lv_goto hx hb d_M_rank_13 (tgt := 49) rfl ?_
    exact rfI hx hb hr hlk hS () (by simp [rkN, *]; rfl) hP hD (Nat.le_of_ble_eq_true rfl) (Nat.le_of_ble_eq_true rfl) d_M_rank_49
  · have g1 := g1
    refine lv_iload_n hx hb d_M_rank_6 rfl (lv_at hl 0 rfl) ?_
    refine lv_bipush (v := 45) hx hb d_M_rank_7 (by decide) ?_
    refine lv_icmp_ne hx hb d_M_rank_9 (tgt := 16) rfl (fun g2 => ?_) (fun g2 => ?_)
    · have g2 := g2
      refine lv_iload_n hx hb d_M_rank_16 rfl (lv_at hl 0 rfl) ?_
      refine lv_bipush (v := 42) hx hb d_M_rank_17 (by decide) ?_
      refine lv_icmp_eq hx hb d_M_rank_19 (tgt := 34) rfl (fun g3 => ?_) (fun g3 => ?_)
      · have g3 := g3
        refine lv_iconst (v := 2) hx hb d_M_rank_34 (by decide) ?_
        refine lv_goto hx hb d_M_rank_35 (tgt := 49) rfl ?_
        exact rfI hx hb hr hlk hS () (by simp [rkN, *]; rfl) hP hD (Nat.le_of_ble_eq_true rfl) (Nat.le_of_ble_eq_true rfl) d_M_rank_49
      · have g3 := g3
        refine lv_iload_n hx hb d_M_rank_22 rfl (lv_at hl 0 rfl) ?_
        refine lv_bipush (v := 47) hx hb d_M_rank_23 (by decide) ?_
        refine lv_icmp_eq hx hb d_M_rank_25 (tgt := 34) rfl (fun g4 => ?_) (fun g4 => ?_)
        · have g4 := g4
          refine lv_iconst (v := 2) hx hb d_M_rank_34 (by decide) ?_
          refine lv_goto hx hb d_M_rank_35 (tgt := 49) rfl ?_
          exact rfI hx hb hr hlk hS () (by simp [rkN, *]; rfl) hP hD (Nat.le_of_ble_eq_true rfl) (Nat.le_of_ble_eq_true rfl) d_M_rank_49
        · have g4 := g4
          refine lv_iload_n hx hb d_M_rank_28 rfl (lv_at hl 0 rfl) ?_
          refine lv_bipush (v := 37) hx hb d_M_rank_29 (by decide) ?_
          refine lv_icmp_ne hx hb d_M_rank_31 (tgt := 38) rfl (fun g5 => ?_) (fun g5 => ?_)
          · have g5 := g5
            refine lv_iload_n hx hb d_M_rank_38 rfl (lv_at hl 0 rfl) ?_
            refine lv_bipush (v := 109) hx hb d_M_rank_39 (by decide) ?_
            refine lv_icmp_ne hx hb d_M_rank_41 (tgt := 48) rfl (fun g6 => ?_) (fun g6 => ?_)
            · have g6 := g6
              refine lv_iconst (v := 0) hx hb d_M_rank_48 (by decide) ?_
              exact rfI hx hb hr hlk hS () (by simp [rkN, *]; rfl) hP hD (Nat.le_of_ble_eq_true rfl) (Nat.le_of_ble_eq_true rfl) d_M_rank_49
            · have g6 := g6
              refine lv_iconst (v := 3) hx hb d_M_rank_44 (by decide) ?_
              refine lv_goto hx hb d_M_rank_45 (tgt := 49) rfl ?_
              exact rfI hx hb hr hlk hS () (by simp [rkN, *]; rfl) hP hD (Nat.le_of_ble_eq_true rfl) (Nat.le_of_ble_eq_true rfl) d_M_rank_49
          · have g5 := g5
            refine lv_iconst (v := 2) hx hb d_M_rank_34 (by decide) ?_
            refine lv_goto hx hb d_M_rank_35 (tgt := 49) rfl ?_
            exact rfI hx hb hr hlk hS () (by simp [rkN, *]; rfl) hP hD (Nat.le_of_ble_eq_true rfl) (Nat.le_of_ble_eq_true rfl) d_M_rank_49
    · have g2 := g2
      refine lv_iconst (v := 1) hx hb d_M_rank_12 (by decide) ?_
      refine lv_goto hx hb d_M_rank_13 (tgt := 49) rfl ?_
      exact rfI hx hb hr hlk hS () (by simp [rkN, *]; rfl) hP hD (Nat.le_of_ble_eq_true rfl) (Nat.le_of_ble_eq_true rfl) d_M_rank_49
end
