def MS.blw (x : MS) (k j : Nat) : Bool := !decide (0 ≤ cmpT x.tape (x.labels (4 * j)) (x.labels (4 * j + 1)) (x.labels (4 * k)) (x.labels (4 * k + 1)))
/-- the label with t others below it -/
def MS.whG (x : MS) (t : Nat) : Nat → Nat
  | 0 => 0
  | k + 1 => if cnt x.labelCount (x.blw k) = t then k else x.whG t k
theorem whG_t {x : MS} {t k : Nat} (h : cnt x.labelCount (x.blw k) = t) : x.whG t (k + 1) = k := if_pos h
theorem whG_f {x : MS} {t k : Nat} (h : ¬ cnt x.labelCount (x.blw k) = t) : x.whG t (k + 1) = x.whG t k := if_neg h
theorem whG_lt (x : MS) (t : Nat) : ∀ k, 0 < k → x.whG t k < k
  | 0, h => absurd h (Nat.lt_irrefl 0)
  | k + 1, _ => by
    by_cases h : cnt x.labelCount (x.blw k) = t
    · rw [whG_t h]; omega
    · rw [whG_f h]
      rcases Nat.eq_zero_or_pos k with e | e
      · subst e; exact Nat.lt_succ_self 0
      · have := whG_lt x t k e; omega
/-- bytes f (a ..) laid from place b on -/
def cpG (f tx : Nat → Int32) (a b : Nat) : Nat → Nat → Int32
  | 0 => tx
  | j + 1 => va_up (cpG f tx a b j) (b + j) (f (a + j))
def MS.wh (x : MS) (t : Nat) : Nat := x.whG t x.labelCount
def MS.lbL (x : MS) (w : Nat) : Nat := x.labels (4 * w + 2) + x.labels (4 * w + 3) - x.labels (4 * w)
/-- t labels laid in order: the bytes, how many -/
def MS.layT (x : MS) : Nat → (Nat → Int32) × Nat
  | 0 => (x.texts, 0)
  | t + 1 => if t = 0 then (cpG x.tape (x.layT t).1 (x.labels (4 * x.wh t)) (304 * x.seriesCount + (x.layT t).2) (x.lbL (x.wh t)), (x.layT t).2 + x.lbL (x.wh t))
    else (cpG x.tape (va_up (x.layT t).1 (304 * x.seriesCount + (x.layT t).2) 44) (x.labels (4 * x.wh t)) (304 * x.seriesCount + ((x.layT t).2 + 1)) (x.lbL (x.wh t)), (x.layT t).2 + 1 + x.lbL (x.wh t))
def labOk (g : Nat → Nat) (L c : Nat) : Prop := ∀ k, k < c → g (4 * k + 1) ≤ 24 ∧ g (4 * k + 2) = g (4 * k) + g (4 * k + 1) + 1 ∧ g (4 * k + 3) ≤ 24 ∧ g (4 * k + 2) + g (4 * k + 3) ≤ L
def byteF (f : Nat → Int32) : Prop := ∀ q, (f q).toInt8.toInt32 = f q
theorem byteF_n {f : Nat → Int32} (h : byteF f) (q : Nat) : vp_nar .byte (f q) = f q := by
  rw [← h q]
  exact pk_vb _
theorem layT_0 {x : MS} {t n m : Nat} {tx : Nat → Int32} (h : x.layT t = (tx, n)) (ht : t = 0) (hm : x.lbL (x.wh t) = m) : x.layT (t + 1) = (cpG x.tape tx (x.labels (4 * x.wh t)) (304 * x.seriesCount + n) m, n + m) := by
  show (if t = 0 then _ else _) = _
  rw [if_pos ht, h, hm]
theorem layT_1 {x : MS} {t n m : Nat} {tx : Nat → Int32} (h : x.layT t = (tx, n)) (ht : ¬ t = 0) (hm : x.lbL (x.wh t) = m) : x.layT (t + 1) = (cpG x.tape (va_up tx (304 * x.seriesCount + n) 44) (x.labels (4 * x.wh t)) (304 * x.seriesCount + (n + 1)) m, n + 1 + m) := by
  show (if t = 0 then _ else _) = _
  rw [if_neg ht, h, hm]
theorem d_M_layText_0 : decode prog_14_method_25_code 0 = .ok (.sipush 304, 3) := by decide +kernel
theorem d_M_layText_3 : decode prog_14_method_25_code 3 = .ok (.aload_n 0, 1) := by decide +kernel
theorem d_M_layText_4 : decode prog_14_method_25_code 4 = .ok (.getfield 160, 3) := by decide +kernel
theorem d_M_layText_7 : decode prog_14_method_25_code 7 = .ok (.imul, 1) := by decide +kernel
theorem d_M_layText_8 : decode prog_14_method_25_code 8 = .ok (.istore_n 1, 1) := by decide +kernel
theorem d_M_layText_9 : decode prog_14_method_25_code 9 = .ok (.iconst 0, 1) := by decide +kernel
theorem d_M_layText_10 : decode prog_14_method_25_code 10 = .ok (.istore_n 2, 1) := by decide +kernel
theorem d_M_layText_11 : decode prog_14_method_25_code 11 = .ok (.iconst 0, 1) := by decide +kernel
theorem d_M_layText_12 : decode prog_14_method_25_code 12 = .ok (.istore_n 3, 1) := by decide +kernel
theorem d_M_layText_13 : decode prog_14_method_25_code 13 = .ok (.iload_n 3, 1) := by decide +kernel
theorem d_M_layText_14 : decode prog_14_method_25_code 14 = .ok (.aload_n 0, 1) := by decide +kernel
theorem d_M_layText_15 : decode prog_14_method_25_code 15 = .ok (.getfield 217, 3) := by decide +kernel
theorem d_M_layText_18 : decode prog_14_method_25_code 18 = .ok (.if_icmp .ge 211, 3) := by decide +kernel
theorem d_M_layText_229 : decode prog_14_method_25_code 229 = .ok (.iload_n 2, 1) := by decide +kernel
theorem d_M_layText_230 : decode prog_14_method_25_code 230 = .ok (.ireturn, 1) := by decide +kernel
theorem d_M_layText_152 : decode prog_14_method_25_code 152 = .ok (.aload_n 0, 1) := by decide +kernel
theorem d_M_layText_153 : decode prog_14_method_25_code 153 = .ok (.getfield 85, 3) := by decide +kernel
theorem d_M_layText_156 : decode prog_14_method_25_code 156 = .ok (.iconst 4, 1) := by decide +kernel
theorem d_M_layText_157 : decode prog_14_method_25_code 157 = .ok (.iload 4, 2) := by decide +kernel
theorem d_M_layText_159 : decode prog_14_method_25_code 159 = .ok (.imul, 1) := by decide +kernel
theorem d_M_layText_160 : decode prog_14_method_25_code 160 = .ok (.iaload, 1) := by decide +kernel
theorem d_M_layText_161 : decode prog_14_method_25_code 161 = .ok (.istore 5, 2) := by decide +kernel
theorem d_M_layText_163 : decode prog_14_method_25_code 163 = .ok (.aload_n 0, 1) := by decide +kernel
theorem d_M_layText_164 : decode prog_14_method_25_code 164 = .ok (.getfield 85, 3) := by decide +kernel
theorem d_M_layText_167 : decode prog_14_method_25_code 167 = .ok (.iconst 4, 1) := by decide +kernel
theorem d_M_layText_168 : decode prog_14_method_25_code 168 = .ok (.iload 4, 2) := by decide +kernel
theorem d_M_layText_170 : decode prog_14_method_25_code 170 = .ok (.imul, 1) := by decide +kernel
theorem d_M_layText_171 : decode prog_14_method_25_code 171 = .ok (.iconst 2, 1) := by decide +kernel
theorem d_M_layText_172 : decode prog_14_method_25_code 172 = .ok (.iadd, 1) := by decide +kernel
theorem d_M_layText_173 : decode prog_14_method_25_code 173 = .ok (.iaload, 1) := by decide +kernel
theorem d_M_layText_174 : decode prog_14_method_25_code 174 = .ok (.aload_n 0, 1) := by decide +kernel
theorem d_M_layText_175 : decode prog_14_method_25_code 175 = .ok (.getfield 85, 3) := by decide +kernel
theorem d_M_layText_178 : decode prog_14_method_25_code 178 = .ok (.iconst 4, 1) := by decide +kernel
theorem d_M_layText_179 : decode prog_14_method_25_code 179 = .ok (.iload 4, 2) := by decide +kernel
theorem d_M_layText_181 : decode prog_14_method_25_code 181 = .ok (.imul, 1) := by decide +kernel
theorem d_M_layText_182 : decode prog_14_method_25_code 182 = .ok (.iconst 3, 1) := by decide +kernel
theorem d_M_layText_183 : decode prog_14_method_25_code 183 = .ok (.iadd, 1) := by decide +kernel
theorem d_M_layText_184 : decode prog_14_method_25_code 184 = .ok (.iaload, 1) := by decide +kernel
theorem d_M_layText_185 : decode prog_14_method_25_code 185 = .ok (.iadd, 1) := by decide +kernel
theorem d_M_layText_186 : decode prog_14_method_25_code 186 = .ok (.istore 6, 2) := by decide +kernel
theorem d_M_layText_188 : decode prog_14_method_25_code 188 = .ok (.iload 5, 2) := by decide +kernel
theorem d_M_layText_190 : decode prog_14_method_25_code 190 = .ok (.istore 7, 2) := by decide +kernel
theorem d_M_layText_192 : decode prog_14_method_25_code 192 = .ok (.iload 7, 2) := by decide +kernel
theorem d_M_layText_194 : decode prog_14_method_25_code 194 = .ok (.iload 6, 2) := by decide +kernel
theorem d_M_layText_196 : decode prog_14_method_25_code 196 = .ok (.if_icmp .ge 27, 3) := by decide +kernel
theorem d_M_layText_223 : decode prog_14_method_25_code 223 = .ok (.iinc 3 1, 3) := by decide +kernel
theorem d_M_layText_226 : decode prog_14_method_25_code 226 = .ok (.goto (-213), 3) := by decide +kernel
theorem d_M_layText_199 : decode prog_14_method_25_code 199 = .ok (.aload_n 0, 1) := by decide +kernel
theorem d_M_layText_200 : decode prog_14_method_25_code 200 = .ok (.getfield 29, 3) := by decide +kernel
theorem d_M_layText_203 : decode prog_14_method_25_code 203 = .ok (.iload_n 1, 1) := by decide +kernel
theorem d_M_layText_204 : decode prog_14_method_25_code 204 = .ok (.iload_n 2, 1) := by decide +kernel
theorem d_M_layText_205 : decode prog_14_method_25_code 205 = .ok (.iadd, 1) := by decide +kernel
theorem d_M_layText_206 : decode prog_14_method_25_code 206 = .ok (.aload_n 0, 1) := by decide +kernel
theorem d_M_layText_207 : decode prog_14_method_25_code 207 = .ok (.getfield 8, 3) := by decide +kernel
theorem d_M_layText_210 : decode prog_14_method_25_code 210 = .ok (.iload 7, 2) := by decide +kernel
theorem d_M_layText_212 : decode prog_14_method_25_code 212 = .ok (.baload, 1) := by decide +kernel
theorem d_M_layText_213 : decode prog_14_method_25_code 213 = .ok (.bastore, 1) := by decide +kernel
theorem d_M_layText_214 : decode prog_14_method_25_code 214 = .ok (.iinc 2 1, 3) := by decide +kernel
theorem d_M_layText_217 : decode prog_14_method_25_code 217 = .ok (.iinc 7 1, 3) := by decide +kernel
theorem d_M_layText_220 : decode prog_14_method_25_code 220 = .ok (.goto (-28), 3) := by decide +kernel
theorem d_M_layText_135 : decode prog_14_method_25_code 135 = .ok (.iload_n 3, 1) := by decide +kernel
theorem d_M_layText_136 : decode prog_14_method_25_code 136 = .ok (.ifCond .le 16, 3) := by decide +kernel
theorem d_M_layText_139 : decode prog_14_method_25_code 139 = .ok (.aload_n 0, 1) := by decide +kernel
theorem d_M_layText_140 : decode prog_14_method_25_code 140 = .ok (.getfield 29, 3) := by decide +kernel
theorem d_M_layText_143 : decode prog_14_method_25_code 143 = .ok (.iload_n 1, 1) := by decide +kernel
theorem d_M_layText_144 : decode prog_14_method_25_code 144 = .ok (.iload_n 2, 1) := by decide +kernel
theorem d_M_layText_145 : decode prog_14_method_25_code 145 = .ok (.iadd, 1) := by decide +kernel
theorem d_M_layText_146 : decode prog_14_method_25_code 146 = .ok (.bipush 44, 2) := by decide +kernel
theorem d_M_layText_148 : decode prog_14_method_25_code 148 = .ok (.bastore, 1) := by decide +kernel
theorem d_M_layText_149 : decode prog_14_method_25_code 149 = .ok (.iinc 2 1, 3) := by decide +kernel
theorem d_M_layText_21 : decode prog_14_method_25_code 21 = .ok (.iconst 0, 1) := by decide +kernel
theorem d_M_layText_22 : decode prog_14_method_25_code 22 = .ok (.istore 4, 2) := by decide +kernel
theorem d_M_layText_24 : decode prog_14_method_25_code 24 = .ok (.iconst 0, 1) := by decide +kernel
theorem d_M_layText_25 : decode prog_14_method_25_code 25 = .ok (.istore 5, 2) := by decide +kernel
theorem d_M_layText_27 : decode prog_14_method_25_code 27 = .ok (.iload 5, 2) := by decide +kernel
theorem d_M_layText_29 : decode prog_14_method_25_code 29 = .ok (.aload_n 0, 1) := by decide +kernel
theorem d_M_layText_30 : decode prog_14_method_25_code 30 = .ok (.getfield 217, 3) := by decide +kernel
theorem d_M_layText_33 : decode prog_14_method_25_code 33 = .ok (.if_icmp .ge 102, 3) := by decide +kernel
theorem d_M_layText_114 : decode prog_14_method_25_code 114 = .ok (.iload 6, 2) := by decide +kernel
theorem d_M_layText_116 : decode prog_14_method_25_code 116 = .ok (.iload_n 3, 1) := by decide +kernel
theorem d_M_layText_117 : decode prog_14_method_25_code 117 = .ok (.if_icmp .ne 8, 3) := by decide +kernel
theorem d_M_layText_125 : decode prog_14_method_25_code 125 = .ok (.iload 4, 2) := by decide +kernel
theorem d_M_layText_127 : decode prog_14_method_25_code 127 = .ok (.istore 4, 2) := by decide +kernel
theorem d_M_layText_129 : decode prog_14_method_25_code 129 = .ok (.iinc 5 1, 3) := by decide +kernel
theorem d_M_layText_132 : decode prog_14_method_25_code 132 = .ok (.goto (-105), 3) := by decide +kernel
theorem d_M_layText_120 : decode prog_14_method_25_code 120 = .ok (.iload 5, 2) := by decide +kernel
theorem d_M_layText_122 : decode prog_14_method_25_code 122 = .ok (.goto 5, 3) := by decide +kernel
theorem d_M_layText_36 : decode prog_14_method_25_code 36 = .ok (.iconst 0, 1) := by decide +kernel
theorem d_M_layText_37 : decode prog_14_method_25_code 37 = .ok (.istore 6, 2) := by decide +kernel
theorem d_M_layText_39 : decode prog_14_method_25_code 39 = .ok (.iconst 0, 1) := by decide +kernel
theorem d_M_layText_40 : decode prog_14_method_25_code 40 = .ok (.istore 7, 2) := by decide +kernel
theorem d_M_layText_42 : decode prog_14_method_25_code 42 = .ok (.iload 7, 2) := by decide +kernel
theorem d_M_layText_44 : decode prog_14_method_25_code 44 = .ok (.aload_n 0, 1) := by decide +kernel
theorem d_M_layText_45 : decode prog_14_method_25_code 45 = .ok (.getfield 217, 3) := by decide +kernel
theorem d_M_layText_48 : decode prog_14_method_25_code 48 = .ok (.if_icmp .ge 66, 3) := by decide +kernel
theorem d_M_layText_51 : decode prog_14_method_25_code 51 = .ok (.iload 6, 2) := by decide +kernel
theorem d_M_layText_53 : decode prog_14_method_25_code 53 = .ok (.aload_n 0, 1) := by decide +kernel
theorem d_M_layText_54 : decode prog_14_method_25_code 54 = .ok (.aload_n 0, 1) := by decide +kernel
theorem d_M_layText_55 : decode prog_14_method_25_code 55 = .ok (.getfield 85, 3) := by decide +kernel
theorem d_M_layText_58 : decode prog_14_method_25_code 58 = .ok (.iconst 4, 1) := by decide +kernel
theorem d_M_layText_59 : decode prog_14_method_25_code 59 = .ok (.iload 7, 2) := by decide +kernel
theorem d_M_layText_61 : decode prog_14_method_25_code 61 = .ok (.imul, 1) := by decide +kernel
theorem d_M_layText_62 : decode prog_14_method_25_code 62 = .ok (.iaload, 1) := by decide +kernel
theorem d_M_layText_63 : decode prog_14_method_25_code 63 = .ok (.aload_n 0, 1) := by decide +kernel
theorem d_M_layText_64 : decode prog_14_method_25_code 64 = .ok (.getfield 85, 3) := by decide +kernel
theorem d_M_layText_67 : decode prog_14_method_25_code 67 = .ok (.iconst 4, 1) := by decide +kernel
theorem d_M_layText_68 : decode prog_14_method_25_code 68 = .ok (.iload 7, 2) := by decide +kernel
theorem d_M_layText_70 : decode prog_14_method_25_code 70 = .ok (.imul, 1) := by decide +kernel
theorem d_M_layText_71 : decode prog_14_method_25_code 71 = .ok (.iconst 1, 1) := by decide +kernel
theorem d_M_layText_72 : decode prog_14_method_25_code 72 = .ok (.iadd, 1) := by decide +kernel
theorem d_M_layText_73 : decode prog_14_method_25_code 73 = .ok (.iaload, 1) := by decide +kernel
theorem d_M_layText_74 : decode prog_14_method_25_code 74 = .ok (.aload_n 0, 1) := by decide +kernel
theorem d_M_layText_75 : decode prog_14_method_25_code 75 = .ok (.getfield 85, 3) := by decide +kernel
theorem d_M_layText_78 : decode prog_14_method_25_code 78 = .ok (.iconst 4, 1) := by decide +kernel
theorem d_M_layText_79 : decode prog_14_method_25_code 79 = .ok (.iload 5, 2) := by decide +kernel
theorem d_M_layText_81 : decode prog_14_method_25_code 81 = .ok (.imul, 1) := by decide +kernel
theorem d_M_layText_82 : decode prog_14_method_25_code 82 = .ok (.iaload, 1) := by decide +kernel
theorem d_M_layText_83 : decode prog_14_method_25_code 83 = .ok (.aload_n 0, 1) := by decide +kernel
theorem d_M_layText_84 : decode prog_14_method_25_code 84 = .ok (.getfield 85, 3) := by decide +kernel
theorem d_M_layText_87 : decode prog_14_method_25_code 87 = .ok (.iconst 4, 1) := by decide +kernel
theorem d_M_layText_88 : decode prog_14_method_25_code 88 = .ok (.iload 5, 2) := by decide +kernel
theorem d_M_layText_90 : decode prog_14_method_25_code 90 = .ok (.imul, 1) := by decide +kernel
theorem d_M_layText_91 : decode prog_14_method_25_code 91 = .ok (.iconst 1, 1) := by decide +kernel
theorem d_M_layText_92 : decode prog_14_method_25_code 92 = .ok (.iadd, 1) := by decide +kernel
theorem d_M_layText_93 : decode prog_14_method_25_code 93 = .ok (.iaload, 1) := by decide +kernel
theorem d_M_layText_94 : decode prog_14_method_25_code 94 = .ok (.invokevirtual 228, 3) := by decide +kernel
theorem d_M_layText_97 : decode prog_14_method_25_code 97 = .ok (.ifCond .ge 7, 3) := by decide +kernel
theorem d_M_layText_104 : decode prog_14_method_25_code 104 = .ok (.iconst 0, 1) := by decide +kernel
theorem d_M_layText_105 : decode prog_14_method_25_code 105 = .ok (.iadd, 1) := by decide +kernel
theorem d_M_layText_106 : decode prog_14_method_25_code 106 = .ok (.istore 6, 2) := by decide +kernel
theorem d_M_layText_108 : decode prog_14_method_25_code 108 = .ok (.iinc 7 1, 3) := by decide +kernel
theorem d_M_layText_111 : decode prog_14_method_25_code 111 = .ok (.goto (-69), 3) := by decide +kernel
theorem d_M_layText_100 : decode prog_14_method_25_code 100 = .ok (.iconst 1, 1) := by decide +kernel
theorem d_M_layText_101 : decode prog_14_method_25_code 101 = .ok (.goto 4, 3) := by decide +kernel
set_option maxHeartbeats 4000000 in
set_option maxRecDepth 100000 in
theorem k_layText (l : Launch) (D : va_G) (dA : Nat → ClassId) (sz : Nat) (h : Nat) (ad : Nat → Nat) (x : MS) (h1 : x.seriesCount ≤ 256) (hc6 : x.labelCount ≤ 6) (hlb : labOk x.labels x.length x.labelCount) (hl1 : x.length ≤ 65536) (hby : byteF x.tape) : Met l ⟨"SeriesVaultModel", "layText", "()I"⟩ [Cond.code ⟨"SeriesVaultModel", "layText", "()I"⟩ prog_14_method_25_code 8 (some FieldType.int)] { frames := 2, cells := 0, slots := 0, locals := 25 } (pC D dA [.ref h] (MW dA h ad x) sz) (va_Qi (fun (r9 : Int32) (u9 : Unit) => r9 = nI (x.layT x.labelCount).2) (fun (u9 : Unit) t9 => bW D (va_A (MW dA h ad x) sz) (MW dA h ad (MS.s_texts x ((x.layT x.labelCount).1))) t9) (va_A (MW dA h ad x) sz)) 0 0 (va_A (MW dA h ad x) sz) := by
  refine mkC (y := ⟨"SeriesVaultModel", "layText", "()I"⟩) (cc := prog_14_method_25_code) (maxL := 8) (av := [.ref h]) (ws := MW dA h ad x) (sz := sz) (Qc := fun A => va_Qi (fun (r9 : Int32) (u9 : Unit) => r9 = nI (x.layT x.labelCount).2) (fun (u9 : Unit) t9 => bW D A (MW dA h ad (MS.s_texts x ((x.layT x.labelCount).1))) t9) A) (by decide) (Nat.le_of_ble_eq_true rfl) ?_
  intro A p e s m below meth c ls hsz hB
  obtain ⟨hx, hb, hr, hml, hown, hin, hlk, hE, hK, hP, hD, hS, hA, hN, hl⟩ := hB
  have hown : s.vm.findClass "SeriesVaultModel" = some m.cls := hown
  have hl : lv_has ls 8 [(0, .ref h)] := hl
  obtain ⟨H, hH⟩ : ∃ z, z = s.heap := ⟨_, rfl⟩
  have hP : va_P D vwCl (MW dA h ad x) H := by rw [hH]; exact hP
  have hS : va_S A s.heap H [] := by rw [hH]; exact hS
  rw [← hH]
  refine lv_sipush (v := 304) hx hb d_M_layText_0 (by decide) ?_
  refine lv_aload_n hx hb d_M_layText_3 rfl (lv_at hl 0 rfl) ?_
  refine gF (v := .int (nI x.seriesCount)) hx hb hown hE hK hP 0 rfl rfl layM 12 (by decide) w332 rfl d_M_layText_4 ?_
  refine lv_imul hx hb d_M_layText_7 (tpi (y := nI (304 * x.seriesCount)) (pk_mul (304) (x.seriesCount)) ?_)
  refine lv_istore_n hx hb d_M_layText_8 rfl hl (by decide) rfl (fun ls hl => ?_)
  have hl : lv_has ls 8 [(1, .int (nI (304 * x.seriesCount))), (0, .ref h)] := hl
  refine lv_iconst (v := 0) hx hb d_M_layText_9 (by decide) ?_
  refine lv_istore_n hx hb d_M_layText_10 rfl hl (by decide) rfl (fun ls hl => ?_)
  have hl : lv_has ls 8 [(2, .int 0), (1, .int (nI (304 * x.seriesCount))), (0, .ref h)] := hl
  refine lv_iconst (v := 0) hx hb d_M_layText_11 (by decide) ?_
  refine lv_istore_n hx hb d_M_layText_12 rfl hl (by decide) rfl (fun ls hl => ?_)
  have hl : lv_has ls 8 [(3, .int 0), (2, .int 0), (1, .int (nI (304 * x.seriesCount))), (0, .ref h)] := hl
  have L13 : ∀ (k9 : Nat) (t : Nat) (n : Nat) (tx : Nat → Int32) (i1 : t ≤ x.labelCount) (i2 : x.layT t = (tx, n)) (i3 : n ≤ 50 * t) (hk9 : x.labelCount - t = k9), ∀ (H : Heap) (locs : List Loc) (ls : Array Slot) (hP : va_P D vwCl (MW dA h ad (MS.s_texts x tx)) H) (hD : va_D A (MW dA h ad (MS.s_texts x tx))) (hS : va_S A s.heap H locs) (hl : lv_has ls 8 [(3, .int (nI t)), (2, .int (nI n)), (1, .int (nI (304 * x.seriesCount))), (0, .ref h)]), W p l e ({ frames := 2, cells := 0, slots := 0, locals := 25 } : Room) s m ([.ref h] : List Value).toArray below meth c H locs 0 0 (MQ below (va_Qi (fun (r9 : Int32) (u9 : Unit) => r9 = nI (x.layT x.labelCount).2) (fun (u9 : Unit) t9 => bW D A (MW dA h ad (MS.s_texts x ((x.layT x.labelCount).1))) t9) A) ([.ref h] : List Value).toArray s 0 0 A) (F0 m 13 ls []) := by
    intro k9
    induction k9 using Nat.strongRecOn with
    | ind k9 ih13 =>
      intro t n tx i1 i2 i3 hk9 H locs ls hP hD hS hl
      refine lv_iload_n hx hb d_M_layText_13 rfl (lv_at hl 0 rfl) ?_
      refine lv_aload_n hx hb d_M_layText_14 rfl (lv_at hl 3 rfl) ?_
      refine gF (v := .int (nI x.labelCount)) hx hb hown hE hK hP 0 rfl rfl layM 43 (by decide) w425 rfl d_M_layText_15 ?_
      refine lv_icmp_ge hx hb d_M_layText_18 (tgt := 229) rfl (fun g1 => ?_) (fun g1 => ?_)
      · have g1 := (nI_leI (a := x.labelCount) (b := t) (by omega) (by omega)).mp g1
        refine lv_iload_n hx hb d_M_layText_229 rfl (lv_at hl 1 rfl) ?_
        have e9 : (MS.s_texts x tx : MS) = MS.s_texts x ((x.layT x.labelCount).1) := by rw [show ((x.layT x.labelCount).1) = tx from by (rw [← show t = x.labelCount by omega, i2])] <;> rfl
        exact rfI hx hb hr hlk hS () (by rw [← show t = x.labelCount by omega, i2]) (cvP e9 hP) (cvD e9 hD) (Nat.le_of_ble_eq_true rfl) (Nat.le_of_ble_eq_true rfl) d_M_layText_230
      · have g1 := mt (nI_leI (a := x.labelCount) (b := t) (by omega) (by omega)).mpr g1
        have J135 : ∀ (wv : Nat) (i9 : x.wh t = wv), ∀ (H : Heap) (locs : List Loc) (ls : Array Slot) (hP : va_P D vwCl (MW dA h ad (MS.s_texts x tx)) H) (hD : va_D A (MW dA h ad (MS.s_texts x tx))) (hS : va_S A s.heap H locs) (hl : lv_has ls 8 [(4, .int (nI wv)), (3, .int (nI t)), (2, .int (nI n)), (1, .int (nI (304 * x.seriesCount))), (0, .ref h)]), W p l e ({ frames := 2, cells := 0, slots := 0, locals := 25 } : Room) s m ([.ref h] : List Value).toArray below meth c H locs 0 0 (MQ below (va_Qi (fun (r9 : Int32) (u9 : Unit) => r9 = nI (x.layT x.labelCount).2) (fun (u9 : Unit) t9 => bW D A (MW dA h ad (MS.s_texts x ((x.layT x.labelCount).1))) t9) A) ([.ref h] : List Value).toArray s 0 0 A) (F0 m 135 ls []) := by
          intro wv i9 H locs ls hP hD hS hl
          have w1 : wv < x.labelCount := by rw [← i9]; exact whG_lt x t x.labelCount (by omega)
          have w2 := hlb wv w1
          have w3 := w2.1
          have w4 := w2.2.1
          have w5 := w2.2.2.1
          have w6 := w2.2.2.2
          have J152 : ∀ (n2 : Nat) (t2 : Nat → Int32) (p1 : n2 ≤ n + 1) (p2 : x.layT (t + 1) = (cpG x.tape t2 (x.labels (4 * wv)) (304 * x.seriesCount + n2) (x.lbL wv), n2 + x.lbL wv)), ∀ (H : Heap) (locs : List Loc) (ls : Array Slot) (hP : va_P D vwCl (MW dA h ad (MS.s_texts x t2)) H) (hD : va_D A (MW dA h ad (MS.s_texts x t2))) (hS : va_S A s.heap H locs) (hl : lv_has ls 8 [(2, .int (nI n2)), (4, .int (nI wv)), (3, .int (nI t)), (1, .int (nI (304 * x.seriesCount))), (0, .ref h)]), W p l e ({ frames := 2, cells := 0, slots := 0, locals := 25 } : Room) s m ([.ref h] : List Value).toArray below meth c H locs 0 0 (MQ below (va_Qi (fun (r9 : Int32) (u9 : Unit) => r9 = nI (x.layT x.labelCount).2) (fun (u9 : Unit) t9 => bW D A (MW dA h ad (MS.s_texts x ((x.layT x.labelCount).1))) t9) A) ([.ref h] : List Value).toArray s 0 0 A) (F0 m 152 ls []) := by
            intro n2 t2 p1 p2 H locs ls hP hD hS hl
            refine lv_aload_n hx hb d_M_layText_152 rfl (lv_at hl 4 rfl) ?_
            refine gF (v := .ref (ad 42)) hx hb hown hE hK hP 0 rfl rfl layM 42 (by decide) w517 rfl d_M_layText_153 ?_
            refine lv_iconst (v := 4) hx hb d_M_layText_156 (by decide) ?_
            refine lv_iload hx hb d_M_layText_157 (lv_at hl 1 rfl) ?_
            refine lv_imul hx hb d_M_layText_159 (tpi (y := nI (4 * wv)) (pk_mul (4) (wv)) ?_)
            refine nild (f := (fun z9 => nI (x.labels z9))) hx hb hK hP 20 1 rfl rfl (4 * wv) (by omega) (by decide) d_M_layText_160 ?_
            refine lv_istore hx hb d_M_layText_161 hl (by decide) rfl (fun ls hl => ?_)
            have hl : lv_has ls 8 [(5, .int (nI (x.labels (4 * wv)))), (2, .int (nI n2)), (4, .int (nI wv)), (3, .int (nI t)), (1, .int (nI (304 * x.seriesCount))), (0, .ref h)] := hl
            refine lv_aload_n hx hb d_M_layText_163 rfl (lv_at hl 5 rfl) ?_
            refine gF (v := .ref (ad 42)) hx hb hown hE hK hP 0 rfl rfl layM 42 (by decide) w517 rfl d_M_layText_164 ?_
            refine lv_iconst (v := 4) hx hb d_M_layText_167 (by decide) ?_
            refine lv_iload hx hb d_M_layText_168 (lv_at hl 2 rfl) ?_
            refine lv_imul hx hb d_M_layText_170 (tpi (y := nI (4 * wv)) (pk_mul (4) (wv)) ?_)
            refine lv_iconst (v := 2) hx hb d_M_layText_171 (by decide) ?_
            refine lv_iadd hx hb d_M_layText_172 (tpi (y := nI ((4 * wv) + 2)) (nI_add (4 * wv) (2)) ?_)
            refine nild (f := (fun z9 => nI (x.labels z9))) hx hb hK hP 20 1 rfl rfl ((4 * wv) + 2) (by omega) (by decide) d_M_layText_173 ?_
            refine lv_aload_n hx hb d_M_layText_174 rfl (lv_at hl 5 rfl) ?_
            refine gF (v := .ref (ad 42)) hx hb hown hE hK hP 0 rfl rfl layM 42 (by decide) w517 rfl d_M_layText_175 ?_
            refine lv_iconst (v := 4) hx hb d_M_layText_178 (by decide) ?_
            refine lv_iload hx hb d_M_layText_179 (lv_at hl 2 rfl) ?_
            refine lv_imul hx hb d_M_layText_181 (tpi (y := nI (4 * wv)) (pk_mul (4) (wv)) ?_)
            refine lv_iconst (v := 3) hx hb d_M_layText_182 (by decide) ?_
            refine lv_iadd hx hb d_M_layText_183 (tpi (y := nI ((4 * wv) + 3)) (nI_add (4 * wv) (3)) ?_)
            refine nild (f := (fun z9 => nI (x.labels z9))) hx hb hK hP 20 1 rfl rfl ((4 * wv) + 3) (by omega) (by decide) d_M_layText_184 ?_
            refine lv_iadd hx hb d_M_layText_185 (tpi (y := nI ((x.labels ((4 * wv) + 2)) + (x.labels ((4 * wv) + 3)))) (nI_add (x.labels ((4 * wv) + 2)) (x.labels ((4 * wv) + 3))) ?_)
            refine lv_istore hx hb d_M_layText_186 hl (by decide) rfl (fun ls hl => ?_)
            have hl : lv_has ls 8 [(6, .int (nI ((x.labels ((4 * wv) + 2)) + (x.labels ((4 * wv) + 3))))), (5, .int (nI (x.labels (4 * wv)))), (2, .int (nI n2)), (4, .int (nI wv)), (3, .int (nI t)), (1, .int (nI (304 * x.seriesCount))), (0, .ref h)] := hl
            refine lv_iload hx hb d_M_layText_188 (lv_at hl 1 rfl) ?_
            refine lv_istore hx hb d_M_layText_190 hl (by decide) rfl (fun ls hl => ?_)
            have hl : lv_has ls 8 [(7, .int (nI (x.labels (4 * wv)))), (6, .int (nI ((x.labels ((4 * wv) + 2)) + (x.labels ((4 * wv) + 3))))), (5, .int (nI (x.labels (4 * wv)))), (2, .int (nI n2)), (4, .int (nI wv)), (3, .int (nI t)), (1, .int (nI (304 * x.seriesCount))), (0, .ref h)] := hl
            have L192 : ∀ (k9 : Nat) (r : Nat) (m1 : r ≤ x.lbL wv) (hk9 : x.lbL wv - r = k9), ∀ (H : Heap) (locs : List Loc) (ls : Array Slot) (hP : va_P D vwCl (MW dA h ad (MS.s_texts x (cpG x.tape t2 (x.labels (4 * wv)) (304 * x.seriesCount + n2) r))) H) (hD : va_D A (MW dA h ad (MS.s_texts x (cpG x.tape t2 (x.labels (4 * wv)) (304 * x.seriesCount + n2) r)))) (hS : va_S A s.heap H locs) (hl : lv_has ls 8 [(7, .int (nI (x.labels (4 * wv) + r))), (6, .int (nI (x.labels ((4 * wv) + 2) + x.labels ((4 * wv) + 3)))), (5, .int (nI (x.labels (4 * wv)))), (2, .int (nI (n2 + r))), (3, .int (nI t)), (1, .int (nI (304 * x.seriesCount))), (0, .ref h)]), W p l e ({ frames := 2, cells := 0, slots := 0, locals := 25 } : Room) s m ([.ref h] : List Value).toArray below meth c H locs 0 0 (MQ below (va_Qi (fun (r9 : Int32) (u9 : Unit) => r9 = nI (x.layT x.labelCount).2) (fun (u9 : Unit) t9 => bW D A (MW dA h ad (MS.s_texts x ((x.layT x.labelCount).1))) t9) A) ([.ref h] : List Value).toArray s 0 0 A) (F0 m 192 ls []) := by
              intro k9
              induction k9 using Nat.strongRecOn with
              | ind k9 ih192 =>
                intro r m1 hk9 H locs ls hP hD hS hl
                have m5 : x.lbL wv = x.labels (4 * wv + 2) + x.labels (4 * wv + 3) - x.labels (4 * wv) := rfl
                have m2 : r ≤ x.labels (4 * wv + 2) + x.labels (4 * wv + 3) - x.labels (4 * wv) := m1
                refine lv_iload hx hb d_M_layText_192 (lv_at hl 0 rfl) ?_
                refine lv_iload hx hb d_M_layText_194 (lv_at hl 1 rfl) ?_
                refine lv_icmp_ge hx hb d_M_layText_196 (tgt := 223) rfl (fun g2 => ?_) (fun g2 => ?_)
                · have g2 := (nI_leI (a := x.labels ((4 * wv) + 2) + x.labels ((4 * wv) + 3)) (b := x.labels (4 * wv) + r) (by omega) (by omega)).mp g2
                  have m3 : r = x.lbL wv := by show r = x.labels (4 * wv + 2) + x.labels (4 * wv + 3) - x.labels (4 * wv); omega
                  have m4 : r ≤ 49 := by omega
                  have it2 : x.layT (t + 1) = (cpG x.tape t2 (x.labels (4 * wv)) (304 * x.seriesCount + n2) r, n2 + r) := by rw [p2, m3]
                  refine lv_iinc (k := 4) (v := nI (t + 1)) hx hb d_M_layText_223 hl rfl (iincN (t) 1 1 (by decide)) (by decide) rfl (fun ls hl => ?_)
                  have hl : lv_has ls 8 [(3, .int (nI (t + 1))), (7, .int (nI (x.labels (4 * wv) + r))), (6, .int (nI (x.labels ((4 * wv) + 2) + x.labels ((4 * wv) + 3)))), (5, .int (nI (x.labels (4 * wv)))), (2, .int (nI (n2 + r))), (1, .int (nI (304 * x.seriesCount))), (0, .ref h)] := hl
                  refine lv_goto hx hb d_M_layText_226 (tgt := 13) rfl ?_
                  exact ih13 _ (by omega) (t + 1) (n2 + r) (cpG x.tape t2 (x.labels (4 * wv)) (304 * x.seriesCount + n2) r) (by omega) it2 (by omega) rfl H _ ls hP hD hS (lv_sub hl [0, 4, 5, 6] rfl)
                · have g2 := mt (nI_leI (a := x.labels ((4 * wv) + 2) + x.labels ((4 * wv) + 3)) (b := x.labels (4 * wv) + r) (by omega) (by omega)).mpr g2
                  refine lv_aload_n hx hb d_M_layText_199 rfl (lv_at hl 6 rfl) ?_
                  refine gF (v := .ref (ad 10)) hx hb hown hE hK hP 0 rfl rfl layM 10 (by decide) w499 rfl d_M_layText_200 ?_
                  refine lv_iload_n hx hb d_M_layText_203 rfl (lv_at hl 5 rfl) ?_
                  refine lv_iload_n hx hb d_M_layText_204 rfl (lv_at hl 3 rfl) ?_
                  refine lv_iadd hx hb d_M_layText_205 (tpi (y := nI ((304 * x.seriesCount) + (n2 + r))) (nI_add (304 * x.seriesCount) (n2 + r)) ?_)
                  refine lv_aload_n hx hb d_M_layText_206 rfl (lv_at hl 6 rfl) ?_
                  refine gF (v := .ref (ad 1)) hx hb hown hE hK hP 0 rfl rfl layM 1 (by decide) w497 rfl d_M_layText_207 ?_
                  refine lv_iload hx hb d_M_layText_210 (lv_at hl 0 rfl) ?_
                  refine nbld (f := x.tape) hx hb hK hP 1 0 rfl rfl (x.labels (4 * wv) + r) (by omega) (by decide) d_M_layText_212 ?_
                  refine nbst hx hb hK hP hD hS 2 0 rfl rfl ((304 * x.seriesCount) + (n2 + r)) (by omega) (by decide) (x.tape (x.labels (4 * wv) + r)) (byteF_n hby _) d_M_layText_213 (fun H locs hP hD hS => ?_)
                  have hP : va_P D vwCl (MW dA h ad (MS.s_texts x (va_up (cpG x.tape t2 (x.labels (4 * wv)) (304 * x.seriesCount + n2) r) ((304 * x.seriesCount) + (n2 + r)) (x.tape (x.labels (4 * wv) + r))))) H := hP
                  have hD : va_D A (MW dA h ad (MS.s_texts x (va_up (cpG x.tape t2 (x.labels (4 * wv)) (304 * x.seriesCount + n2) r) ((304 * x.seriesCount) + (n2 + r)) (x.tape (x.labels (4 * wv) + r))))) := hD
                  refine lv_iinc (k := 3) (v := nI (n2 + r + 1)) hx hb d_M_layText_214 hl rfl (iincN (n2 + r) 1 1 (by decide)) (by decide) rfl (fun ls hl => ?_)
                  have hl : lv_has ls 8 [(2, .int (nI (n2 + r + 1))), (7, .int (nI (x.labels (4 * wv) + r))), (6, .int (nI (x.labels ((4 * wv) + 2) + x.labels ((4 * wv) + 3)))), (5, .int (nI (x.labels (4 * wv)))), (3, .int (nI t)), (1, .int (nI (304 * x.seriesCount))), (0, .ref h)] := hl
                  refine lv_iinc (k := 1) (v := nI ((x.labels (4 * wv) + r) + 1)) hx hb d_M_layText_217 hl rfl (iincN (x.labels (4 * wv) + r) 1 1 (by decide)) (by decide) rfl (fun ls hl => ?_)
                  have hl : lv_has ls 8 [(7, .int (nI ((x.labels (4 * wv) + r) + 1))), (2, .int (nI (n2 + r + 1))), (6, .int (nI (x.labels ((4 * wv) + 2) + x.labels ((4 * wv) + 3)))), (5, .int (nI (x.labels (4 * wv)))), (3, .int (nI t)), (1, .int (nI (304 * x.seriesCount))), (0, .ref h)] := hl
                  refine lv_goto hx hb d_M_layText_220 (tgt := 192) rfl ?_
                  have e9 : (MS.s_texts x (va_up (cpG x.tape t2 (x.labels (4 * wv)) (304 * x.seriesCount + n2) r) ((304 * x.seriesCount) + (n2 + r)) (x.tape (x.labels (4 * wv) + r))) : MS) = MS.s_texts x (cpG x.tape t2 (x.labels (4 * wv)) (304 * x.seriesCount + n2) (r + 1)) := by rw [show (cpG x.tape t2 (x.labels (4 * wv)) (304 * x.seriesCount + n2) (r + 1)) = (va_up (cpG x.tape t2 (x.labels (4 * wv)) (304 * x.seriesCount + n2) r) ((304 * x.seriesCount) + (n2 + r)) (x.tape (x.labels (4 * wv) + r))) from (by first | rfl | (show va_up _ (304 * x.seriesCount + n2 + r) _ = _; rw [Nat.add_assoc]))] <;> rfl
                  exact ih192 _ (by omega) (r + 1) (by show r + 1 ≤ x.labels (4 * wv + 2) + x.labels (4 * wv + 3) - x.labels (4 * wv); omega) rfl H _ ls (cvP e9 hP) (cvD e9 hD) hS (lv_sub hl [0, 2, 3, 1, 4, 5, 6] rfl)
            have e9 : (MS.s_texts x t2 : MS) = MS.s_texts x (cpG x.tape t2 (x.labels (4 * wv)) (304 * x.seriesCount + n2) 0) := by rw [show (cpG x.tape t2 (x.labels (4 * wv)) (304 * x.seriesCount + n2) 0) = t2 from (by first | rfl | (show va_up _ (304 * x.seriesCount + n2 + r) _ = _; rw [Nat.add_assoc]))] <;> rfl
            exact L192 _ 0 (Nat.zero_le _) rfl H _ ls (cvP e9 hP) (cvD e9 hD) hS (lv_sub hl [0, 1, 2, 3, 5, 6, 7] rfl)
          refine lv_iload_n hx hb d_M_layText_135 rfl (lv_at hl 1 rfl) ?_
          refine lv_if_le hx hb d_M_layText_136 (tgt := 152) rfl (fun g3 => ?_) (fun g3 => ?_)
          · have g3 := (nI_leI (a := t) (b := 0) (by omega) (by decide)).mp g3
            exact J152 n tx (by omega) (by have z9 := layT_0 i2 (by omega) rfl; rw [i9] at z9; exact z9) H _ ls hP hD hS (lv_sub hl [2, 0, 1, 3, 4] rfl)
          · have g3 := mt (nI_leI (a := t) (b := 0) (by omega) (by decide)).mpr g3
            refine lv_aload_n hx hb d_M_layText_139 rfl (lv_at hl 4 rfl) ?_
            refine gF (v := .ref (ad 10)) hx hb hown hE hK hP 0 rfl rfl layM 10 (by decide) w499 rfl d_M_layText_140 ?_
            refine lv_iload_n hx hb d_M_layText_143 rfl (lv_at hl 3 rfl) ?_
            refine lv_iload_n hx hb d_M_layText_144 rfl (lv_at hl 2 rfl) ?_
            refine lv_iadd hx hb d_M_layText_145 (tpi (y := nI ((304 * x.seriesCount) + n)) (nI_add (304 * x.seriesCount) (n)) ?_)
            refine lv_bipush (v := 44) hx hb d_M_layText_146 (by decide) ?_
            refine nbst hx hb hK hP hD hS 2 0 rfl rfl ((304 * x.seriesCount) + n) (by omega) (by decide) 44 (by decide) d_M_layText_148 (fun H locs hP hD hS => ?_)
            have hP : va_P D vwCl (MW dA h ad (MS.s_texts x (va_up tx ((304 * x.seriesCount) + n) 44))) H := hP
            have hD : va_D A (MW dA h ad (MS.s_texts x (va_up tx ((304 * x.seriesCount) + n) 44))) := hD
            refine lv_iinc (k := 2) (v := nI (n + 1)) hx hb d_M_layText_149 hl rfl (iincN (n) 1 1 (by decide)) (by decide) rfl (fun ls hl => ?_)
            have hl : lv_has ls 8 [(2, .int (nI (n + 1))), (4, .int (nI wv)), (3, .int (nI t)), (1, .int (nI (304 * x.seriesCount))), (0, .ref h)] := hl
            exact J152 (n + 1) (va_up tx ((304 * x.seriesCount) + n) 44) (by omega) (by have z9 := layT_1 i2 (by omega) rfl; rw [i9] at z9; exact z9) H _ ls hP hD hS (lv_sub hl [0, 1, 2, 3, 4] rfl)
        refine lv_iconst (v := 0) hx hb d_M_layText_21 (by decide) ?_
        refine lv_istore hx hb d_M_layText_22 hl (by decide) rfl (fun ls hl => ?_)
        have hl : lv_has ls 8 [(4, .int 0), (3, .int (nI t)), (2, .int (nI n)), (1, .int (nI (304 * x.seriesCount))), (0, .ref h)] := hl
        refine lv_iconst (v := 0) hx hb d_M_layText_24 (by decide) ?_
        refine lv_istore hx hb d_M_layText_25 hl (by decide) rfl (fun ls hl => ?_)
        have hl : lv_has ls 8 [(5, .int 0), (4, .int 0), (3, .int (nI t)), (2, .int (nI n)), (1, .int (nI (304 * x.seriesCount))), (0, .ref h)] := hl
        have L27 : ∀ (k9 : Nat) (k : Nat) (wv : Nat) (i4 : k ≤ x.labelCount) (i5 : x.whG t k = wv) (hk9 : x.labelCount - k = k9), ∀ (H : Heap) (locs : List Loc) (ls : Array Slot) (hP : va_P D vwCl (MW dA h ad (MS.s_texts x tx)) H) (hD : va_D A (MW dA h ad (MS.s_texts x tx))) (hS : va_S A s.heap H locs) (hl : lv_has ls 8 [(5, .int (nI k)), (4, .int (nI wv)), (3, .int (nI t)), (2, .int (nI n)), (1, .int (nI (304 * x.seriesCount))), (0, .ref h)]), W p l e ({ frames := 2, cells := 0, slots := 0, locals := 25 } : Room) s m ([.ref h] : List Value).toArray below meth c H locs 0 0 (MQ below (va_Qi (fun (r9 : Int32) (u9 : Unit) => r9 = nI (x.layT x.labelCount).2) (fun (u9 : Unit) t9 => bW D A (MW dA h ad (MS.s_texts x ((x.layT x.labelCount).1))) t9) A) ([.ref h] : List Value).toArray s 0 0 A) (F0 m 27 ls []) := by
          intro k9
          induction k9 using Nat.strongRecOn with
          | ind k9 ih27 =>
            intro k wv i4 i5 hk9 H locs ls hP hD hS hl
            refine lv_iload hx hb d_M_layText_27 (lv_at hl 0 rfl) ?_
            refine lv_aload_n hx hb d_M_layText_29 rfl (lv_at hl 5 rfl) ?_
            refine gF (v := .int (nI x.labelCount)) hx hb hown hE hK hP 0 rfl rfl layM 43 (by decide) w425 rfl d_M_layText_30 ?_
            refine lv_icmp_ge hx hb d_M_layText_33 (tgt := 135) rfl (fun g4 => ?_) (fun g4 => ?_)
            · have g4 := (nI_leI (a := x.labelCount) (b := k) (by omega) (by omega)).mp g4
              exact J135 wv (by unfold MS.wh; rw [← show k = x.labelCount by omega]; exact i5) H _ ls hP hD hS (lv_sub hl [1, 2, 3, 4, 5] rfl)
            · have g4 := mt (nI_leI (a := x.labelCount) (b := k) (by omega) (by omega)).mpr g4
              have J114 : ∀ (b : Nat) (i8x : b = cnt x.labelCount (x.blw k)), ∀ (H : Heap) (locs : List Loc) (ls : Array Slot) (hP : va_P D vwCl (MW dA h ad (MS.s_texts x tx)) H) (hD : va_D A (MW dA h ad (MS.s_texts x tx))) (hS : va_S A s.heap H locs) (hl : lv_has ls 8 [(6, .int (nI b)), (5, .int (nI k)), (4, .int (nI wv)), (3, .int (nI t)), (2, .int (nI n)), (1, .int (nI (304 * x.seriesCount))), (0, .ref h)]), W p l e ({ frames := 2, cells := 0, slots := 0, locals := 25 } : Room) s m ([.ref h] : List Value).toArray below meth c H locs 0 0 (MQ below (va_Qi (fun (r9 : Int32) (u9 : Unit) => r9 = nI (x.layT x.labelCount).2) (fun (u9 : Unit) t9 => bW D A (MW dA h ad (MS.s_texts x ((x.layT x.labelCount).1))) t9) A) ([.ref h] : List Value).toArray s 0 0 A) (F0 m 114 ls []) := by
                intro b i8x H locs ls hP hD hS hl
                have b7 := cnt_le x.labelCount (x.blw k)
                refine lv_iload hx hb d_M_layText_114 (lv_at hl 0 rfl) ?_
                refine lv_iload_n hx hb d_M_layText_116 rfl (lv_at hl 3 rfl) ?_
                refine lv_icmp_ne hx hb d_M_layText_117 (tgt := 125) rfl (fun g5 => ?_) (fun g5 => ?_)
                · have g5 := mt (nI_eq (a := b) (b := t) (by omega) (by omega)).mpr g5
                  refine lv_iload hx hb d_M_layText_125 (lv_at hl 2 rfl) ?_
                  refine lv_istore hx hb d_M_layText_127 hl (by decide) rfl (fun ls hl => ?_)
                  have hl : lv_has ls 8 [(4, .int (nI wv)), (6, .int (nI b)), (5, .int (nI k)), (3, .int (nI t)), (2, .int (nI n)), (1, .int (nI (304 * x.seriesCount))), (0, .ref h)] := hl
                  refine lv_iinc (k := 2) (v := nI (k + 1)) hx hb d_M_layText_129 hl rfl (iincN (k) 1 1 (by decide)) (by decide) rfl (fun ls hl => ?_)
                  have hl : lv_has ls 8 [(5, .int (nI (k + 1))), (4, .int (nI wv)), (6, .int (nI b)), (3, .int (nI t)), (2, .int (nI n)), (1, .int (nI (304 * x.seriesCount))), (0, .ref h)] := hl
                  refine lv_goto hx hb d_M_layText_132 (tgt := 27) rfl ?_
                  exact ih27 _ (by omega) (k + 1) wv (by omega) (by rw [whG_f (by rw [← i8x]; exact g5)]; exact i5) rfl H _ ls hP hD hS (lv_sub hl [0, 1, 3, 4, 5, 6] rfl)
                · have g5 := (nI_eq (a := b) (b := t) (by omega) (by omega)).mp g5
                  refine lv_iload hx hb d_M_layText_120 (lv_at hl 1 rfl) ?_
                  refine lv_goto hx hb d_M_layText_122 (tgt := 127) rfl ?_
                  refine lv_istore hx hb d_M_layText_127 hl (by decide) rfl (fun ls hl => ?_)
                  have hl : lv_has ls 8 [(4, .int (nI k)), (6, .int (nI b)), (5, .int (nI k)), (3, .int (nI t)), (2, .int (nI n)), (1, .int (nI (304 * x.seriesCount))), (0, .ref h)] := hl
                  refine lv_iinc (k := 2) (v := nI (k + 1)) hx hb d_M_layText_129 hl rfl (iincN (k) 1 1 (by decide)) (by decide) rfl (fun ls hl => ?_)
                  have hl : lv_has ls 8 [(5, .int (nI (k + 1))), (4, .int (nI k)), (6, .int (nI b)), (3, .int (nI t)), (2, .int (nI n)), (1, .int (nI (304 * x.seriesCount))), (0, .ref h)] := hl
                  refine lv_goto hx hb d_M_layText_132 (tgt := 27) rfl ?_
                  exact ih27 _ (by omega) (k + 1) k (by omega) (whG_t (i8x.symm.trans g5)) rfl H _ ls hP hD hS (lv_sub hl [0, 1, 3, 4, 5, 6] rfl)
              refine lv_iconst (v := 0) hx hb d_M_layText_36 (by decide) ?_
              refine lv_istore hx hb d_M_layText_37 hl (by decide) rfl (fun ls hl => ?_)
              have hl : lv_has ls 8 [(6, .int 0), (5, .int (nI k)), (4, .int (nI wv)), (3, .int (nI t)), (2, .int (nI n)), (1, .int (nI (304 * x.seriesCount))), (0, .ref h)] := hl
              refine lv_iconst (v := 0) hx hb d_M_layText_39 (by decide) ?_
              refine lv_istore hx hb d_M_layText_40 hl (by decide) rfl (fun ls hl => ?_)
              have hl : lv_has ls 8 [(7, .int 0), (6, .int 0), (5, .int (nI k)), (4, .int (nI wv)), (3, .int (nI t)), (2, .int (nI n)), (1, .int (nI (304 * x.seriesCount))), (0, .ref h)] := hl
              have L42 : ∀ (k9 : Nat) (j : Nat) (b : Nat) (i7 : j ≤ x.labelCount) (i8 : b = cnt j (x.blw k)) (hk9 : x.labelCount - j = k9), ∀ (H : Heap) (locs : List Loc) (ls : Array Slot) (hP : va_P D vwCl (MW dA h ad (MS.s_texts x tx)) H) (hD : va_D A (MW dA h ad (MS.s_texts x tx))) (hS : va_S A s.heap H locs) (hl : lv_has ls 8 [(7, .int (nI j)), (6, .int (nI b)), (5, .int (nI k)), (4, .int (nI wv)), (3, .int (nI t)), (2, .int (nI n)), (1, .int (nI (304 * x.seriesCount))), (0, .ref h)]), W p l e ({ frames := 2, cells := 0, slots := 0, locals := 25 } : Room) s m ([.ref h] : List Value).toArray below meth c H locs 0 0 (MQ below (va_Qi (fun (r9 : Int32) (u9 : Unit) => r9 = nI (x.layT x.labelCount).2) (fun (u9 : Unit) t9 => bW D A (MW dA h ad (MS.s_texts x ((x.layT x.labelCount).1))) t9) A) ([.ref h] : List Value).toArray s 0 0 A) (F0 m 42 ls []) := by
                intro k9
                induction k9 using Nat.strongRecOn with
                | ind k9 ih42 =>
                  intro j b i7 i8 hk9 H locs ls hP hD hS hl
                  refine lv_iload hx hb d_M_layText_42 (lv_at hl 0 rfl) ?_
                  refine lv_aload_n hx hb d_M_layText_44 rfl (lv_at hl 7 rfl) ?_
                  refine gF (v := .int (nI x.labelCount)) hx hb hown hE hK hP 0 rfl rfl layM 43 (by decide) w425 rfl d_M_layText_45 ?_
                  refine lv_icmp_ge hx hb d_M_layText_48 (tgt := 114) rfl (fun g6 => ?_) (fun g6 => ?_)
                  · have g6 := (nI_leI (a := x.labelCount) (b := j) (by omega) (by omega)).mp g6
                    exact J114 b (by rw [i8, show j = x.labelCount by omega]) H _ ls hP hD hS (lv_sub hl [1, 2, 3, 4, 5, 6, 7] rfl)
                  · have g6 := mt (nI_leI (a := x.labelCount) (b := j) (by omega) (by omega)).mpr g6
                    refine lv_iload hx hb d_M_layText_51 (lv_at hl 1 rfl) ?_
                    refine lv_aload_n hx hb d_M_layText_53 rfl (lv_at hl 7 rfl) ?_
                    refine lv_aload_n hx hb d_M_layText_54 rfl (lv_at hl 7 rfl) ?_
                    refine gF (v := .ref (ad 42)) hx hb hown hE hK hP 0 rfl rfl layM 42 (by decide) w517 rfl d_M_layText_55 ?_
                    refine lv_iconst (v := 4) hx hb d_M_layText_58 (by decide) ?_
                    refine lv_iload hx hb d_M_layText_59 (lv_at hl 0 rfl) ?_
                    refine lv_imul hx hb d_M_layText_61 (tpi (y := nI (4 * j)) (pk_mul (4) (j)) ?_)
                    refine nild (f := (fun z9 => nI (x.labels z9))) hx hb hK hP 20 1 rfl rfl (4 * j) (by omega) (by decide) d_M_layText_62 ?_
                    refine lv_aload_n hx hb d_M_layText_63 rfl (lv_at hl 7 rfl) ?_
                    refine gF (v := .ref (ad 42)) hx hb hown hE hK hP 0 rfl rfl layM 42 (by decide) w517 rfl d_M_layText_64 ?_
                    refine lv_iconst (v := 4) hx hb d_M_layText_67 (by decide) ?_
                    refine lv_iload hx hb d_M_layText_68 (lv_at hl 0 rfl) ?_
                    refine lv_imul hx hb d_M_layText_70 (tpi (y := nI (4 * j)) (pk_mul (4) (j)) ?_)
                    refine lv_iconst (v := 1) hx hb d_M_layText_71 (by decide) ?_
                    refine lv_iadd hx hb d_M_layText_72 (tpi (y := nI ((4 * j) + 1)) (nI_add (4 * j) (1)) ?_)
                    refine nild (f := (fun z9 => nI (x.labels z9))) hx hb hK hP 20 1 rfl rfl ((4 * j) + 1) (by omega) (by decide) d_M_layText_73 ?_
                    refine lv_aload_n hx hb d_M_layText_74 rfl (lv_at hl 7 rfl) ?_
                    refine gF (v := .ref (ad 42)) hx hb hown hE hK hP 0 rfl rfl layM 42 (by decide) w517 rfl d_M_layText_75 ?_
                    refine lv_iconst (v := 4) hx hb d_M_layText_78 (by decide) ?_
                    refine lv_iload hx hb d_M_layText_79 (lv_at hl 2 rfl) ?_
                    refine lv_imul hx hb d_M_layText_81 (tpi (y := nI (4 * k)) (pk_mul (4) (k)) ?_)
                    refine nild (f := (fun z9 => nI (x.labels z9))) hx hb hK hP 20 1 rfl rfl (4 * k) (by omega) (by decide) d_M_layText_82 ?_
                    refine lv_aload_n hx hb d_M_layText_83 rfl (lv_at hl 7 rfl) ?_
                    refine gF (v := .ref (ad 42)) hx hb hown hE hK hP 0 rfl rfl layM 42 (by decide) w517 rfl d_M_layText_84 ?_
                    refine lv_iconst (v := 4) hx hb d_M_layText_87 (by decide) ?_
                    refine lv_iload hx hb d_M_layText_88 (lv_at hl 2 rfl) ?_
                    refine lv_imul hx hb d_M_layText_90 (tpi (y := nI (4 * k)) (pk_mul (4) (k)) ?_)
                    refine lv_iconst (v := 1) hx hb d_M_layText_91 (by decide) ?_
                    refine lv_iadd hx hb d_M_layText_92 (tpi (y := nI ((4 * k) + 1)) (nI_add (4 * k) (1)) ?_)
                    refine nild (f := (fun z9 => nI (x.labels z9))) hx hb hK hP 20 1 rfl rfl ((4 * k) + 1) (by omega) (by decide) d_M_layText_93 ?_
                    refine jfI (rnV (As := [.int (nI (x.labels (4 * j))), .int (nI (x.labels ((4 * j) + 1))), .int (nI (x.labels (4 * k))), .int (nI (x.labels ((4 * k) + 1)))]) (rest := [.int (nI b)]) hx hb hml hown hE hK (hN _ _ hS) hP hD (k_compare l D dA H.size h ad (MS.s_texts x tx) (x.labels (4 * j)) (x.labels ((4 * j) + 1)) (x.labels (4 * k)) (x.labels ((4 * k) + 1)) (by have z9 := hlb j (by omega); have z1 := z9.1; have z2 := z9.2.1; have z3 := z9.2.2.2; omega) (by have z9 := hlb k (by omega); have z1 := z9.1; have z2 := z9.2.1; have z3 := z9.2.2.2; omega)) (q0 := 0) rfl rfl w939 w938 w940 w941 w328 rfl rfl ⟨⟨by decide, by decide⟩, rfl⟩ ⟨(Nat.le_of_ble_eq_true rfl), (Nat.le_of_ble_eq_true rfl)⟩ rfl hl.1 rfl (Nat.le_of_ble_eq_true rfl) d_M_layText_94 ⟨(Nat.le_of_ble_eq_true rfl), (Nat.le_of_ble_eq_true rfl)⟩) hP hD hS hA (fun r7 u8 H locs hp9 hP hD hS => ?_)
                    have hP : va_P D vwCl (MW dA h ad (MS.s_texts x tx)) H := hP
                    have hD : va_D A (MW dA h ad (MS.s_texts x tx)) := hD
                    replace hp9 : cmpT x.tape (x.labels (4 * j)) (x.labels ((4 * j) + 1)) (x.labels (4 * k)) (x.labels ((4 * k) + 1)) = r7 := Eq.symm hp9
                    subst hp9
                    refine lv_if_ge hx hb d_M_layText_97 (tgt := 104) rfl (fun g9 => ?_) (fun g9 => ?_)
                    · have g9 := g9
                      refine lv_iconst (v := 0) hx hb d_M_layText_104 (by decide) ?_
                      refine lv_iadd hx hb d_M_layText_105 (tpi (y := nI (b)) (nI_add (b) (0)) ?_)
                      refine lv_istore hx hb d_M_layText_106 hl (by decide) rfl (fun ls hl => ?_)
                      have hl : lv_has ls 8 [(6, .int (nI (b))), (7, .int (nI j)), (5, .int (nI k)), (4, .int (nI wv)), (3, .int (nI t)), (2, .int (nI n)), (1, .int (nI (304 * x.seriesCount))), (0, .ref h)] := hl
                      refine lv_iinc (k := 1) (v := nI (j + 1)) hx hb d_M_layText_108 hl rfl (iincN (j) 1 1 (by decide)) (by decide) rfl (fun ls hl => ?_)
                      have hl : lv_has ls 8 [(7, .int (nI (j + 1))), (6, .int (nI (b))), (5, .int (nI k)), (4, .int (nI wv)), (3, .int (nI t)), (2, .int (nI n)), (1, .int (nI (304 * x.seriesCount))), (0, .ref h)] := hl
                      refine lv_goto hx hb d_M_layText_111 (tgt := 42) rfl ?_
                      exact ih42 _ (by omega) (j + 1) b (by omega) (by rw [cnt_f (show x.blw k j = false from by show (!decide _) = false; rw [decide_eq_true g9]; rfl), i8]) rfl H _ ls hP hD hS (lv_sub hl [0, 1, 2, 3, 4, 5, 6, 7] rfl)
                    · have g9 := g9
                      refine lv_iconst (v := 1) hx hb d_M_layText_100 (by decide) ?_
                      refine lv_goto hx hb d_M_layText_101 (tgt := 105) rfl ?_
                      refine lv_iadd hx hb d_M_layText_105 (tpi (y := nI (b + 1)) (nI_add (b) (1)) ?_)
                      refine lv_istore hx hb d_M_layText_106 hl (by decide) rfl (fun ls hl => ?_)
                      have hl : lv_has ls 8 [(6, .int (nI (b + 1))), (7, .int (nI j)), (5, .int (nI k)), (4, .int (nI wv)), (3, .int (nI t)), (2, .int (nI n)), (1, .int (nI (304 * x.seriesCount))), (0, .ref h)] := hl
                      refine lv_iinc (k := 1) (v := nI (j + 1)) hx hb d_M_layText_108 hl rfl (iincN (j) 1 1 (by decide)) (by decide) rfl (fun ls hl => ?_)
                      have hl : lv_has ls 8 [(7, .int (nI (j + 1))), (6, .int (nI (b + 1))), (5, .int (nI k)), (4, .int (nI wv)), (3, .int (nI t)), (2, .int (nI n)), (1, .int (nI (304 * x.seriesCount))), (0, .ref h)] := hl
                      refine lv_goto hx hb d_M_layText_111 (tgt := 42) rfl ?_
                      exact ih42 _ (by omega) (j + 1) (b + 1) (by omega) (by rw [cnt_t (show x.blw k j = true from by show (!decide _) = true; rw [decide_eq_false g9]; rfl), i8]) rfl H _ ls hP hD hS (lv_sub hl [0, 1, 2, 3, 4, 5, 6, 7] rfl)
              exact L42 _ 0 0 (Nat.zero_le _) rfl rfl H _ ls hP hD hS (lv_sub hl [0, 1, 2, 3, 4, 5, 6, 7] rfl)
        exact L27 _ 0 0 (Nat.zero_le _) rfl rfl H _ ls hP hD hS (lv_sub hl [0, 1, 2, 3, 4, 5] rfl)
  exact L13 _ 0 0 x.texts (Nat.zero_le _) rfl (Nat.zero_le _) rfl H _ ls hP hD hS (lv_sub hl [0, 1, 2, 3] rfl)
