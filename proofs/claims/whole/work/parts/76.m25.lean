abbrev jT : Type := (Nat → Bool) × (Nat → Int64)
/-- k cells joined one by one -/
def jrG (sg : Int32) (g : jT) (tw ta tb : Nat) : Nat → jT
  | 0 => g
  | k + 1 => (va_up (jrG sg g tw ta tb k).1 (tw + k) (jnB sg ((jrG sg g tw ta tb k).1 (ta + k)) ((jrG sg g tw ta tb k).1 (tb + k)) ((jrG sg g tw ta tb k).2 (tb + k))), va_up (jrG sg g tw ta tb k).2 (tw + k) (jnW sg (jnB sg ((jrG sg g tw ta tb k).1 (ta + k)) ((jrG sg g tw ta tb k).1 (tb + k)) ((jrG sg g tw ta tb k).2 (tb + k))) ((jrG sg g tw ta tb k).2 (ta + k)) ((jrG sg g tw ta tb k).2 (tb + k))))
theorem jrG_s {sg : Int32} {g : jT} {tw ta tb k : Nat} {i2 : Nat → Bool} {c2 : Nat → Int64} (h : jrG sg g tw ta tb k = (i2, c2)) : jrG sg g tw ta tb (k + 1) = (va_up i2 (tw + k) (jnB sg (i2 (ta + k)) (i2 (tb + k)) (c2 (tb + k))), va_up c2 (tw + k) (jnW sg (jnB sg (i2 (ta + k)) (i2 (tb + k)) (c2 (tb + k))) (c2 (ta + k)) (c2 (tb + k)))) := by
  unfold jrG
  rw [h]
/-- j rows from the last one down -/
def spG (sg : Int32) (g : jT) (a b n w : Nat) : Nat → jT
  | 0 => g
  | j + 1 => jrG sg (spG sg g a b n w j) (cA a (n - 1 - j)) (cA a 0) (cA b (n - 1 - j)) w
theorem d_M_spread_19 : decode prog_14_method_77_code 19 = .ok (.istore 4, 2) := by decide +kernel
theorem d_M_spread_84 : decode prog_14_method_77_code 84 = .ok (.iconst 0, 1) := by decide +kernel
theorem d_M_spread_85 : decode prog_14_method_77_code 85 = .ok (.istore 5, 2) := by decide +kernel
theorem d_M_spread_87 : decode prog_14_method_77_code 87 = .ok (.iload 5, 2) := by decide +kernel
theorem d_M_spread_89 : decode prog_14_method_77_code 89 = .ok (.iload 4, 2) := by decide +kernel
theorem d_M_spread_91 : decode prog_14_method_77_code 91 = .ok (.if_icmp .ge 35, 3) := by decide +kernel
theorem d_M_spread_126 : decode prog_14_method_77_code 126 = .ok (.aload_n 0, 1) := by decide +kernel
theorem d_M_spread_127 : decode prog_14_method_77_code 127 = .ok (.getfield 97, 3) := by decide +kernel
theorem d_M_spread_130 : decode prog_14_method_77_code 130 = .ok (.iload_n 2, 1) := by decide +kernel
theorem d_M_spread_131 : decode prog_14_method_77_code 131 = .ok (.iload 4, 2) := by decide +kernel
theorem d_M_spread_133 : decode prog_14_method_77_code 133 = .ok (.iastore, 1) := by decide +kernel
theorem d_M_spread_134 : decode prog_14_method_77_code 134 = .ok (.aload_n 0, 1) := by decide +kernel
theorem d_M_spread_135 : decode prog_14_method_77_code 135 = .ok (.getfield 88, 3) := by decide +kernel
theorem d_M_spread_138 : decode prog_14_method_77_code 138 = .ok (.iload_n 2, 1) := by decide +kernel
theorem d_M_spread_139 : decode prog_14_method_77_code 139 = .ok (.aload_n 0, 1) := by decide +kernel
theorem d_M_spread_140 : decode prog_14_method_77_code 140 = .ok (.getfield 88, 3) := by decide +kernel
theorem d_M_spread_143 : decode prog_14_method_77_code 143 = .ok (.iload_n 3, 1) := by decide +kernel
theorem d_M_spread_144 : decode prog_14_method_77_code 144 = .ok (.iaload, 1) := by decide +kernel
theorem d_M_spread_145 : decode prog_14_method_77_code 145 = .ok (.iastore, 1) := by decide +kernel
theorem d_M_spread_146 : decode prog_14_method_77_code 146 = .ok (.iconst 0, 1) := by decide +kernel
theorem d_M_spread_147 : decode prog_14_method_77_code 147 = .ok (.istore 5, 2) := by decide +kernel
theorem d_M_spread_149 : decode prog_14_method_77_code 149 = .ok (.iload 5, 2) := by decide +kernel
theorem d_M_spread_151 : decode prog_14_method_77_code 151 = .ok (.bipush 6, 2) := by decide +kernel
theorem d_M_spread_153 : decode prog_14_method_77_code 153 = .ok (.if_icmp .ge 57, 3) := by decide +kernel
theorem d_M_spread_210 : decode prog_14_method_77_code 210 = .ok (.return_, 1) := by decide +kernel
theorem d_M_spread_156 : decode prog_14_method_77_code 156 = .ok (.aload_n 0, 1) := by decide +kernel
theorem d_M_spread_157 : decode prog_14_method_77_code 157 = .ok (.getfield 91, 3) := by decide +kernel
theorem d_M_spread_160 : decode prog_14_method_77_code 160 = .ok (.bipush 6, 2) := by decide +kernel
theorem d_M_spread_162 : decode prog_14_method_77_code 162 = .ok (.iload_n 2, 1) := by decide +kernel
theorem d_M_spread_163 : decode prog_14_method_77_code 163 = .ok (.imul, 1) := by decide +kernel
theorem d_M_spread_164 : decode prog_14_method_77_code 164 = .ok (.iload 5, 2) := by decide +kernel
theorem d_M_spread_166 : decode prog_14_method_77_code 166 = .ok (.iadd, 1) := by decide +kernel
theorem d_M_spread_167 : decode prog_14_method_77_code 167 = .ok (.aload_n 0, 1) := by decide +kernel
theorem d_M_spread_168 : decode prog_14_method_77_code 168 = .ok (.getfield 91, 3) := by decide +kernel
theorem d_M_spread_171 : decode prog_14_method_77_code 171 = .ok (.bipush 6, 2) := by decide +kernel
theorem d_M_spread_173 : decode prog_14_method_77_code 173 = .ok (.iload_n 3, 1) := by decide +kernel
theorem d_M_spread_174 : decode prog_14_method_77_code 174 = .ok (.imul, 1) := by decide +kernel
theorem d_M_spread_175 : decode prog_14_method_77_code 175 = .ok (.iload 5, 2) := by decide +kernel
theorem d_M_spread_177 : decode prog_14_method_77_code 177 = .ok (.iadd, 1) := by decide +kernel
theorem d_M_spread_178 : decode prog_14_method_77_code 178 = .ok (.iaload, 1) := by decide +kernel
theorem d_M_spread_179 : decode prog_14_method_77_code 179 = .ok (.iastore, 1) := by decide +kernel
theorem d_M_spread_180 : decode prog_14_method_77_code 180 = .ok (.aload_n 0, 1) := by decide +kernel
theorem d_M_spread_181 : decode prog_14_method_77_code 181 = .ok (.getfield 94, 3) := by decide +kernel
theorem d_M_spread_184 : decode prog_14_method_77_code 184 = .ok (.bipush 6, 2) := by decide +kernel
theorem d_M_spread_186 : decode prog_14_method_77_code 186 = .ok (.iload_n 2, 1) := by decide +kernel
theorem d_M_spread_187 : decode prog_14_method_77_code 187 = .ok (.imul, 1) := by decide +kernel
theorem d_M_spread_188 : decode prog_14_method_77_code 188 = .ok (.iload 5, 2) := by decide +kernel
theorem d_M_spread_190 : decode prog_14_method_77_code 190 = .ok (.iadd, 1) := by decide +kernel
theorem d_M_spread_191 : decode prog_14_method_77_code 191 = .ok (.aload_n 0, 1) := by decide +kernel
theorem d_M_spread_192 : decode prog_14_method_77_code 192 = .ok (.getfield 94, 3) := by decide +kernel
theorem d_M_spread_195 : decode prog_14_method_77_code 195 = .ok (.bipush 6, 2) := by decide +kernel
theorem d_M_spread_197 : decode prog_14_method_77_code 197 = .ok (.iload_n 3, 1) := by decide +kernel
theorem d_M_spread_198 : decode prog_14_method_77_code 198 = .ok (.imul, 1) := by decide +kernel
theorem d_M_spread_199 : decode prog_14_method_77_code 199 = .ok (.iload 5, 2) := by decide +kernel
theorem d_M_spread_201 : decode prog_14_method_77_code 201 = .ok (.iadd, 1) := by decide +kernel
theorem d_M_spread_202 : decode prog_14_method_77_code 202 = .ok (.iaload, 1) := by decide +kernel
theorem d_M_spread_203 : decode prog_14_method_77_code 203 = .ok (.iastore, 1) := by decide +kernel
theorem d_M_spread_204 : decode prog_14_method_77_code 204 = .ok (.iinc 5 1, 3) := by decide +kernel
theorem d_M_spread_207 : decode prog_14_method_77_code 207 = .ok (.goto (-58), 3) := by decide +kernel
theorem d_M_spread_94 : decode prog_14_method_77_code 94 = .ok (.aload_n 0, 1) := by decide +kernel
theorem d_M_spread_95 : decode prog_14_method_77_code 95 = .ok (.getfield 100, 3) := by decide +kernel
theorem d_M_spread_98 : decode prog_14_method_77_code 98 = .ok (.sipush 256, 3) := by decide +kernel
theorem d_M_spread_101 : decode prog_14_method_77_code 101 = .ok (.iload_n 2, 1) := by decide +kernel
theorem d_M_spread_102 : decode prog_14_method_77_code 102 = .ok (.imul, 1) := by decide +kernel
theorem d_M_spread_103 : decode prog_14_method_77_code 103 = .ok (.iload 5, 2) := by decide +kernel
theorem d_M_spread_105 : decode prog_14_method_77_code 105 = .ok (.iadd, 1) := by decide +kernel
theorem d_M_spread_106 : decode prog_14_method_77_code 106 = .ok (.aload_n 0, 1) := by decide +kernel
theorem d_M_spread_107 : decode prog_14_method_77_code 107 = .ok (.getfield 100, 3) := by decide +kernel
theorem d_M_spread_110 : decode prog_14_method_77_code 110 = .ok (.sipush 256, 3) := by decide +kernel
theorem d_M_spread_113 : decode prog_14_method_77_code 113 = .ok (.iload_n 3, 1) := by decide +kernel
theorem d_M_spread_114 : decode prog_14_method_77_code 114 = .ok (.imul, 1) := by decide +kernel
theorem d_M_spread_115 : decode prog_14_method_77_code 115 = .ok (.iload 5, 2) := by decide +kernel
theorem d_M_spread_117 : decode prog_14_method_77_code 117 = .ok (.iadd, 1) := by decide +kernel
theorem d_M_spread_118 : decode prog_14_method_77_code 118 = .ok (.iaload, 1) := by decide +kernel
theorem d_M_spread_119 : decode prog_14_method_77_code 119 = .ok (.iastore, 1) := by decide +kernel
theorem d_M_spread_120 : decode prog_14_method_77_code 120 = .ok (.iinc 5 1, 3) := by decide +kernel
theorem d_M_spread_123 : decode prog_14_method_77_code 123 = .ok (.goto (-36), 3) := by decide +kernel
theorem d_M_spread_21 : decode prog_14_method_77_code 21 = .ok (.iload 4, 2) := by decide +kernel
theorem d_M_spread_23 : decode prog_14_method_77_code 23 = .ok (.iconst 1, 1) := by decide +kernel
theorem d_M_spread_24 : decode prog_14_method_77_code 24 = .ok (.isub, 1) := by decide +kernel
theorem d_M_spread_25 : decode prog_14_method_77_code 25 = .ok (.istore 5, 2) := by decide +kernel
theorem d_M_spread_27 : decode prog_14_method_77_code 27 = .ok (.iload 5, 2) := by decide +kernel
theorem d_M_spread_29 : decode prog_14_method_77_code 29 = .ok (.ifCond .lt 55, 3) := by decide +kernel
theorem d_M_spread_32 : decode prog_14_method_77_code 32 = .ok (.iconst 0, 1) := by decide +kernel
theorem d_M_spread_33 : decode prog_14_method_77_code 33 = .ok (.istore 6, 2) := by decide +kernel
theorem d_M_spread_35 : decode prog_14_method_77_code 35 = .ok (.iload 6, 2) := by decide +kernel
theorem d_M_spread_37 : decode prog_14_method_77_code 37 = .ok (.aload_n 0, 1) := by decide +kernel
theorem d_M_spread_38 : decode prog_14_method_77_code 38 = .ok (.getfield 412, 3) := by decide +kernel
theorem d_M_spread_41 : decode prog_14_method_77_code 41 = .ok (.if_icmp .ge 37, 3) := by decide +kernel
theorem d_M_spread_78 : decode prog_14_method_77_code 78 = .ok (.iinc 5 (-1), 3) := by decide +kernel
theorem d_M_spread_81 : decode prog_14_method_77_code 81 = .ok (.goto (-54), 3) := by decide +kernel
theorem d_M_spread_44 : decode prog_14_method_77_code 44 = .ok (.aload_n 0, 1) := by decide +kernel
theorem d_M_spread_45 : decode prog_14_method_77_code 45 = .ok (.iload_n 1, 1) := by decide +kernel
theorem d_M_spread_46 : decode prog_14_method_77_code 46 = .ok (.iload_n 2, 1) := by decide +kernel
theorem d_M_spread_47 : decode prog_14_method_77_code 47 = .ok (.iload 5, 2) := by decide +kernel
theorem d_M_spread_49 : decode prog_14_method_77_code 49 = .ok (.iload 6, 2) := by decide +kernel
theorem d_M_spread_51 : decode prog_14_method_77_code 51 = .ok (.invokestatic 397, 3) := by decide +kernel
theorem d_M_spread_54 : decode prog_14_method_77_code 54 = .ok (.iload_n 2, 1) := by decide +kernel
theorem d_M_spread_55 : decode prog_14_method_77_code 55 = .ok (.iconst 0, 1) := by decide +kernel
theorem d_M_spread_56 : decode prog_14_method_77_code 56 = .ok (.iload 6, 2) := by decide +kernel
theorem d_M_spread_58 : decode prog_14_method_77_code 58 = .ok (.invokestatic 397, 3) := by decide +kernel
theorem d_M_spread_61 : decode prog_14_method_77_code 61 = .ok (.iload_n 3, 1) := by decide +kernel
theorem d_M_spread_62 : decode prog_14_method_77_code 62 = .ok (.iload 5, 2) := by decide +kernel
theorem d_M_spread_64 : decode prog_14_method_77_code 64 = .ok (.iload 6, 2) := by decide +kernel
theorem d_M_spread_66 : decode prog_14_method_77_code 66 = .ok (.invokestatic 397, 3) := by decide +kernel
theorem d_M_spread_69 : decode prog_14_method_77_code 69 = .ok (.invokevirtual 429, 3) := by decide +kernel
theorem d_M_spread_72 : decode prog_14_method_77_code 72 = .ok (.iinc 6 1, 3) := by decide +kernel
theorem d_M_spread_75 : decode prog_14_method_77_code 75 = .ok (.goto (-40), 3) := by decide +kernel
theorem d_M_spread_0 : decode prog_14_method_77_code 0 = .ok (.aload_n 0, 1) := by decide +kernel
theorem d_M_spread_1 : decode prog_14_method_77_code 1 = .ok (.getfield 97, 3) := by decide +kernel
theorem d_M_spread_4 : decode prog_14_method_77_code 4 = .ok (.iload_n 2, 1) := by decide +kernel
theorem d_M_spread_5 : decode prog_14_method_77_code 5 = .ok (.iaload, 1) := by decide +kernel
theorem d_M_spread_6 : decode prog_14_method_77_code 6 = .ok (.ifCond .le 12, 3) := by decide +kernel
theorem d_M_spread_18 : decode prog_14_method_77_code 18 = .ok (.iconst 0, 1) := by decide +kernel
theorem d_M_spread_9 : decode prog_14_method_77_code 9 = .ok (.aload_n 0, 1) := by decide +kernel
theorem d_M_spread_10 : decode prog_14_method_77_code 10 = .ok (.getfield 97, 3) := by decide +kernel
theorem d_M_spread_13 : decode prog_14_method_77_code 13 = .ok (.iload_n 3, 1) := by decide +kernel
theorem d_M_spread_14 : decode prog_14_method_77_code 14 = .ok (.iaload, 1) := by decide +kernel
theorem d_M_spread_15 : decode prog_14_method_77_code 15 = .ok (.goto 4, 3) := by decide +kernel
theorem w973 : Cond.methodLink "SeriesVaultModel" 429 ⟨"SeriesVaultModel", "join", "(IIII)V"⟩ ∈ aW := aw_of (tb_11 (List.mem_of_getElem? (i := 39) rfl)) rfl
theorem w974 : Cond.code ⟨"SeriesVaultModel", "join", "(IIII)V"⟩ prog_14_method_74_code 10 none ∈ aW := aw_of (tb_11 (List.mem_of_getElem? (i := 42) rfl)) rfl
theorem w975 : Cond.instanceMethod ⟨"SeriesVaultModel", "join", "(IIII)V"⟩ ∈ aW := aw_of (tb_11 (List.mem_of_getElem? (i := 41) rfl)) rfl
theorem w976 : Cond.selects "SeriesVaultModel" ⟨"SeriesVaultModel", "join", "(IIII)V"⟩ ⟨"SeriesVaultModel", "join", "(IIII)V"⟩ ∈ aW := aw_pr (List.mem_map.mpr ⟨_, pv_8 (List.mem_of_getElem? (i := 10) rfl), rfl⟩) rfl
set_option maxHeartbeats 4000000 in
set_option maxRecDepth 100000 in
theorem k_spread (l : Launch) (D : va_G) (dA : Nat → ClassId) (sz : Nat) (h : Nat) (ad : Nat → Nat) (x : MS) (sg : Int32) (a : Nat) (b : Nat) (n : Nat) (i9 : Nat → Bool) (c9 : Nat → Int64) (hsg : isOp sg) (ha : a < 20) (hb2 : b < 20) (h2 : x.windows ≤ 64) (h3 : x.tableRows b ≤ 256) (h4 : x.tableRows a ≤ 256) (hn : (if 0 < x.tableRows a then x.tableRows b else 0) = n) (hsp : spG sg (x.isCell, x.cells) a b n x.windows n = (i9, c9)) : Met l ⟨"SeriesVaultModel", "spread", "(III)V"⟩ [Cond.code ⟨"SeriesVaultModel", "spread", "(III)V"⟩ prog_14_method_77_code 7 none] { frames := 2, cells := 0, slots := 0, locals := 29 } (pC D dA [.ref h, .int sg, .int (nI a), .int (nI b)] (MW dA h ad x) sz) (va_Qv (fun (u9 : Unit) => True) (fun (u9 : Unit) t9 => bW D (va_A (MW dA h ad x) sz) (MW dA h ad (MS.s_isCell (MS.s_cells (MS.s_rowSeries (MS.s_tableRows (MS.s_nameLengths (MS.s_nameFroms (MS.s_tableNames x (va_up x.tableNames a (x.tableNames b))) (mvG x.nameFroms (6 * a) (6 * b) 6)) (mvG x.nameLengths (6 * a) (6 * b) 6)) (va_up x.tableRows a n)) (mvG x.rowSeries (256 * a) (256 * b) n)) c9) i9)) t9) (va_A (MW dA h ad x) sz)) 0 0 (va_A (MW dA h ad x) sz) := by
  refine mkC (y := ⟨"SeriesVaultModel", "spread", "(III)V"⟩) (cc := prog_14_method_77_code) (maxL := 7) (av := [.ref h, .int sg, .int (nI a), .int (nI b)]) (ws := MW dA h ad x) (sz := sz) (Qc := fun A => va_Qv (fun (u9 : Unit) => True) (fun (u9 : Unit) t9 => bW D A (MW dA h ad (MS.s_isCell (MS.s_cells (MS.s_rowSeries (MS.s_tableRows (MS.s_nameLengths (MS.s_nameFroms (MS.s_tableNames x (va_up x.tableNames a (x.tableNames b))) (mvG x.nameFroms (6 * a) (6 * b) 6)) (mvG x.nameLengths (6 * a) (6 * b) 6)) (va_up x.tableRows a n)) (mvG x.rowSeries (256 * a) (256 * b) n)) c9) i9)) t9) A) (by decide) (Nat.le_of_ble_eq_true rfl) ?_
  intro A p e s m below meth c ls hsz hB
  obtain ⟨hx, hb, hr, hml, hown, hin, hlk, hE, hK, hP, hD, hS, hA, hN, hl⟩ := hB
  have hown : s.vm.findClass "SeriesVaultModel" = some m.cls := hown
  have hl : lv_has ls 7 [(0, .ref h), (1, .int sg), (2, .int (nI a)), (3, .int (nI b))] := hl
  obtain ⟨H, hH⟩ : ∃ z, z = s.heap := ⟨_, rfl⟩
  have hP : va_P D vwCl (MW dA h ad x) H := by rw [hH]; exact hP
  have hS : va_S A s.heap H [] := by rw [hH]; exact hS
  rw [← hH]
  have n0 : n ≤ 256 := by rw [← hn]; split <;> omega
  have J19 : ∀ (H : Heap) (locs : List Loc) (ls : Array Slot) (hP : va_P D vwCl (MW dA h ad x) H) (hD : va_D A (MW dA h ad x)) (hS : va_S A s.heap H locs) (hl : lv_has ls 7 [(3, .int (nI b)), (2, .int (nI a)), (1, .int sg), (0, .ref h)]), W p l e ({ frames := 2, cells := 0, slots := 0, locals := 29 } : Room) s m ([.ref h, .int sg, .int (nI a), .int (nI b)] : List Value).toArray below meth c H locs 0 0 (MQ below (va_Qv (fun (u9 : Unit) => True) (fun (u9 : Unit) t9 => bW D A (MW dA h ad (MS.s_isCell (MS.s_cells (MS.s_rowSeries (MS.s_tableRows (MS.s_nameLengths (MS.s_nameFroms (MS.s_tableNames x (va_up x.tableNames a (x.tableNames b))) (mvG x.nameFroms (6 * a) (6 * b) 6)) (mvG x.nameLengths (6 * a) (6 * b) 6)) (va_up x.tableRows a n)) (mvG x.rowSeries (256 * a) (256 * b) n)) c9) i9)) t9) A) ([.ref h, .int sg, .int (nI a), .int (nI b)] : List Value).toArray s 0 0 A) (F0 m 19 ls [.int (nI n)]) := by
    intro  H locs ls hP hD hS hl
    refine lv_istore hx hb d_M_spread_19 hl (by decide) rfl (fun ls hl => ?_)
    have hl : lv_has ls 7 [(4, .int (nI n)), (3, .int (nI b)), (2, .int (nI a)), (1, .int sg), (0, .ref h)] := hl
    have J84 : ∀ (H : Heap) (locs : List Loc) (ls : Array Slot) (hP : va_P D vwCl (MW dA h ad (MS.s_isCell (MS.s_cells x c9) i9)) H) (hD : va_D A (MW dA h ad (MS.s_isCell (MS.s_cells x c9) i9))) (hS : va_S A s.heap H locs) (hl : lv_has ls 7 [(4, .int (nI n)), (3, .int (nI b)), (2, .int (nI a)), (1, .int sg), (0, .ref h)]), W p l e ({ frames := 2, cells := 0, slots := 0, locals := 29 } : Room) s m ([.ref h, .int sg, .int (nI a), .int (nI b)] : List Value).toArray below meth c H locs 0 0 (MQ below (va_Qv (fun (u9 : Unit) => True) (fun (u9 : Unit) t9 => bW D A (MW dA h ad (MS.s_isCell (MS.s_cells (MS.s_rowSeries (MS.s_tableRows (MS.s_nameLengths (MS.s_nameFroms (MS.s_tableNames x (va_up x.tableNames a (x.tableNames b))) (mvG x.nameFroms (6 * a) (6 * b) 6)) (mvG x.nameLengths (6 * a) (6 * b) 6)) (va_up x.tableRows a n)) (mvG x.rowSeries (256 * a) (256 * b) n)) c9) i9)) t9) A) ([.ref h, .int sg, .int (nI a), .int (nI b)] : List Value).toArray s 0 0 A) (F0 m 84 ls []) := by
      intro  H locs ls hP hD hS hl
      refine lv_iconst (v := 0) hx hb d_M_spread_84 (by decide) ?_
      refine lv_istore hx hb d_M_spread_85 hl (by decide) rfl (fun ls hl => ?_)
      have hl : lv_has ls 7 [(5, .int 0), (4, .int (nI n)), (3, .int (nI b)), (2, .int (nI a)), (1, .int sg), (0, .ref h)] := hl
      have L87 : ∀ (k9 : Nat) (r : Nat) (q1 : r ≤ n) (hk9 : n - r = k9), ∀ (H : Heap) (locs : List Loc) (ls : Array Slot) (hP : va_P D vwCl (MW dA h ad (MS.s_isCell (MS.s_cells (MS.s_rowSeries x (mvG x.rowSeries (256 * a) (256 * b) r)) c9) i9)) H) (hD : va_D A (MW dA h ad (MS.s_isCell (MS.s_cells (MS.s_rowSeries x (mvG x.rowSeries (256 * a) (256 * b) r)) c9) i9))) (hS : va_S A s.heap H locs) (hl : lv_has ls 7 [(5, .int (nI r)), (4, .int (nI n)), (3, .int (nI b)), (2, .int (nI a)), (1, .int sg), (0, .ref h)]), W p l e ({ frames := 2, cells := 0, slots := 0, locals := 29 } : Room) s m ([.ref h, .int sg, .int (nI a), .int (nI b)] : List Value).toArray below meth c H locs 0 0 (MQ below (va_Qv (fun (u9 : Unit) => True) (fun (u9 : Unit) t9 => bW D A (MW dA h ad (MS.s_isCell (MS.s_cells (MS.s_rowSeries (MS.s_tableRows (MS.s_nameLengths (MS.s_nameFroms (MS.s_tableNames x (va_up x.tableNames a (x.tableNames b))) (mvG x.nameFroms (6 * a) (6 * b) 6)) (mvG x.nameLengths (6 * a) (6 * b) 6)) (va_up x.tableRows a n)) (mvG x.rowSeries (256 * a) (256 * b) n)) c9) i9)) t9) A) ([.ref h, .int sg, .int (nI a), .int (nI b)] : List Value).toArray s 0 0 A) (F0 m 87 ls []) := by
        intro k9
        induction k9 using Nat.strongRecOn with
        | ind k9 ih87 =>
          intro r q1 hk9 H locs ls hP hD hS hl
          refine lv_iload hx hb d_M_spread_87 (lv_at hl 0 rfl) ?_
          refine lv_iload hx hb d_M_spread_89 (lv_at hl 1 rfl) ?_
          refine lv_icmp_ge hx hb d_M_spread_91 (tgt := 126) rfl (fun g1 => ?_) (fun g1 => ?_)
          · have g1 := (nI_leI (a := n) (b := r) (by omega) (by omega)).mp g1
            refine lv_aload_n hx hb d_M_spread_126 rfl (lv_at hl 5 rfl) ?_
            refine gF (v := .ref (ad 51)) hx hb hown hE hK hP 0 rfl rfl layM 51 (by decide) w521 rfl d_M_spread_127 ?_
            refine lv_iload_n hx hb d_M_spread_130 rfl (lv_at hl 3 rfl) ?_
            refine lv_iload hx hb d_M_spread_131 (lv_at hl 1 rfl) ?_
            refine nistN (v := n) hx hb hK hP hD hS 24 1 rfl rfl (a) (by omega) (by decide) d_M_spread_133 (fun H locs hP hD hS => ?_)
            have hP : va_P D vwCl (MW dA h ad (MS.s_isCell (MS.s_cells (MS.s_rowSeries (MS.s_tableRows x (va_up x.tableRows a n)) (mvG x.rowSeries (256 * a) (256 * b) r)) c9) i9)) H := hP
            have hD : va_D A (MW dA h ad (MS.s_isCell (MS.s_cells (MS.s_rowSeries (MS.s_tableRows x (va_up x.tableRows a n)) (mvG x.rowSeries (256 * a) (256 * b) r)) c9) i9)) := hD
            refine lv_aload_n hx hb d_M_spread_134 rfl (lv_at hl 5 rfl) ?_
            refine gF (v := .ref (ad 48)) hx hb hown hE hK hP 0 rfl rfl layM 48 (by decide) w518 rfl d_M_spread_135 ?_
            refine lv_iload_n hx hb d_M_spread_138 rfl (lv_at hl 3 rfl) ?_
            refine lv_aload_n hx hb d_M_spread_139 rfl (lv_at hl 5 rfl) ?_
            refine gF (v := .ref (ad 48)) hx hb hown hE hK hP 0 rfl rfl layM 48 (by decide) w518 rfl d_M_spread_140 ?_
            refine lv_iload_n hx hb d_M_spread_143 rfl (lv_at hl 2 rfl) ?_
            refine nild (f := (fun z9 => nI (x.tableNames z9))) hx hb hK hP 21 1 rfl rfl (b) (by omega) (by decide) d_M_spread_144 ?_
            refine nistN (v := x.tableNames b) hx hb hK hP hD hS 21 1 rfl rfl (a) (by omega) (by decide) d_M_spread_145 (fun H locs hP hD hS => ?_)
            have hP : va_P D vwCl (MW dA h ad (MS.s_isCell (MS.s_cells (MS.s_rowSeries (MS.s_tableRows (MS.s_tableNames x (va_up x.tableNames a (x.tableNames b))) (va_up x.tableRows a n)) (mvG x.rowSeries (256 * a) (256 * b) r)) c9) i9)) H := hP
            have hD : va_D A (MW dA h ad (MS.s_isCell (MS.s_cells (MS.s_rowSeries (MS.s_tableRows (MS.s_tableNames x (va_up x.tableNames a (x.tableNames b))) (va_up x.tableRows a n)) (mvG x.rowSeries (256 * a) (256 * b) r)) c9) i9)) := hD
            refine lv_iconst (v := 0) hx hb d_M_spread_146 (by decide) ?_
            refine lv_istore hx hb d_M_spread_147 hl (by decide) rfl (fun ls hl => ?_)
            have hl : lv_has ls 7 [(5, .int 0), (4, .int (nI n)), (3, .int (nI b)), (2, .int (nI a)), (1, .int sg), (0, .ref h)] := hl
            have L149 : ∀ (k9 : Nat) (q : Nat) (q2 : q ≤ 6) (hk9 : 6 - q = k9), ∀ (H : Heap) (locs : List Loc) (ls : Array Slot) (hP : va_P D vwCl (MW dA h ad (MS.s_isCell (MS.s_cells (MS.s_rowSeries (MS.s_tableRows (MS.s_nameLengths (MS.s_nameFroms (MS.s_tableNames x (va_up x.tableNames a (x.tableNames b))) (mvG x.nameFroms (6 * a) (6 * b) q)) (mvG x.nameLengths (6 * a) (6 * b) q)) (va_up x.tableRows a n)) (mvG x.rowSeries (256 * a) (256 * b) n)) c9) i9)) H) (hD : va_D A (MW dA h ad (MS.s_isCell (MS.s_cells (MS.s_rowSeries (MS.s_tableRows (MS.s_nameLengths (MS.s_nameFroms (MS.s_tableNames x (va_up x.tableNames a (x.tableNames b))) (mvG x.nameFroms (6 * a) (6 * b) q)) (mvG x.nameLengths (6 * a) (6 * b) q)) (va_up x.tableRows a n)) (mvG x.rowSeries (256 * a) (256 * b) n)) c9) i9))) (hS : va_S A s.heap H locs) (hl : lv_has ls 7 [(5, .int (nI q)), (4, .int (nI n)), (3, .int (nI b)), (2, .int (nI a)), (1, .int sg), (0, .ref h)]), W p l e ({ frames := 2, cells := 0, slots := 0, locals := 29 } : Room) s m ([.ref h, .int sg, .int (nI a), .int (nI b)] : List Value).toArray below meth c H locs 0 0 (MQ below (va_Qv (fun (u9 : Unit) => True) (fun (u9 : Unit) t9 => bW D A (MW dA h ad (MS.s_isCell (MS.s_cells (MS.s_rowSeries (MS.s_tableRows (MS.s_nameLengths (MS.s_nameFroms (MS.s_tableNames x (va_up x.tableNames a (x.tableNames b))) (mvG x.nameFroms (6 * a) (6 * b) 6)) (mvG x.nameLengths (6 * a) (6 * b) 6)) (va_up x.tableRows a n)) (mvG x.rowSeries (256 * a) (256 * b) n)) c9) i9)) t9) A) ([.ref h, .int sg, .int (nI a), .int (nI b)] : List Value).toArray s 0 0 A) (F0 m 149 ls []) := by
              intro k9
              induction k9 using Nat.strongRecOn with
              | ind k9 ih149 =>
                intro q q2 hk9 H locs ls hP hD hS hl
                refine lv_iload hx hb d_M_spread_149 (lv_at hl 0 rfl) ?_
                refine lv_bipush (v := 6) hx hb d_M_spread_151 (by decide) ?_
                refine lv_icmp_ge hx hb d_M_spread_153 (tgt := 210) rfl (fun g2 => ?_) (fun g2 => ?_)
                · have g2 := (nI_leI (a := 6) (b := q) (by omega) (by omega)).mp g2
                  have e9 : (MS.s_isCell (MS.s_cells (MS.s_rowSeries (MS.s_tableRows (MS.s_nameLengths (MS.s_nameFroms (MS.s_tableNames x (va_up x.tableNames a (x.tableNames b))) (mvG x.nameFroms (6 * a) (6 * b) q)) (mvG x.nameLengths (6 * a) (6 * b) q)) (va_up x.tableRows a n)) (mvG x.rowSeries (256 * a) (256 * b) n)) c9) i9 : MS) = MS.s_isCell (MS.s_cells (MS.s_rowSeries (MS.s_tableRows (MS.s_nameLengths (MS.s_nameFroms (MS.s_tableNames x (va_up x.tableNames a (x.tableNames b))) (mvG x.nameFroms (6 * a) (6 * b) 6)) (mvG x.nameLengths (6 * a) (6 * b) 6)) (va_up x.tableRows a n)) (mvG x.rowSeries (256 * a) (256 * b) n)) c9) i9 := by rw [show (mvG x.nameLengths (6 * a) (6 * b) 6) = (mvG x.nameLengths (6 * a) (6 * b) q) from by (rw [show q = 6 by omega]), show (mvG x.nameFroms (6 * a) (6 * b) 6) = (mvG x.nameFroms (6 * a) (6 * b) q) from by (rw [show q = 6 by omega])] <;> rfl
                  exact rfV hx hb hr hlk hS () trivial (cvP e9 hP) (cvD e9 hD) (Nat.le_of_ble_eq_true rfl) (Nat.le_of_ble_eq_true rfl) d_M_spread_210
                · have g2 := mt (nI_leI (a := 6) (b := q) (by omega) (by omega)).mpr g2
                  refine lv_aload_n hx hb d_M_spread_156 rfl (lv_at hl 5 rfl) ?_
                  refine gF (v := .ref (ad 49)) hx hb hown hE hK hP 0 rfl rfl layM 49 (by decide) w519 rfl d_M_spread_157 ?_
                  refine lv_bipush (v := 6) hx hb d_M_spread_160 (by decide) ?_
                  refine lv_iload_n hx hb d_M_spread_162 rfl (lv_at hl 3 rfl) ?_
                  refine lv_imul hx hb d_M_spread_163 (tpi (y := nI (6 * a)) (pk_mul (6) (a)) ?_)
                  refine lv_iload hx hb d_M_spread_164 (lv_at hl 0 rfl) ?_
                  refine lv_iadd hx hb d_M_spread_166 (tpi (y := nI ((6 * a) + q)) (nI_add (6 * a) (q)) ?_)
                  refine lv_aload_n hx hb d_M_spread_167 rfl (lv_at hl 5 rfl) ?_
                  refine gF (v := .ref (ad 49)) hx hb hown hE hK hP 0 rfl rfl layM 49 (by decide) w519 rfl d_M_spread_168 ?_
                  refine lv_bipush (v := 6) hx hb d_M_spread_171 (by decide) ?_
                  refine lv_iload_n hx hb d_M_spread_173 rfl (lv_at hl 2 rfl) ?_
                  refine lv_imul hx hb d_M_spread_174 (tpi (y := nI (6 * b)) (pk_mul (6) (b)) ?_)
                  refine lv_iload hx hb d_M_spread_175 (lv_at hl 0 rfl) ?_
                  refine lv_iadd hx hb d_M_spread_177 (tpi (y := nI ((6 * b) + q)) (nI_add (6 * b) (q)) ?_)
                  refine nild (f := (fun z9 => nI ((mvG x.nameFroms (6 * a) (6 * b) q) z9))) hx hb hK hP 22 1 rfl rfl ((6 * b) + q) (by omega) (by decide) d_M_spread_178 ?_
                  refine nistN (v := (mvG x.nameFroms (6 * a) (6 * b) q) ((6 * b) + q)) hx hb hK hP hD hS 22 1 rfl rfl ((6 * a) + q) (by omega) (by decide) d_M_spread_179 (fun H locs hP hD hS => ?_)
                  have hP : va_P D vwCl (MW dA h ad (MS.s_isCell (MS.s_cells (MS.s_rowSeries (MS.s_tableRows (MS.s_nameLengths (MS.s_nameFroms (MS.s_tableNames x (va_up x.tableNames a (x.tableNames b))) (va_up (mvG x.nameFroms (6 * a) (6 * b) q) ((6 * a) + q) ((mvG x.nameFroms (6 * a) (6 * b) q) ((6 * b) + q)))) (mvG x.nameLengths (6 * a) (6 * b) q)) (va_up x.tableRows a n)) (mvG x.rowSeries (256 * a) (256 * b) n)) c9) i9)) H := hP
                  have hD : va_D A (MW dA h ad (MS.s_isCell (MS.s_cells (MS.s_rowSeries (MS.s_tableRows (MS.s_nameLengths (MS.s_nameFroms (MS.s_tableNames x (va_up x.tableNames a (x.tableNames b))) (va_up (mvG x.nameFroms (6 * a) (6 * b) q) ((6 * a) + q) ((mvG x.nameFroms (6 * a) (6 * b) q) ((6 * b) + q)))) (mvG x.nameLengths (6 * a) (6 * b) q)) (va_up x.tableRows a n)) (mvG x.rowSeries (256 * a) (256 * b) n)) c9) i9)) := hD
                  refine lv_aload_n hx hb d_M_spread_180 rfl (lv_at hl 5 rfl) ?_
                  refine gF (v := .ref (ad 50)) hx hb hown hE hK hP 0 rfl rfl layM 50 (by decide) w520 rfl d_M_spread_181 ?_
                  refine lv_bipush (v := 6) hx hb d_M_spread_184 (by decide) ?_
                  refine lv_iload_n hx hb d_M_spread_186 rfl (lv_at hl 3 rfl) ?_
                  refine lv_imul hx hb d_M_spread_187 (tpi (y := nI (6 * a)) (pk_mul (6) (a)) ?_)
                  refine lv_iload hx hb d_M_spread_188 (lv_at hl 0 rfl) ?_
                  refine lv_iadd hx hb d_M_spread_190 (tpi (y := nI ((6 * a) + q)) (nI_add (6 * a) (q)) ?_)
                  refine lv_aload_n hx hb d_M_spread_191 rfl (lv_at hl 5 rfl) ?_
                  refine gF (v := .ref (ad 50)) hx hb hown hE hK hP 0 rfl rfl layM 50 (by decide) w520 rfl d_M_spread_192 ?_
                  refine lv_bipush (v := 6) hx hb d_M_spread_195 (by decide) ?_
                  refine lv_iload_n hx hb d_M_spread_197 rfl (lv_at hl 2 rfl) ?_
                  refine lv_imul hx hb d_M_spread_198 (tpi (y := nI (6 * b)) (pk_mul (6) (b)) ?_)
                  refine lv_iload hx hb d_M_spread_199 (lv_at hl 0 rfl) ?_
                  refine lv_iadd hx hb d_M_spread_201 (tpi (y := nI ((6 * b) + q)) (nI_add (6 * b) (q)) ?_)
                  refine nild (f := (fun z9 => nI ((mvG x.nameLengths (6 * a) (6 * b) q) z9))) hx hb hK hP 23 1 rfl rfl ((6 * b) + q) (by omega) (by decide) d_M_spread_202 ?_
                  refine nistN (v := (mvG x.nameLengths (6 * a) (6 * b) q) ((6 * b) + q)) hx hb hK hP hD hS 23 1 rfl rfl ((6 * a) + q) (by omega) (by decide) d_M_spread_203 (fun H locs hP hD hS => ?_)
                  have hP : va_P D vwCl (MW dA h ad (MS.s_isCell (MS.s_cells (MS.s_rowSeries (MS.s_tableRows (MS.s_nameLengths (MS.s_nameFroms (MS.s_tableNames x (va_up x.tableNames a (x.tableNames b))) (va_up (mvG x.nameFroms (6 * a) (6 * b) q) ((6 * a) + q) ((mvG x.nameFroms (6 * a) (6 * b) q) ((6 * b) + q)))) (va_up (mvG x.nameLengths (6 * a) (6 * b) q) ((6 * a) + q) ((mvG x.nameLengths (6 * a) (6 * b) q) ((6 * b) + q)))) (va_up x.tableRows a n)) (mvG x.rowSeries (256 * a) (256 * b) n)) c9) i9)) H := hP
                  have hD : va_D A (MW dA h ad (MS.s_isCell (MS.s_cells (MS.s_rowSeries (MS.s_tableRows (MS.s_nameLengths (MS.s_nameFroms (MS.s_tableNames x (va_up x.tableNames a (x.tableNames b))) (va_up (mvG x.nameFroms (6 * a) (6 * b) q) ((6 * a) + q) ((mvG x.nameFroms (6 * a) (6 * b) q) ((6 * b) + q)))) (va_up (mvG x.nameLengths (6 * a) (6 * b) q) ((6 * a) + q) ((mvG x.nameLengths (6 * a) (6 * b) q) ((6 * b) + q)))) (va_up x.tableRows a n)) (mvG x.rowSeries (256 * a) (256 * b) n)) c9) i9)) := hD
                  refine lv_iinc (k := 0) (v := nI (q + 1)) hx hb d_M_spread_204 hl rfl (iincN (q) 1 1 (by decide)) (by decide) rfl (fun ls hl => ?_)
                  have hl : lv_has ls 7 [(5, .int (nI (q + 1))), (4, .int (nI n)), (3, .int (nI b)), (2, .int (nI a)), (1, .int sg), (0, .ref h)] := hl
                  refine lv_goto hx hb d_M_spread_207 (tgt := 149) rfl ?_
                  exact ih149 _ (by omega) (q + 1) (by omega) rfl H _ ls hP hD hS (lv_sub hl [0, 1, 2, 3, 4, 5] rfl)
            have e9 : (MS.s_isCell (MS.s_cells (MS.s_rowSeries (MS.s_tableRows (MS.s_tableNames x (va_up x.tableNames a (x.tableNames b))) (va_up x.tableRows a n)) (mvG x.rowSeries (256 * a) (256 * b) r)) c9) i9 : MS) = MS.s_isCell (MS.s_cells (MS.s_rowSeries (MS.s_tableRows (MS.s_nameLengths (MS.s_nameFroms (MS.s_tableNames x (va_up x.tableNames a (x.tableNames b))) (mvG x.nameFroms (6 * a) (6 * b) 0)) (mvG x.nameLengths (6 * a) (6 * b) 0)) (va_up x.tableRows a n)) (mvG x.rowSeries (256 * a) (256 * b) n)) c9) i9 := by rw [show (mvG x.rowSeries (256 * a) (256 * b) n) = (mvG x.rowSeries (256 * a) (256 * b) r) from (by rw [show r = n by omega])] <;> rfl
            exact L149 _ 0 (Nat.zero_le _) rfl H _ ls (cvP e9 hP) (cvD e9 hD) hS (lv_sub hl [0, 1, 2, 3, 4, 5] rfl)
          · have g1 := mt (nI_leI (a := n) (b := r) (by omega) (by omega)).mpr g1
            refine lv_aload_n hx hb d_M_spread_94 rfl (lv_at hl 5 rfl) ?_
            refine gF (v := .ref (ad 52)) hx hb hown hE hK hP 0 rfl rfl layM 52 (by decide) w522 rfl d_M_spread_95 ?_
            refine lv_sipush (v := 256) hx hb d_M_spread_98 (by decide) ?_
            refine lv_iload_n hx hb d_M_spread_101 rfl (lv_at hl 3 rfl) ?_
            refine lv_imul hx hb d_M_spread_102 (tpi (y := nI (256 * a)) (pk_mul (256) (a)) ?_)
            refine lv_iload hx hb d_M_spread_103 (lv_at hl 0 rfl) ?_
            refine lv_iadd hx hb d_M_spread_105 (tpi (y := nI ((256 * a) + r)) (nI_add (256 * a) (r)) ?_)
            refine lv_aload_n hx hb d_M_spread_106 rfl (lv_at hl 5 rfl) ?_
            refine gF (v := .ref (ad 52)) hx hb hown hE hK hP 0 rfl rfl layM 52 (by decide) w522 rfl d_M_spread_107 ?_
            refine lv_sipush (v := 256) hx hb d_M_spread_110 (by decide) ?_
            refine lv_iload_n hx hb d_M_spread_113 rfl (lv_at hl 2 rfl) ?_
            refine lv_imul hx hb d_M_spread_114 (tpi (y := nI (256 * b)) (pk_mul (256) (b)) ?_)
            refine lv_iload hx hb d_M_spread_115 (lv_at hl 0 rfl) ?_
            refine lv_iadd hx hb d_M_spread_117 (tpi (y := nI ((256 * b) + r)) (nI_add (256 * b) (r)) ?_)
            refine nild (f := (fun z9 => nI ((mvG x.rowSeries (256 * a) (256 * b) r) z9))) hx hb hK hP 25 1 rfl rfl ((256 * b) + r) (by omega) (by decide) d_M_spread_118 ?_
            refine nistN (v := (mvG x.rowSeries (256 * a) (256 * b) r) ((256 * b) + r)) hx hb hK hP hD hS 25 1 rfl rfl ((256 * a) + r) (by omega) (by decide) d_M_spread_119 (fun H locs hP hD hS => ?_)
            have hP : va_P D vwCl (MW dA h ad (MS.s_isCell (MS.s_cells (MS.s_rowSeries x (va_up (mvG x.rowSeries (256 * a) (256 * b) r) ((256 * a) + r) ((mvG x.rowSeries (256 * a) (256 * b) r) ((256 * b) + r)))) c9) i9)) H := hP
            have hD : va_D A (MW dA h ad (MS.s_isCell (MS.s_cells (MS.s_rowSeries x (va_up (mvG x.rowSeries (256 * a) (256 * b) r) ((256 * a) + r) ((mvG x.rowSeries (256 * a) (256 * b) r) ((256 * b) + r)))) c9) i9)) := hD
            refine lv_iinc (k := 0) (v := nI (r + 1)) hx hb d_M_spread_120 hl rfl (iincN (r) 1 1 (by decide)) (by decide) rfl (fun ls hl => ?_)
            have hl : lv_has ls 7 [(5, .int (nI (r + 1))), (4, .int (nI n)), (3, .int (nI b)), (2, .int (nI a)), (1, .int sg), (0, .ref h)] := hl
            refine lv_goto hx hb d_M_spread_123 (tgt := 87) rfl ?_
            exact ih87 _ (by omega) (r + 1) (by omega) rfl H _ ls hP hD hS (lv_sub hl [0, 1, 2, 3, 4, 5] rfl)
      exact L87 _ 0 (Nat.zero_le _) rfl H _ ls hP hD hS (lv_sub hl [0, 1, 2, 3, 4, 5] rfl)
    refine lv_iload hx hb d_M_spread_21 (lv_at hl 0 rfl) ?_
    refine lv_iconst (v := 1) hx hb d_M_spread_23 (by decide) ?_
    refine lv_isub hx hb d_M_spread_24 ?_
    refine lv_istore hx hb d_M_spread_25 hl (by decide) rfl (fun ls hl => ?_)
    have hl : lv_has ls 7 [(5, .int ((nI n) - 1)), (4, .int (nI n)), (3, .int (nI b)), (2, .int (nI a)), (1, .int sg), (0, .ref h)] := hl
    have L27 : ∀ (k9 : Nat) (k : Nat) (j : Nat) (i2 : Nat → Bool) (c2 : Nat → Int64) (k1 : k + j = n) (ie : spG sg (x.isCell, x.cells) a b n x.windows j = (i2, c2)) (hk9 : k = k9), ∀ (H : Heap) (locs : List Loc) (ls : Array Slot) (hP : va_P D vwCl (MW dA h ad (MS.s_isCell (MS.s_cells x c2) i2)) H) (hD : va_D A (MW dA h ad (MS.s_isCell (MS.s_cells x c2) i2))) (hS : va_S A s.heap H locs) (hl : lv_has ls 7 [(5, .int (nI k - 1)), (4, .int (nI n)), (3, .int (nI b)), (2, .int (nI a)), (1, .int sg), (0, .ref h)]), W p l e ({ frames := 2, cells := 0, slots := 0, locals := 29 } : Room) s m ([.ref h, .int sg, .int (nI a), .int (nI b)] : List Value).toArray below meth c H locs 0 0 (MQ below (va_Qv (fun (u9 : Unit) => True) (fun (u9 : Unit) t9 => bW D A (MW dA h ad (MS.s_isCell (MS.s_cells (MS.s_rowSeries (MS.s_tableRows (MS.s_nameLengths (MS.s_nameFroms (MS.s_tableNames x (va_up x.tableNames a (x.tableNames b))) (mvG x.nameFroms (6 * a) (6 * b) 6)) (mvG x.nameLengths (6 * a) (6 * b) 6)) (va_up x.tableRows a n)) (mvG x.rowSeries (256 * a) (256 * b) n)) c9) i9)) t9) A) ([.ref h, .int sg, .int (nI a), .int (nI b)] : List Value).toArray s 0 0 A) (F0 m 27 ls []) := by
      intro k9
      induction k9 using Nat.strongRecOn with
      | ind k9 ih27 =>
        intro k j i2 c2 k1 ie hk9 H locs ls hP hD hS hl
        rcases (Nat.eq_zero_or_pos k) with z0 | z0
        · refine lv_iload hx hb d_M_spread_27 (lv_at hl 0 rfl) ?_
          refine lv_if_lt hx hb d_M_spread_29 (tgt := 84) rfl (fun _ => ?_) (fun h9 => absurd (by rw [z0]; decide) h9)
          have e9 : (MS.s_isCell (MS.s_cells x c2) i2 : MS) = MS.s_isCell (MS.s_cells x c9) i9 := by rw [show c9 = c2 from (congrArg Prod.snd (hsp.symm.trans ((congrArg (spG sg (x.isCell, x.cells) a b n x.windows) (show n = j by omega)).trans ie))), show i9 = i2 from (congrArg Prod.fst (hsp.symm.trans ((congrArg (spG sg (x.isCell, x.cells) a b n x.windows) (show n = j by omega)).trans ie)))] <;> rfl
          exact J84  H _ ls (cvP e9 hP) (cvD e9 hD) hS (lv_sub hl [1, 2, 3, 4, 5] rfl)
        · refine lv_iload hx hb d_M_spread_27 (lv_at hl 0 rfl) ?_
          refine tpi (y := nI (k - 1)) (nI_m1 z0) ?_
          refine lv_if_lt hx hb d_M_spread_29 (tgt := 84) rfl (fun h9 => absurd h9 (nI_pos (n := k - 1) (by omega))) (fun _ => ?_)
          refine lv_iconst (v := 0) hx hb d_M_spread_32 (by decide) ?_
          refine lv_istore hx hb d_M_spread_33 hl (by decide) rfl (fun ls hl => ?_)
          have hl : lv_has ls 7 [(6, .int 0), (5, .int (nI k - 1)), (4, .int (nI n)), (3, .int (nI b)), (2, .int (nI a)), (1, .int sg), (0, .ref h)] := hl
          have L35 : ∀ (k9 : Nat) (r : Nat) (i3 : Nat → Bool) (c3 : Nat → Int64) (i4 : r ≤ x.windows) (i5 : jrG sg (i2, c2) (cA a (k - 1)) (cA a 0) (cA b (k - 1)) r = (i3, c3)) (hk9 : x.windows - r = k9), ∀ (H : Heap) (locs : List Loc) (ls : Array Slot) (hP : va_P D vwCl (MW dA h ad (MS.s_isCell (MS.s_cells x c3) i3)) H) (hD : va_D A (MW dA h ad (MS.s_isCell (MS.s_cells x c3) i3))) (hS : va_S A s.heap H locs) (hl : lv_has ls 7 [(6, .int (nI r)), (5, .int (nI k - 1)), (4, .int (nI n)), (3, .int (nI b)), (2, .int (nI a)), (1, .int sg), (0, .ref h)]), W p l e ({ frames := 2, cells := 0, slots := 0, locals := 29 } : Room) s m ([.ref h, .int sg, .int (nI a), .int (nI b)] : List Value).toArray below meth c H locs 0 0 (MQ below (va_Qv (fun (u9 : Unit) => True) (fun (u9 : Unit) t9 => bW D A (MW dA h ad (MS.s_isCell (MS.s_cells (MS.s_rowSeries (MS.s_tableRows (MS.s_nameLengths (MS.s_nameFroms (MS.s_tableNames x (va_up x.tableNames a (x.tableNames b))) (mvG x.nameFroms (6 * a) (6 * b) 6)) (mvG x.nameLengths (6 * a) (6 * b) 6)) (va_up x.tableRows a n)) (mvG x.rowSeries (256 * a) (256 * b) n)) c9) i9)) t9) A) ([.ref h, .int sg, .int (nI a), .int (nI b)] : List Value).toArray s 0 0 A) (F0 m 35 ls []) := by
            intro k9
            induction k9 using Nat.strongRecOn with
            | ind k9 ih35 =>
              intro r i3 c3 i4 i5 hk9 H locs ls hP hD hS hl
              refine lv_iload hx hb d_M_spread_35 (lv_at hl 0 rfl) ?_
              refine lv_aload_n hx hb d_M_spread_37 rfl (lv_at hl 6 rfl) ?_
              refine gF (v := .int (nI x.windows)) hx hb hown hE hK hP 0 rfl rfl layM 59 (by decide) w489 rfl d_M_spread_38 ?_
              refine lv_icmp_ge hx hb d_M_spread_41 (tgt := 78) rfl (fun g3 => ?_) (fun g3 => ?_)
              · have g3 := (nI_leI (a := x.windows) (b := r) (by omega) (by omega)).mp g3
                refine lv_iinc (k := 1) (v := nI (k - 1) - 1) hx hb d_M_spread_78 hl rfl (nI_mm z0) (by decide) rfl (fun ls hl => ?_)
                have hl : lv_has ls 7 [(5, .int (nI (k - 1) - 1)), (6, .int (nI r)), (4, .int (nI n)), (3, .int (nI b)), (2, .int (nI a)), (1, .int sg), (0, .ref h)] := hl
                refine lv_goto hx hb d_M_spread_81 (tgt := 27) rfl ?_
                exact ih27 _ (by omega) (k - 1) (j + 1) i3 c3 (by omega) (by show jrG sg (spG sg (x.isCell, x.cells) a b n x.windows j) (cA a (n - 1 - j)) (cA a 0) (cA b (n - 1 - j)) x.windows = _; rw [ie, show n - 1 - j = k - 1 by omega, ← show r = x.windows by omega]; exact i5) rfl H _ ls hP hD hS (lv_sub hl [0, 2, 3, 4, 5, 6] rfl)
              · have g3 := mt (nI_leI (a := x.windows) (b := r) (by omega) (by omega)).mpr g3
                refine lv_aload_n hx hb d_M_spread_44 rfl (lv_at hl 6 rfl) ?_
                refine lv_iload_n hx hb d_M_spread_45 rfl (lv_at hl 5 rfl) ?_
                refine lv_iload_n hx hb d_M_spread_46 rfl (lv_at hl 4 rfl) ?_
                refine lv_iload hx hb d_M_spread_47 (lv_at hl 1 rfl) ?_
                refine tpi (y := nI (k - 1)) (nI_m1 z0) ?_
                refine lv_iload hx hb d_M_spread_49 (lv_at hl 0 rfl) ?_
                have hPc := hP.sub (ws' := []) [] rfl
                have hDc := hD.sub (ws' := []) [] (by decide) rfl
                refine jnI (rnS (As := [.int (nI a), .int (nI (k - 1)), .int (nI r)]) (rest := [.int sg, .ref h]) hx hb hml hown hE hK (hN _ _ hS) hPc hDc (k_cellAt l D dA H.size a (k - 1) r) w971 w970 w972 w328 rfl rfl ⟨⟨by decide, by decide⟩, rfl⟩ ⟨(Nat.le_of_ble_eq_true rfl), (Nat.le_of_ble_eq_true rfl)⟩ rfl hl.1 rfl (Nat.le_of_ble_eq_true rfl) d_M_spread_51 ⟨(Nat.le_of_ble_eq_true rfl), (Nat.le_of_ble_eq_true rfl)⟩) hP hD hS hA [] [0, 1, 2, 3, 4, 5, 6, 7, 8, 9, 10, 11, 12, 13, 14, 15, 16, 17, 18, 19, 20, 21, 22, 23, 24, 25, 26, 27, 28, 29, 30, 31, 32, 33, 34, 35, 36, 37, 38] (wr := MW dA h ad (MS.s_isCell (MS.s_cells x c3) i3)) rfl rfl (by decide) (by decide) (fun r4 u9 H locs hp9 hP hD hS => ?_)
                have hP : va_P D vwCl (MW dA h ad (MS.s_isCell (MS.s_cells x c3) i3)) H := hP
                have hD : va_D A (MW dA h ad (MS.s_isCell (MS.s_cells x c3) i3)) := hD
                replace hp9 : nI ((a * 256 + (k - 1)) * 64 + r) = r4 := Eq.symm hp9
                subst hp9
                refine lv_iload_n hx hb d_M_spread_54 rfl (lv_at hl 4 rfl) ?_
                refine lv_iconst (v := 0) hx hb d_M_spread_55 (by decide) ?_
                refine lv_iload hx hb d_M_spread_56 (lv_at hl 0 rfl) ?_
                have hPc := hP.sub (ws' := []) [] rfl
                have hDc := hD.sub (ws' := []) [] (by decide) rfl
                refine jnI (rnS (As := [.int (nI a), .int 0, .int (nI r)]) (rest := [.int (nI ((a * 256 + (k - 1)) * 64 + r)), .int sg, .ref h]) hx hb hml hown hE hK (hN _ _ hS) hPc hDc (k_cellAt l D dA H.size a 0 r) w971 w970 w972 w328 rfl rfl ⟨⟨by decide, by decide⟩, rfl⟩ ⟨(Nat.le_of_ble_eq_true rfl), (Nat.le_of_ble_eq_true rfl)⟩ rfl hl.1 rfl (Nat.le_of_ble_eq_true rfl) d_M_spread_58 ⟨(Nat.le_of_ble_eq_true rfl), (Nat.le_of_ble_eq_true rfl)⟩) hP hD hS hA [] [0, 1, 2, 3, 4, 5, 6, 7, 8, 9, 10, 11, 12, 13, 14, 15, 16, 17, 18, 19, 20, 21, 22, 23, 24, 25, 26, 27, 28, 29, 30, 31, 32, 33, 34, 35, 36, 37, 38] (wr := MW dA h ad (MS.s_isCell (MS.s_cells x c3) i3)) rfl rfl (by decide) (by decide) (fun r6 u9 H locs hp9 hP hD hS => ?_)
                have hP : va_P D vwCl (MW dA h ad (MS.s_isCell (MS.s_cells x c3) i3)) H := hP
                have hD : va_D A (MW dA h ad (MS.s_isCell (MS.s_cells x c3) i3)) := hD
                replace hp9 : nI ((a * 256 + 0) * 64 + r) = r6 := Eq.symm hp9
                subst hp9
                refine lv_iload_n hx hb d_M_spread_61 rfl (lv_at hl 3 rfl) ?_
                refine lv_iload hx hb d_M_spread_62 (lv_at hl 1 rfl) ?_
                refine tpi (y := nI (k - 1)) (nI_m1 z0) ?_
                refine lv_iload hx hb d_M_spread_64 (lv_at hl 0 rfl) ?_
                have hPc := hP.sub (ws' := []) [] rfl
                have hDc := hD.sub (ws' := []) [] (by decide) rfl
                refine jnI (rnS (As := [.int (nI b), .int (nI (k - 1)), .int (nI r)]) (rest := [.int (nI ((a * 256 + 0) * 64 + r)), .int (nI ((a * 256 + (k - 1)) * 64 + r)), .int sg, .ref h]) hx hb hml hown hE hK (hN _ _ hS) hPc hDc (k_cellAt l D dA H.size b (k - 1) r) w971 w970 w972 w328 rfl rfl ⟨⟨by decide, by decide⟩, rfl⟩ ⟨(Nat.le_of_ble_eq_true rfl), (Nat.le_of_ble_eq_true rfl)⟩ rfl hl.1 rfl (Nat.le_of_ble_eq_true rfl) d_M_spread_66 ⟨(Nat.le_of_ble_eq_true rfl), (Nat.le_of_ble_eq_true rfl)⟩) hP hD hS hA [] [0, 1, 2, 3, 4, 5, 6, 7, 8, 9, 10, 11, 12, 13, 14, 15, 16, 17, 18, 19, 20, 21, 22, 23, 24, 25, 26, 27, 28, 29, 30, 31, 32, 33, 34, 35, 36, 37, 38] (wr := MW dA h ad (MS.s_isCell (MS.s_cells x c3) i3)) rfl rfl (by decide) (by decide) (fun r8 u9 H locs hp9 hP hD hS => ?_)
                have hP : va_P D vwCl (MW dA h ad (MS.s_isCell (MS.s_cells x c3) i3)) H := hP
                have hD : va_D A (MW dA h ad (MS.s_isCell (MS.s_cells x c3) i3)) := hD
                replace hp9 : nI ((b * 256 + (k - 1)) * 64 + r) = r8 := Eq.symm hp9
                subst hp9
                refine jfV (rnV (As := [.int sg, .int (nI ((a * 256 + (k - 1)) * 64 + r)), .int (nI ((a * 256 + 0) * 64 + r)), .int (nI ((b * 256 + (k - 1)) * 64 + r))]) (rest := []) hx hb hml hown hE hK (hN _ _ hS) hP hD (k_join l D dA H.size h ad (MS.s_isCell (MS.s_cells x c3) i3) sg ((a * 256 + (k - 1)) * 64 + r) ((a * 256 + 0) * 64 + r) ((b * 256 + (k - 1)) * 64 + r) hsg (show ((a * 256 + (k - 1)) * 64 + r) < 327680 from by omega) (show ((a * 256 + 0) * 64 + r) < 327680 from by omega) (show ((b * 256 + (k - 1)) * 64 + r) < 327680 from by omega)) (q0 := 0) rfl rfl w974 w973 w975 w976 w328 rfl rfl ⟨⟨by decide, by decide⟩, rfl⟩ ⟨(Nat.le_of_ble_eq_true rfl), (Nat.le_of_ble_eq_true rfl)⟩ rfl hl.1 rfl (Nat.le_of_ble_eq_true rfl) d_M_spread_69 ⟨(Nat.le_of_ble_eq_true rfl), (Nat.le_of_ble_eq_true rfl)⟩) hP hD hS hA (fun u11 H locs hp9 hP hD hS => ?_)
                have hP : va_P D vwCl (MW dA h ad (MS.s_isCell (MS.s_cells x (va_up c3 ((a * 256 + (k - 1)) * 64 + r) (jnW sg (jnB sg (i3 ((a * 256 + 0) * 64 + r)) (i3 ((b * 256 + (k - 1)) * 64 + r)) (c3 ((b * 256 + (k - 1)) * 64 + r))) (c3 ((a * 256 + 0) * 64 + r)) (c3 ((b * 256 + (k - 1)) * 64 + r))))) (va_up i3 ((a * 256 + (k - 1)) * 64 + r) (jnB sg (i3 ((a * 256 + 0) * 64 + r)) (i3 ((b * 256 + (k - 1)) * 64 + r)) (c3 ((b * 256 + (k - 1)) * 64 + r)))))) H := hP
                have hD : va_D A (MW dA h ad (MS.s_isCell (MS.s_cells x (va_up c3 ((a * 256 + (k - 1)) * 64 + r) (jnW sg (jnB sg (i3 ((a * 256 + 0) * 64 + r)) (i3 ((b * 256 + (k - 1)) * 64 + r)) (c3 ((b * 256 + (k - 1)) * 64 + r))) (c3 ((a * 256 + 0) * 64 + r)) (c3 ((b * 256 + (k - 1)) * 64 + r))))) (va_up i3 ((a * 256 + (k - 1)) * 64 + r) (jnB sg (i3 ((a * 256 + 0) * 64 + r)) (i3 ((b * 256 + (k - 1)) * 64 + r)) (c3 ((b * 256 + (k - 1)) * 64 + r)))))) := hD
                refine lv_iinc (k := 0) (v := nI (r + 1)) hx hb d_M_spread_72 hl rfl (iincN (r) 1 1 (by decide)) (by decide) rfl (fun ls hl => ?_)
                have hl : lv_has ls 7 [(6, .int (nI (r + 1))), (5, .int (nI k - 1)), (4, .int (nI n)), (3, .int (nI b)), (2, .int (nI a)), (1, .int sg), (0, .ref h)] := hl
                refine lv_goto hx hb d_M_spread_75 (tgt := 35) rfl ?_
                exact ih35 _ (by omega) (r + 1) (va_up i3 ((a * 256 + (k - 1)) * 64 + r) (jnB sg (i3 ((a * 256 + 0) * 64 + r)) (i3 ((b * 256 + (k - 1)) * 64 + r)) (c3 ((b * 256 + (k - 1)) * 64 + r)))) (va_up c3 ((a * 256 + (k - 1)) * 64 + r) (jnW sg (jnB sg (i3 ((a * 256 + 0) * 64 + r)) (i3 ((b * 256 + (k - 1)) * 64 + r)) (c3 ((b * 256 + (k - 1)) * 64 + r))) (c3 ((a * 256 + 0) * 64 + r)) (c3 ((b * 256 + (k - 1)) * 64 + r)))) (by omega) (jrG_s i5) rfl H _ ls hP hD hS (lv_sub hl [0, 1, 2, 3, 4, 5, 6] rfl)
          exact L35 _ 0 i2 c2 (Nat.zero_le _) rfl rfl H _ ls hP hD hS (lv_sub hl [0, 1, 2, 3, 4, 5, 6] rfl)
    exact L27 _ n 0 x.isCell x.cells (by omega) rfl rfl H _ ls hP hD hS (lv_sub hl [0, 1, 2, 3, 4, 5] rfl)
  refine lv_aload_n hx hb d_M_spread_0 rfl (lv_at hl 0 rfl) ?_
  refine gF (v := .ref (ad 51)) hx hb hown hE hK hP 0 rfl rfl layM 51 (by decide) w521 rfl d_M_spread_1 ?_
  refine lv_iload_n hx hb d_M_spread_4 rfl (lv_at hl 2 rfl) ?_
  refine nild (f := (fun z9 => nI (x.tableRows z9))) hx hb hK hP 24 1 rfl rfl (a) (by omega) (by decide) d_M_spread_5 ?_
  refine lv_if_le hx hb d_M_spread_6 (tgt := 18) rfl (fun g12 => ?_) (fun g12 => ?_)
  · have g12 := (nI_leI (a := x.tableRows a) (b := 0) (by omega) (by decide)).mp g12
    refine lv_iconst (v := 0) hx hb d_M_spread_18 (by decide) ?_
    refine tpi (y := nI n) (by rw [← hn, if_neg (by omega)]; rfl) ?_
    exact J19  H _ ls hP hD hS (lv_sub hl [3, 2, 1, 0] rfl)
  · have g12 := mt (nI_leI (a := x.tableRows a) (b := 0) (by omega) (by decide)).mpr g12
    refine lv_aload_n hx hb d_M_spread_9 rfl (lv_at hl 0 rfl) ?_
    refine gF (v := .ref (ad 51)) hx hb hown hE hK hP 0 rfl rfl layM 51 (by decide) w521 rfl d_M_spread_10 ?_
    refine lv_iload_n hx hb d_M_spread_13 rfl (lv_at hl 3 rfl) ?_
    refine nild (f := (fun z9 => nI (x.tableRows z9))) hx hb hK hP 24 1 rfl rfl (b) (by omega) (by decide) d_M_spread_14 ?_
    refine tpi (y := nI n) (congrArg nI (by rw [← hn, if_pos (by omega)])) ?_
    refine lv_goto hx hb d_M_spread_15 (tgt := 19) rfl ?_
    exact J19  H _ ls hP hD hS (lv_sub hl [3, 2, 1, 0] rfl)
