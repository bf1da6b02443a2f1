def orB (n : Nat) (f : Nat → Bool) : Bool := anyB n f
/-- n places from a on copied to those from b on, one after the other -/
def mvG {α : Type} (f : Nat → α) (b a : Nat) : Nat → Nat → α
  | 0 => f
  | k + 1 => va_up (mvG f b a k) (b + k) (mvG f b a k (a + k))
abbrev swT : Type := Nat × (Nat → Bool) × (Nat → Int64) × (Nat → Nat)
/-- r rows of table t looked at: how many stay, the cells, the rows' series -/
def swG (ic : Nat → Bool) (ce : Nat → Int64) (rs : Nat → Nat) (t n : Nat) : Nat → swT
  | 0 => (0, ic, ce, rs)
  | r + 1 => if anyB n (fun w => (swG ic ce rs t n r).2.1 (cA t r + w)) = true then ((swG ic ce rs t n r).1 + 1, mvG (swG ic ce rs t n r).2.1 (cA t (swG ic ce rs t n r).1) (cA t r) n, mvG (swG ic ce rs t n r).2.2.1 (cA t (swG ic ce rs t n r).1) (cA t r) n, va_up (swG ic ce rs t n r).2.2.2 (256 * t + (swG ic ce rs t n r).1) ((swG ic ce rs t n r).2.2.2 (256 * t + r)))
    else swG ic ce rs t n r
theorem swG_f {ic : Nat → Bool} {ce : Nat → Int64} {rs : Nat → Nat} {t n r m : Nat} {i2 : Nat → Bool} {c2 : Nat → Int64} {r2 : Nat → Nat} (h : swG ic ce rs t n r = (m, i2, c2, r2)) (ha : anyB n (fun w => i2 (cA t r + w)) = false) : swG ic ce rs t n (r + 1) = (m, i2, c2, r2) := by
  show (if anyB n (fun w => (swG ic ce rs t n r).2.1 (cA t r + w)) = true then _ else _) = _
  rw [h, if_neg (by rw [ha]; decide)]
theorem swG_t {ic : Nat → Bool} {ce : Nat → Int64} {rs : Nat → Nat} {t n r m : Nat} {i2 : Nat → Bool} {c2 : Nat → Int64} {r2 : Nat → Nat} (h : swG ic ce rs t n r = (m, i2, c2, r2)) (ha : anyB n (fun w => i2 (cA t r + w)) = true) : swG ic ce rs t n (r + 1) = (m + 1, mvG i2 (cA t m) (cA t r) n, mvG c2 (cA t m) (cA t r) n, va_up r2 (256 * t + m) (r2 (256 * t + r))) := by
  show (if anyB n (fun w => (swG ic ce rs t n r).2.1 (cA t r + w)) = true then _ else _) = _
  rw [h, if_pos ha]
theorem d_M_sweep_0 : decode prog_14_method_71_code 0 = .ok (.iconst 0, 1) := by decide +kernel
theorem d_M_sweep_1 : decode prog_14_method_71_code 1 = .ok (.istore_n 2, 1) := by decide +kernel
theorem d_M_sweep_2 : decode prog_14_method_71_code 2 = .ok (.iconst 0, 1) := by decide +kernel
theorem d_M_sweep_3 : decode prog_14_method_71_code 3 = .ok (.istore_n 3, 1) := by decide +kernel
theorem d_M_sweep_4 : decode prog_14_method_71_code 4 = .ok (.iload_n 3, 1) := by decide +kernel
theorem d_M_sweep_5 : decode prog_14_method_71_code 5 = .ok (.aload_n 0, 1) := by decide +kernel
theorem d_M_sweep_6 : decode prog_14_method_71_code 6 = .ok (.getfield 97, 3) := by decide +kernel
theorem d_M_sweep_9 : decode prog_14_method_71_code 9 = .ok (.iload_n 1, 1) := by decide +kernel
theorem d_M_sweep_10 : decode prog_14_method_71_code 10 = .ok (.iaload, 1) := by decide +kernel
theorem d_M_sweep_11 : decode prog_14_method_71_code 11 = .ok (.if_icmp .ge 158, 3) := by decide +kernel
theorem d_M_sweep_169 : decode prog_14_method_71_code 169 = .ok (.aload_n 0, 1) := by decide +kernel
theorem d_M_sweep_170 : decode prog_14_method_71_code 170 = .ok (.getfield 97, 3) := by decide +kernel
theorem d_M_sweep_173 : decode prog_14_method_71_code 173 = .ok (.iload_n 1, 1) := by decide +kernel
theorem d_M_sweep_174 : decode prog_14_method_71_code 174 = .ok (.iload_n 2, 1) := by decide +kernel
theorem d_M_sweep_175 : decode prog_14_method_71_code 175 = .ok (.iastore, 1) := by decide +kernel
theorem d_M_sweep_176 : decode prog_14_method_71_code 176 = .ok (.return_, 1) := by decide +kernel
theorem d_M_sweep_62 : decode prog_14_method_71_code 62 = .ok (.iload 4, 2) := by decide +kernel
theorem d_M_sweep_64 : decode prog_14_method_71_code 64 = .ok (.ifCond .ne 6, 3) := by decide +kernel
theorem d_M_sweep_70 : decode prog_14_method_71_code 70 = .ok (.iconst 0, 1) := by decide +kernel
theorem d_M_sweep_71 : decode prog_14_method_71_code 71 = .ok (.istore 5, 2) := by decide +kernel
theorem d_M_sweep_73 : decode prog_14_method_71_code 73 = .ok (.iload 5, 2) := by decide +kernel
theorem d_M_sweep_75 : decode prog_14_method_71_code 75 = .ok (.aload_n 0, 1) := by decide +kernel
theorem d_M_sweep_76 : decode prog_14_method_71_code 76 = .ok (.getfield 412, 3) := by decide +kernel
theorem d_M_sweep_79 : decode prog_14_method_71_code 79 = .ok (.if_icmp .ge 57, 3) := by decide +kernel
theorem d_M_sweep_136 : decode prog_14_method_71_code 136 = .ok (.aload_n 0, 1) := by decide +kernel
theorem d_M_sweep_137 : decode prog_14_method_71_code 137 = .ok (.getfield 100, 3) := by decide +kernel
theorem d_M_sweep_140 : decode prog_14_method_71_code 140 = .ok (.sipush 256, 3) := by decide +kernel
theorem d_M_sweep_143 : decode prog_14_method_71_code 143 = .ok (.iload_n 1, 1) := by decide +kernel
theorem d_M_sweep_144 : decode prog_14_method_71_code 144 = .ok (.imul, 1) := by decide +kernel
theorem d_M_sweep_145 : decode prog_14_method_71_code 145 = .ok (.iload_n 2, 1) := by decide +kernel
theorem d_M_sweep_146 : decode prog_14_method_71_code 146 = .ok (.iadd, 1) := by decide +kernel
theorem d_M_sweep_147 : decode prog_14_method_71_code 147 = .ok (.aload_n 0, 1) := by decide +kernel
theorem d_M_sweep_148 : decode prog_14_method_71_code 148 = .ok (.getfield 100, 3) := by decide +kernel
theorem d_M_sweep_151 : decode prog_14_method_71_code 151 = .ok (.sipush 256, 3) := by decide +kernel
theorem d_M_sweep_154 : decode prog_14_method_71_code 154 = .ok (.iload_n 1, 1) := by decide +kernel
theorem d_M_sweep_155 : decode prog_14_method_71_code 155 = .ok (.imul, 1) := by decide +kernel
theorem d_M_sweep_156 : decode prog_14_method_71_code 156 = .ok (.iload_n 3, 1) := by decide +kernel
theorem d_M_sweep_157 : decode prog_14_method_71_code 157 = .ok (.iadd, 1) := by decide +kernel
theorem d_M_sweep_158 : decode prog_14_method_71_code 158 = .ok (.iaload, 1) := by decide +kernel
theorem d_M_sweep_159 : decode prog_14_method_71_code 159 = .ok (.iastore, 1) := by decide +kernel
theorem d_M_sweep_160 : decode prog_14_method_71_code 160 = .ok (.iinc 2 1, 3) := by decide +kernel
theorem d_M_sweep_163 : decode prog_14_method_71_code 163 = .ok (.iinc 3 1, 3) := by decide +kernel
theorem d_M_sweep_166 : decode prog_14_method_71_code 166 = .ok (.goto (-162), 3) := by decide +kernel
theorem d_M_sweep_82 : decode prog_14_method_71_code 82 = .ok (.aload_n 0, 1) := by decide +kernel
theorem d_M_sweep_83 : decode prog_14_method_71_code 83 = .ok (.getfield 107, 3) := by decide +kernel
theorem d_M_sweep_86 : decode prog_14_method_71_code 86 = .ok (.iload_n 1, 1) := by decide +kernel
theorem d_M_sweep_87 : decode prog_14_method_71_code 87 = .ok (.iload_n 2, 1) := by decide +kernel
theorem d_M_sweep_88 : decode prog_14_method_71_code 88 = .ok (.iload 5, 2) := by decide +kernel
theorem d_M_sweep_90 : decode prog_14_method_71_code 90 = .ok (.invokestatic 397, 3) := by decide +kernel
theorem d_M_sweep_93 : decode prog_14_method_71_code 93 = .ok (.aload_n 0, 1) := by decide +kernel
theorem d_M_sweep_94 : decode prog_14_method_71_code 94 = .ok (.getfield 107, 3) := by decide +kernel
theorem d_M_sweep_97 : decode prog_14_method_71_code 97 = .ok (.iload_n 1, 1) := by decide +kernel
theorem d_M_sweep_98 : decode prog_14_method_71_code 98 = .ok (.iload_n 3, 1) := by decide +kernel
theorem d_M_sweep_99 : decode prog_14_method_71_code 99 = .ok (.iload 5, 2) := by decide +kernel
theorem d_M_sweep_101 : decode prog_14_method_71_code 101 = .ok (.invokestatic 397, 3) := by decide +kernel
theorem d_M_sweep_104 : decode prog_14_method_71_code 104 = .ok (.baload, 1) := by decide +kernel
theorem d_M_sweep_105 : decode prog_14_method_71_code 105 = .ok (.bastore, 1) := by decide +kernel
theorem d_M_sweep_106 : decode prog_14_method_71_code 106 = .ok (.aload_n 0, 1) := by decide +kernel
theorem d_M_sweep_107 : decode prog_14_method_71_code 107 = .ok (.getfield 104, 3) := by decide +kernel
theorem d_M_sweep_110 : decode prog_14_method_71_code 110 = .ok (.iload_n 1, 1) := by decide +kernel
theorem d_M_sweep_111 : decode prog_14_method_71_code 111 = .ok (.iload_n 2, 1) := by decide +kernel
theorem d_M_sweep_112 : decode prog_14_method_71_code 112 = .ok (.iload 5, 2) := by decide +kernel
theorem d_M_sweep_114 : decode prog_14_method_71_code 114 = .ok (.invokestatic 397, 3) := by decide +kernel
theorem d_M_sweep_117 : decode prog_14_method_71_code 117 = .ok (.aload_n 0, 1) := by decide +kernel
theorem d_M_sweep_118 : decode prog_14_method_71_code 118 = .ok (.getfield 104, 3) := by decide +kernel
theorem d_M_sweep_121 : decode prog_14_method_71_code 121 = .ok (.iload_n 1, 1) := by decide +kernel
theorem d_M_sweep_122 : decode prog_14_method_71_code 122 = .ok (.iload_n 3, 1) := by decide +kernel
theorem d_M_sweep_123 : decode prog_14_method_71_code 123 = .ok (.iload 5, 2) := by decide +kernel
theorem d_M_sweep_125 : decode prog_14_method_71_code 125 = .ok (.invokestatic 397, 3) := by decide +kernel
theorem d_M_sweep_128 : decode prog_14_method_71_code 128 = .ok (.laload, 1) := by decide +kernel
theorem d_M_sweep_129 : decode prog_14_method_71_code 129 = .ok (.lastore, 1) := by decide +kernel
theorem d_M_sweep_130 : decode prog_14_method_71_code 130 = .ok (.iinc 5 1, 3) := by decide +kernel
theorem d_M_sweep_133 : decode prog_14_method_71_code 133 = .ok (.goto (-60), 3) := by decide +kernel
theorem d_M_sweep_67 : decode prog_14_method_71_code 67 = .ok (.goto 96, 3) := by decide +kernel
theorem d_M_sweep_14 : decode prog_14_method_71_code 14 = .ok (.iconst 0, 1) := by decide +kernel
theorem d_M_sweep_15 : decode prog_14_method_71_code 15 = .ok (.istore 4, 2) := by decide +kernel
theorem d_M_sweep_17 : decode prog_14_method_71_code 17 = .ok (.iconst 0, 1) := by decide +kernel
theorem d_M_sweep_18 : decode prog_14_method_71_code 18 = .ok (.istore 5, 2) := by decide +kernel
theorem d_M_sweep_20 : decode prog_14_method_71_code 20 = .ok (.iload 5, 2) := by decide +kernel
theorem d_M_sweep_22 : decode prog_14_method_71_code 22 = .ok (.aload_n 0, 1) := by decide +kernel
theorem d_M_sweep_23 : decode prog_14_method_71_code 23 = .ok (.getfield 412, 3) := by decide +kernel
theorem d_M_sweep_26 : decode prog_14_method_71_code 26 = .ok (.if_icmp .ge 36, 3) := by decide +kernel
theorem d_M_sweep_29 : decode prog_14_method_71_code 29 = .ok (.iload 4, 2) := by decide +kernel
theorem d_M_sweep_31 : decode prog_14_method_71_code 31 = .ok (.ifCond .ne 18, 3) := by decide +kernel
theorem d_M_sweep_49 : decode prog_14_method_71_code 49 = .ok (.iconst 1, 1) := by decide +kernel
theorem d_M_sweep_50 : decode prog_14_method_71_code 50 = .ok (.goto 4, 3) := by decide +kernel
theorem d_M_sweep_54 : decode prog_14_method_71_code 54 = .ok (.istore 4, 2) := by decide +kernel
theorem d_M_sweep_56 : decode prog_14_method_71_code 56 = .ok (.iinc 5 1, 3) := by decide +kernel
theorem d_M_sweep_59 : decode prog_14_method_71_code 59 = .ok (.goto (-39), 3) := by decide +kernel
theorem d_M_sweep_34 : decode prog_14_method_71_code 34 = .ok (.aload_n 0, 1) := by decide +kernel
theorem d_M_sweep_35 : decode prog_14_method_71_code 35 = .ok (.getfield 107, 3) := by decide +kernel
theorem d_M_sweep_38 : decode prog_14_method_71_code 38 = .ok (.iload_n 1, 1) := by decide +kernel
theorem d_M_sweep_39 : decode prog_14_method_71_code 39 = .ok (.iload_n 3, 1) := by decide +kernel
theorem d_M_sweep_40 : decode prog_14_method_71_code 40 = .ok (.iload 5, 2) := by decide +kernel
theorem d_M_sweep_42 : decode prog_14_method_71_code 42 = .ok (.invokestatic 397, 3) := by decide +kernel
theorem d_M_sweep_45 : decode prog_14_method_71_code 45 = .ok (.baload, 1) := by decide +kernel
theorem d_M_sweep_46 : decode prog_14_method_71_code 46 = .ok (.ifCond .eq 7, 3) := by decide +kernel
theorem d_M_sweep_53 : decode prog_14_method_71_code 53 = .ok (.iconst 0, 1) := by decide +kernel
set_option maxHeartbeats 4000000 in
set_option maxRecDepth 100000 in
theorem k_sweep (l : Launch) (D : va_G) (dA : Nat → ClassId) (sz : Nat) (h : Nat) (ad : Nat → Nat) (x : MS) (t : Nat) (b : Nat) (i9 : Nat → Bool) (c9 : Nat → Int64) (r9x : Nat → Nat) (h1 : t < 20) (h2 : x.windows ≤ 64) (h3 : x.tableRows t ≤ 256) (hsw : swG x.isCell x.cells x.rowSeries t x.windows (x.tableRows t) = (b, i9, c9, r9x)) : Met l ⟨"SeriesVaultModel", "sweep", "(I)V"⟩ [Cond.code ⟨"SeriesVaultModel", "sweep", "(I)V"⟩ prog_14_method_71_code 6 none] { frames := 2, cells := 0, slots := 0, locals := 22 } (pC D dA [.ref h, .int (nI t)] (MW dA h ad x) sz) (va_Qv (fun (u9 : Unit) => True) (fun (u9 : Unit) t9 => bW D (va_A (MW dA h ad x) sz) (MW dA h ad (MS.s_isCell (MS.s_cells (MS.s_rowSeries (MS.s_tableRows x (va_up x.tableRows t b)) r9x) c9) i9)) t9) (va_A (MW dA h ad x) sz)) 0 0 (va_A (MW dA h ad x) sz) := by
  refine mkC (y := ⟨"SeriesVaultModel", "sweep", "(I)V"⟩) (cc := prog_14_method_71_code) (maxL := 6) (av := [.ref h, .int (nI t)]) (ws := MW dA h ad x) (sz := sz) (Qc := fun A => va_Qv (fun (u9 : Unit) => True) (fun (u9 : Unit) t9 => bW D A (MW dA h ad (MS.s_isCell (MS.s_cells (MS.s_rowSeries (MS.s_tableRows x (va_up x.tableRows t b)) r9x) c9) i9)) t9) A) (by decide) (Nat.le_of_ble_eq_true rfl) ?_
  intro A p e s m below meth c ls hsz hB
  obtain ⟨hx, hb, hr, hml, hown, hin, hlk, hE, hK, hP, hD, hS, hA, hN, hl⟩ := hB
  have hown : s.vm.findClass "SeriesVaultModel" = some m.cls := hown
  have hl : lv_has ls 6 [(0, .ref h), (1, .int (nI t))] := hl
  obtain ⟨H, hH⟩ : ∃ z, z = s.heap := ⟨_, rfl⟩
  have hP : va_P D vwCl (MW dA h ad x) H := by rw [hH]; exact hP
  have hS : va_S A s.heap H [] := by rw [hH]; exact hS
  rw [← hH]
  refine lv_iconst (v := 0) hx hb d_M_sweep_0 (by decide) ?_
  refine lv_istore_n hx hb d_M_sweep_1 rfl hl (by decide) rfl (fun ls hl => ?_)
  have hl : lv_has ls 6 [(2, .int 0), (0, .ref h), (1, .int (nI t))] := hl
  refine lv_iconst (v := 0) hx hb d_M_sweep_2 (by decide) ?_
  refine lv_istore_n hx hb d_M_sweep_3 rfl hl (by decide) rfl (fun ls hl => ?_)
  have hl : lv_has ls 6 [(3, .int 0), (2, .int 0), (0, .ref h), (1, .int (nI t))] := hl
  have L4 : ∀ (k9 : Nat) (r : Nat) (n : Nat) (i2 : Nat → Bool) (c2 : Nat → Int64) (r2 : Nat → Nat) (i1 : r ≤ x.tableRows t) (ie : swG x.isCell x.cells x.rowSeries t x.windows r = (n, i2, c2, r2)) (in_ : n ≤ r) (hk9 : x.tableRows t - r = k9), ∀ (H : Heap) (locs : List Loc) (ls : Array Slot) (hP : va_P D vwCl (MW dA h ad (MS.s_isCell (MS.s_cells (MS.s_rowSeries x r2) c2) i2)) H) (hD : va_D A (MW dA h ad (MS.s_isCell (MS.s_cells (MS.s_rowSeries x r2) c2) i2))) (hS : va_S A s.heap H locs) (hl : lv_has ls 6 [(3, .int (nI r)), (2, .int (nI n)), (1, .int (nI t)), (0, .ref h)]), W p l e ({ frames := 2, cells := 0, slots := 0, locals := 22 } : Room) s m ([.ref h, .int (nI t)] : List Value).toArray below meth c H locs 0 0 (MQ below (va_Qv (fun (u9 : Unit) => True) (fun (u9 : Unit) t9 => bW D A (MW dA h ad (MS.s_isCell (MS.s_cells (MS.s_rowSeries (MS.s_tableRows x (va_up x.tableRows t b)) r9x) c9) i9)) t9) A) ([.ref h, .int (nI t)] : List Value).toArray s 0 0 A) (F0 m 4 ls []) := by
    intro k9
    induction k9 using Nat.strongRecOn with
    | ind k9 ih4 =>
      intro r n i2 c2 r2 i1 ie in_ hk9 H locs ls hP hD hS hl
      refine lv_iload_n hx hb d_M_sweep_4 rfl (lv_at hl 0 rfl) ?_
      refine lv_aload_n hx hb d_M_sweep_5 rfl (lv_at hl 3 rfl) ?_
      refine gF (v := .ref (ad 51)) hx hb hown hE hK hP 0 rfl rfl layM 51 (by decide) w521 rfl d_M_sweep_6 ?_
      refine lv_iload_n hx hb d_M_sweep_9 rfl (lv_at hl 2 rfl) ?_
      refine nild (f := (fun z9 => nI (x.tableRows z9))) hx hb hK hP 24 1 rfl rfl (t) (by omega) (by decide) d_M_sweep_10 ?_
      refine lv_icmp_ge hx hb d_M_sweep_11 (tgt := 169) rfl (fun g1 => ?_) (fun g1 => ?_)
      · have g1 := (nI_leI (a := x.tableRows t) (b := r) (by omega) (by omega)).mp g1
        have ie2 : (b, i9, c9, r9x) = (n, i2, c2, r2) := by rw [← hsw, ← show r = x.tableRows t by omega]; exact ie
        obtain ⟨q1, q2, q3, q4⟩ : b = n ∧ i9 = i2 ∧ c9 = c2 ∧ r9x = r2 := ⟨congrArg (fun z => z.1) ie2, congrArg (fun z => z.2.1) ie2, congrArg (fun z => z.2.2.1) ie2, congrArg (fun z => z.2.2.2) ie2⟩
        refine lv_aload_n hx hb d_M_sweep_169 rfl (lv_at hl 3 rfl) ?_
        refine gF (v := .ref (ad 51)) hx hb hown hE hK hP 0 rfl rfl layM 51 (by decide) w521 rfl d_M_sweep_170 ?_
        refine lv_iload_n hx hb d_M_sweep_173 rfl (lv_at hl 2 rfl) ?_
        refine lv_iload_n hx hb d_M_sweep_174 rfl (lv_at hl 1 rfl) ?_
        refine nistN (v := n) hx hb hK hP hD hS 24 1 rfl rfl (t) (by omega) (by decide) d_M_sweep_175 (fun H locs hP hD hS => ?_)
        have hP : va_P D vwCl (MW dA h ad (MS.s_isCell (MS.s_cells (MS.s_rowSeries (MS.s_tableRows x (va_up x.tableRows t n)) r2) c2) i2)) H := hP
        have hD : va_D A (MW dA h ad (MS.s_isCell (MS.s_cells (MS.s_rowSeries (MS.s_tableRows x (va_up x.tableRows t n)) r2) c2) i2)) := hD
        have e9 : (MS.s_isCell (MS.s_cells (MS.s_rowSeries (MS.s_tableRows x (va_up x.tableRows t n)) r2) c2) i2 : MS) = MS.s_isCell (MS.s_cells (MS.s_rowSeries (MS.s_tableRows x (va_up x.tableRows t b)) r9x) c9) i9 := by rw [show (va_up x.tableRows t b) = (va_up x.tableRows t n) from by (rw [q1]), show r9x = r2 from by (exact q4), show c9 = c2 from by (exact q3), show i9 = i2 from by (exact q2)] <;> rfl
        exact rfV hx hb hr hlk hS () trivial (cvP e9 hP) (cvD e9 hD) (Nat.le_of_ble_eq_true rfl) (Nat.le_of_ble_eq_true rfl) d_M_sweep_176
      · have g1 := mt (nI_leI (a := x.tableRows t) (b := r) (by omega) (by omega)).mpr g1
        have J62 : ∀ (v : Bool) (m3 : anyB x.windows (fun w => i2 (cA t r + w)) = v), ∀ (H : Heap) (locs : List Loc) (ls : Array Slot) (hP : va_P D vwCl (MW dA h ad (MS.s_isCell (MS.s_cells (MS.s_rowSeries x r2) c2) i2)) H) (hD : va_D A (MW dA h ad (MS.s_isCell (MS.s_cells (MS.s_rowSeries x r2) c2) i2))) (hS : va_S A s.heap H locs) (hl : lv_has ls 6 [(4, .int (bI v)), (3, .int (nI r)), (2, .int (nI n)), (1, .int (nI t)), (0, .ref h)]), W p l e ({ frames := 2, cells := 0, slots := 0, locals := 22 } : Room) s m ([.ref h, .int (nI t)] : List Value).toArray below meth c H locs 0 0 (MQ below (va_Qv (fun (u9 : Unit) => True) (fun (u9 : Unit) t9 => bW D A (MW dA h ad (MS.s_isCell (MS.s_cells (MS.s_rowSeries (MS.s_tableRows x (va_up x.tableRows t b)) r9x) c9) i9)) t9) A) ([.ref h, .int (nI t)] : List Value).toArray s 0 0 A) (F0 m 62 ls []) := by
          intro v m3 H locs ls hP hD hS hl
          refine lv_iload hx hb d_M_sweep_62 (lv_at hl 0 rfl) ?_
          refine lv_if_ne hx hb d_M_sweep_64 (tgt := 70) rfl (fun g2 => ?_) (fun g2 => ?_)
          · have g2 := bI_n0 g2
            refine lv_iconst (v := 0) hx hb d_M_sweep_70 (by decide) ?_
            refine lv_istore hx hb d_M_sweep_71 hl (by decide) rfl (fun ls hl => ?_)
            have hl : lv_has ls 6 [(5, .int 0), (4, .int (bI v)), (3, .int (nI r)), (2, .int (nI n)), (1, .int (nI t)), (0, .ref h)] := hl
            have L73 : ∀ (k9 : Nat) (k : Nat) (m1 : k ≤ x.windows) (hk9 : x.windows - k = k9), ∀ (H : Heap) (locs : List Loc) (ls : Array Slot) (hP : va_P D vwCl (MW dA h ad (MS.s_isCell (MS.s_cells (MS.s_rowSeries x r2) (mvG c2 (cA t n) (cA t r) k)) (mvG i2 (cA t n) (cA t r) k))) H) (hD : va_D A (MW dA h ad (MS.s_isCell (MS.s_cells (MS.s_rowSeries x r2) (mvG c2 (cA t n) (cA t r) k)) (mvG i2 (cA t n) (cA t r) k)))) (hS : va_S A s.heap H locs) (hl : lv_has ls 6 [(5, .int (nI k)), (3, .int (nI r)), (2, .int (nI n)), (1, .int (nI t)), (0, .ref h)]), W p l e ({ frames := 2, cells := 0, slots := 0, locals := 22 } : Room) s m ([.ref h, .int (nI t)] : List Value).toArray below meth c H locs 0 0 (MQ below (va_Qv (fun (u9 : Unit) => True) (fun (u9 : Unit) t9 => bW D A (MW dA h ad (MS.s_isCell (MS.s_cells (MS.s_rowSeries (MS.s_tableRows x (va_up x.tableRows t b)) r9x) c9) i9)) t9) A) ([.ref h, .int (nI t)] : List Value).toArray s 0 0 A) (F0 m 73 ls []) := by
              intro k9
              induction k9 using Nat.strongRecOn with
              | ind k9 ih73 =>
                intro k m1 hk9 H locs ls hP hD hS hl
                refine lv_iload hx hb d_M_sweep_73 (lv_at hl 0 rfl) ?_
                refine lv_aload_n hx hb d_M_sweep_75 rfl (lv_at hl 4 rfl) ?_
                refine gF (v := .int (nI x.windows)) hx hb hown hE hK hP 0 rfl rfl layM 59 (by decide) w489 rfl d_M_sweep_76 ?_
                refine lv_icmp_ge hx hb d_M_sweep_79 (tgt := 136) rfl (fun g3 => ?_) (fun g3 => ?_)
                · have g3 := (nI_leI (a := x.windows) (b := k) (by omega) (by omega)).mp g3
                  refine lv_aload_n hx hb d_M_sweep_136 rfl (lv_at hl 4 rfl) ?_
                  refine gF (v := .ref (ad 52)) hx hb hown hE hK hP 0 rfl rfl layM 52 (by decide) w522 rfl d_M_sweep_137 ?_
                  refine lv_sipush (v := 256) hx hb d_M_sweep_140 (by decide) ?_
                  refine lv_iload_n hx hb d_M_sweep_143 rfl (lv_at hl 3 rfl) ?_
                  refine lv_imul hx hb d_M_sweep_144 (tpi (y := nI (256 * t)) (pk_mul (256) (t)) ?_)
                  refine lv_iload_n hx hb d_M_sweep_145 rfl (lv_at hl 2 rfl) ?_
                  refine lv_iadd hx hb d_M_sweep_146 (tpi (y := nI ((256 * t) + n)) (nI_add (256 * t) (n)) ?_)
                  refine lv_aload_n hx hb d_M_sweep_147 rfl (lv_at hl 4 rfl) ?_
                  refine gF (v := .ref (ad 52)) hx hb hown hE hK hP 0 rfl rfl layM 52 (by decide) w522 rfl d_M_sweep_148 ?_
                  refine lv_sipush (v := 256) hx hb d_M_sweep_151 (by decide) ?_
                  refine lv_iload_n hx hb d_M_sweep_154 rfl (lv_at hl 3 rfl) ?_
                  refine lv_imul hx hb d_M_sweep_155 (tpi (y := nI (256 * t)) (pk_mul (256) (t)) ?_)
                  refine lv_iload_n hx hb d_M_sweep_156 rfl (lv_at hl 1 rfl) ?_
                  refine lv_iadd hx hb d_M_sweep_157 (tpi (y := nI ((256 * t) + r)) (nI_add (256 * t) (r)) ?_)
                  refine nild (f := (fun z9 => nI (r2 z9))) hx hb hK hP 25 1 rfl rfl ((256 * t) + r) (by omega) (by decide) d_M_sweep_158 ?_
                  refine nistN (v := r2 ((256 * t) + r)) hx hb hK hP hD hS 25 1 rfl rfl ((256 * t) + n) (by omega) (by decide) d_M_sweep_159 (fun H locs hP hD hS => ?_)
                  have hP : va_P D vwCl (MW dA h ad (MS.s_isCell (MS.s_cells (MS.s_rowSeries x (va_up r2 ((256 * t) + n) (r2 ((256 * t) + r)))) (mvG c2 (cA t n) (cA t r) k)) (mvG i2 (cA t n) (cA t r) k))) H := hP
                  have hD : va_D A (MW dA h ad (MS.s_isCell (MS.s_cells (MS.s_rowSeries x (va_up r2 ((256 * t) + n) (r2 ((256 * t) + r)))) (mvG c2 (cA t n) (cA t r) k)) (mvG i2 (cA t n) (cA t r) k))) := hD
                  have sn9 : swG x.isCell x.cells x.rowSeries t x.windows (r + 1) = (n + 1, mvG i2 (cA t n) (cA t r) k, mvG c2 (cA t n) (cA t r) k, va_up r2 (256 * t + n) (r2 (256 * t + r))) := by rw [show k = x.windows by omega]; exact swG_t ie (m3.trans g2)
                  refine lv_iinc (k := 2) (v := nI (n + 1)) hx hb d_M_sweep_160 hl rfl (iincN (n) 1 1 (by decide)) (by decide) rfl (fun ls hl => ?_)
                  have hl : lv_has ls 6 [(2, .int (nI (n + 1))), (5, .int (nI k)), (3, .int (nI r)), (1, .int (nI t)), (0, .ref h)] := hl
                  refine lv_iinc (k := 2) (v := nI (r + 1)) hx hb d_M_sweep_163 hl rfl (iincN (r) 1 1 (by decide)) (by decide) rfl (fun ls hl => ?_)
                  have hl : lv_has ls 6 [(3, .int (nI (r + 1))), (2, .int (nI (n + 1))), (5, .int (nI k)), (1, .int (nI t)), (0, .ref h)] := hl
                  refine lv_goto hx hb d_M_sweep_166 (tgt := 4) rfl ?_
                  exact ih4 _ (by omega) (r + 1) (n + 1) (mvG i2 (cA t n) (cA t r) k) (mvG c2 (cA t n) (cA t r) k) (va_up r2 ((256 * t) + n) (r2 ((256 * t) + r))) (by omega) sn9 (by omega) rfl H _ ls hP hD hS (lv_sub hl [0, 1, 3, 4] rfl)
                · have g3 := mt (nI_leI (a := x.windows) (b := k) (by omega) (by omega)).mpr g3
                  refine lv_aload_n hx hb d_M_sweep_82 rfl (lv_at hl 4 rfl) ?_
                  refine gF (v := .ref (ad 54)) hx hb hown hE hK hP 0 rfl rfl layM 54 (by decide) w526 rfl d_M_sweep_83 ?_
                  refine lv_iload_n hx hb d_M_sweep_86 rfl (lv_at hl 3 rfl) ?_
                  refine lv_iload_n hx hb d_M_sweep_87 rfl (lv_at hl 2 rfl) ?_
                  refine lv_iload hx hb d_M_sweep_88 (lv_at hl 0 rfl) ?_
                  have hPc := hP.sub (ws' := []) [] rfl
                  have hDc := hD.sub (ws' := []) [] (by decide) rfl
                  refine jnI (rnS (As := [.int (nI t), .int (nI n), .int (nI k)]) (rest := [.ref (ad 54)]) hx hb hml hown hE hK (hN _ _ hS) hPc hDc (k_cellAt l D dA H.size t n k) w971 w970 w972 w328 rfl rfl ⟨⟨by decide, by decide⟩, rfl⟩ ⟨(Nat.le_of_ble_eq_true rfl), (Nat.le_of_ble_eq_true rfl)⟩ rfl hl.1 rfl (Nat.le_of_ble_eq_true rfl) d_M_sweep_90 ⟨(Nat.le_of_ble_eq_true rfl), (Nat.le_of_ble_eq_true rfl)⟩) hP hD hS hA [] [0, 1, 2, 3, 4, 5, 6, 7, 8, 9, 10, 11, 12, 13, 14, 15, 16, 17, 18, 19, 20, 21, 22, 23, 24, 25, 26, 27, 28, 29, 30, 31, 32, 33, 34, 35, 36, 37, 38] (wr := MW dA h ad (MS.s_isCell (MS.s_cells (MS.s_rowSeries x r2) (mvG c2 (cA t n) (cA t r) k)) (mvG i2 (cA t n) (cA t r) k))) rfl rfl (by decide) (by decide) (fun r4 u9 H locs hp9 hP hD hS => ?_)
                  have hP : va_P D vwCl (MW dA h ad (MS.s_isCell (MS.s_cells (MS.s_rowSeries x r2) (mvG c2 (cA t n) (cA t r) k)) (mvG i2 (cA t n) (cA t r) k))) H := hP
                  have hD : va_D A (MW dA h ad (MS.s_isCell (MS.s_cells (MS.s_rowSeries x r2) (mvG c2 (cA t n) (cA t r) k)) (mvG i2 (cA t n) (cA t r) k))) := hD
                  replace hp9 : nI ((t * 256 + n) * 64 + k) = r4 := Eq.symm hp9
                  subst hp9
                  refine lv_aload_n hx hb d_M_sweep_93 rfl (lv_at hl 4 rfl) ?_
                  refine gF (v := .ref (ad 54)) hx hb hown hE hK hP 0 rfl rfl layM 54 (by decide) w526 rfl d_M_sweep_94 ?_
                  refine lv_iload_n hx hb d_M_sweep_97 rfl (lv_at hl 3 rfl) ?_
                  refine lv_iload_n hx hb d_M_sweep_98 rfl (lv_at hl 1 rfl) ?_
                  refine lv_iload hx hb d_M_sweep_99 (lv_at hl 0 rfl) ?_
                  have hPc := hP.sub (ws' := []) [] rfl
                  have hDc := hD.sub (ws' := []) [] (by decide) rfl
                  refine jnI (rnS (As := [.int (nI t), .int (nI r), .int (nI k)]) (rest := [.ref (ad 54), .int (nI ((t * 256 + n) * 64 + k)), .ref (ad 54)]) hx hb hml hown hE hK (hN _ _ hS) hPc hDc (k_cellAt l D dA H.size t r k) w971 w970 w972 w328 rfl rfl ⟨⟨by decide, by decide⟩, rfl⟩ ⟨(Nat.le_of_ble_eq_true rfl), (Nat.le_of_ble_eq_true rfl)⟩ rfl hl.1 rfl (Nat.le_of_ble_eq_true rfl) d_M_sweep_101 ⟨(Nat.le_of_ble_eq_true rfl), (Nat.le_of_ble_eq_true rfl)⟩) hP hD hS hA [] [0, 1, 2, 3, 4, 5, 6, 7, 8, 9, 10, 11, 12, 13, 14, 15, 16, 17, 18, 19, 20, 21, 22, 23, 24, 25, 26, 27, 28, 29, 30, 31, 32, 33, 34, 35, 36, 37, 38] (wr := MW dA h ad (MS.s_isCell (MS.s_cells (MS.s_rowSeries x r2) (mvG c2 (cA t n) (cA t r) k)) (mvG i2 (cA t n) (cA t r) k))) rfl rfl (by decide) (by decide) (fun r6 u9 H locs hp9 hP hD hS => ?_)
                  have hP : va_P D vwCl (MW dA h ad (MS.s_isCell (MS.s_cells (MS.s_rowSeries x r2) (mvG c2 (cA t n) (cA t r) k)) (mvG i2 (cA t n) (cA t r) k))) H := hP
                  have hD : va_D A (MW dA h ad (MS.s_isCell (MS.s_cells (MS.s_rowSeries x r2) (mvG c2 (cA t n) (cA t r) k)) (mvG i2 (cA t n) (cA t r) k))) := hD
                  replace hp9 : nI ((t * 256 + r) * 64 + k) = r6 := Eq.symm hp9
                  subst hp9
                  refine nzld (f := (fun z9 => bI ((mvG i2 (cA t n) (cA t r) k) z9))) hx hb hK hP 27 3 rfl rfl ((t * 256 + r) * 64 + k) (by omega) (by decide) d_M_sweep_104 ?_
                  refine nzstB (v := (mvG i2 (cA t n) (cA t r) k) ((t * 256 + r) * 64 + k)) hx hb hK hP hD hS 27 3 rfl rfl ((t * 256 + n) * 64 + k) (by omega) (by decide) d_M_sweep_105 (fun H locs hP hD hS => ?_)
                  have hP : va_P D vwCl (MW dA h ad (MS.s_isCell (MS.s_cells (MS.s_rowSeries x r2) (mvG c2 (cA t n) (cA t r) k)) (va_up (mvG i2 (cA t n) (cA t r) k) ((t * 256 + n) * 64 + k) ((mvG i2 (cA t n) (cA t r) k) ((t * 256 + r) * 64 + k))))) H := hP
                  have hD : va_D A (MW dA h ad (MS.s_isCell (MS.s_cells (MS.s_rowSeries x r2) (mvG c2 (cA t n) (cA t r) k)) (va_up (mvG i2 (cA t n) (cA t r) k) ((t * 256 + n) * 64 + k) ((mvG i2 (cA t n) (cA t r) k) ((t * 256 + r) * 64 + k))))) := hD
                  refine lv_aload_n hx hb d_M_sweep_106 rfl (lv_at hl 4 rfl) ?_
                  refine gF (v := .ref (ad 53)) hx hb hown hE hK hP 0 rfl rfl layM 53 (by decide) w524 rfl d_M_sweep_107 ?_
                  refine lv_iload_n hx hb d_M_sweep_110 rfl (lv_at hl 3 rfl) ?_
                  refine lv_iload_n hx hb d_M_sweep_111 rfl (lv_at hl 2 rfl) ?_
                  refine lv_iload hx hb d_M_sweep_112 (lv_at hl 0 rfl) ?_
                  have hPc := hP.sub (ws' := []) [] rfl
                  have hDc := hD.sub (ws' := []) [] (by decide) rfl
                  refine jnI (rnS (As := [.int (nI t), .int (nI n), .int (nI k)]) (rest := [.ref (ad 53)]) hx hb hml hown hE hK (hN _ _ hS) hPc hDc (k_cellAt l D dA H.size t n k) w971 w970 w972 w328 rfl rfl ⟨⟨by decide, by decide⟩, rfl⟩ ⟨(Nat.le_of_ble_eq_true rfl), (Nat.le_of_ble_eq_true rfl)⟩ rfl hl.1 rfl (Nat.le_of_ble_eq_true rfl) d_M_sweep_114 ⟨(Nat.le_of_ble_eq_true rfl), (Nat.le_of_ble_eq_true rfl)⟩) hP hD hS hA [] [0, 1, 2, 3, 4, 5, 6, 7, 8, 9, 10, 11, 12, 13, 14, 15, 16, 17, 18, 19, 20, 21, 22, 23, 24, 25, 26, 27, 28, 29, 30, 31, 32, 33, 34, 35, 36, 37, 38] (wr := MW dA h ad (MS.s_isCell (MS.s_cells (MS.s_rowSeries x r2) (mvG c2 (cA t n) (cA t r) k)) (va_up (mvG i2 (cA t n) (cA t r) k) ((t * 256 + n) * 64 + k) ((mvG i2 (cA t n) (cA t r) k) ((t * 256 + r) * 64 + k))))) rfl rfl (by decide) (by decide) (fun r8 u9 H locs hp9 hP hD hS => ?_)
                  have hP : va_P D vwCl (MW dA h ad (MS.s_isCell (MS.s_cells (MS.s_rowSeries x r2) (mvG c2 (cA t n) (cA t r) k)) (va_up (mvG i2 (cA t n) (cA t r) k) ((t * 256 + n) * 64 + k) ((mvG i2 (cA t n) (cA t r) k) ((t * 256 + r) * 64 + k))))) H := hP
                  have hD : va_D A (MW dA h ad (MS.s_isCell (MS.s_cells (MS.s_rowSeries x r2) (mvG c2 (cA t n) (cA t r) k)) (va_up (mvG i2 (cA t n) (cA t r) k) ((t * 256 + n) * 64 + k) ((mvG i2 (cA t n) (cA t r) k) ((t * 256 + r) * 64 + k))))) := hD
                  replace hp9 : nI ((t * 256 + n) * 64 + k) = r8 := Eq.symm hp9
                  subst hp9
                  refine lv_aload_n hx hb d_M_sweep_117 rfl (lv_at hl 4 rfl) ?_
                  refine gF (v := .ref (ad 53)) hx hb hown hE hK hP 0 rfl rfl layM 53 (by decide) w524 rfl d_M_sweep_118 ?_
                  refine lv_iload_n hx hb d_M_sweep_121 rfl (lv_at hl 3 rfl) ?_
                  refine lv_iload_n hx hb d_M_sweep_122 rfl (lv_at hl 1 rfl) ?_
                  refine lv_iload hx hb d_M_sweep_123 (lv_at hl 0 rfl) ?_
                  have hPc := hP.sub (ws' := []) [] rfl
                  have hDc := hD.sub (ws' := []) [] (by decide) rfl
                  refine jnI (rnS (As := [.int (nI t), .int (nI r), .int (nI k)]) (rest := [.ref (ad 53), .int (nI ((t * 256 + n) * 64 + k)), .ref (ad 53)]) hx hb hml hown hE hK (hN _ _ hS) hPc hDc (k_cellAt l D dA H.size t r k) w971 w970 w972 w328 rfl rfl ⟨⟨by decide, by decide⟩, rfl⟩ ⟨(Nat.le_of_ble_eq_true rfl), (Nat.le_of_ble_eq_true rfl)⟩ rfl hl.1 rfl (Nat.le_of_ble_eq_true rfl) d_M_sweep_125 ⟨(Nat.le_of_ble_eq_true rfl), (Nat.le_of_ble_eq_true rfl)⟩) hP hD hS hA [] [0, 1, 2, 3, 4, 5, 6, 7, 8, 9, 10, 11, 12, 13, 14, 15, 16, 17, 18, 19, 20, 21, 22, 23, 24, 25, 26, 27, 28, 29, 30, 31, 32, 33, 34, 35, 36, 37, 38] (wr := MW dA h ad (MS.s_isCell (MS.s_cells (MS.s_rowSeries x r2) (mvG c2 (cA t n) (cA t r) k)) (va_up (mvG i2 (cA t n) (cA t r) k) ((t * 256 + n) * 64 + k) ((mvG i2 (cA t n) (cA t r) k) ((t * 256 + r) * 64 + k))))) rfl rfl (by decide) (by decide) (fun r10 u9 H locs hp9 hP hD hS => ?_)
                  have hP : va_P D vwCl (MW dA h ad (MS.s_isCell (MS.s_cells (MS.s_rowSeries x r2) (mvG c2 (cA t n) (cA t r) k)) (va_up (mvG i2 (cA t n) (cA t r) k) ((t * 256 + n) * 64 + k) ((mvG i2 (cA t n) (cA t r) k) ((t * 256 + r) * 64 + k))))) H := hP
                  have hD : va_D A (MW dA h ad (MS.s_isCell (MS.s_cells (MS.s_rowSeries x r2) (mvG c2 (cA t n) (cA t r) k)) (va_up (mvG i2 (cA t n) (cA t r) k) ((t * 256 + n) * 64 + k) ((mvG i2 (cA t n) (cA t r) k) ((t * 256 + r) * 64 + k))))) := hD
                  replace hp9 : nI ((t * 256 + r) * 64 + k) = r10 := Eq.symm hp9
                  subst hp9
                  refine nlld (f := (mvG c2 (cA t n) (cA t r) k)) hx hb hK hP 26 2 rfl rfl ((t * 256 + r) * 64 + k) (by omega) (by decide) d_M_sweep_128 ?_
                  refine nlst hx hb hK hP hD hS 26 2 rfl rfl ((t * 256 + n) * 64 + k) (by omega) (by decide) d_M_sweep_129 (fun H locs hP hD hS => ?_)
                  have hP : va_P D vwCl (MW dA h ad (MS.s_isCell (MS.s_cells (MS.s_rowSeries x r2) (va_up (mvG c2 (cA t n) (cA t r) k) ((t * 256 + n) * 64 + k) ((mvG c2 (cA t n) (cA t r) k) ((t * 256 + r) * 64 + k)))) (va_up (mvG i2 (cA t n) (cA t r) k) ((t * 256 + n) * 64 + k) ((mvG i2 (cA t n) (cA t r) k) ((t * 256 + r) * 64 + k))))) H := hP
                  have hD : va_D A (MW dA h ad (MS.s_isCell (MS.s_cells (MS.s_rowSeries x r2) (va_up (mvG c2 (cA t n) (cA t r) k) ((t * 256 + n) * 64 + k) ((mvG c2 (cA t n) (cA t r) k) ((t * 256 + r) * 64 + k)))) (va_up (mvG i2 (cA t n) (cA t r) k) ((t * 256 + n) * 64 + k) ((mvG i2 (cA t n) (cA t r) k) ((t * 256 + r) * 64 + k))))) := hD
                  refine lv_iinc (k := 0) (v := nI (k + 1)) hx hb d_M_sweep_130 hl rfl (iincN (k) 1 1 (by decide)) (by decide) rfl (fun ls hl => ?_)
                  have hl : lv_has ls 6 [(5, .int (nI (k + 1))), (3, .int (nI r)), (2, .int (nI n)), (1, .int (nI t)), (0, .ref h)] := hl
                  refine lv_goto hx hb d_M_sweep_133 (tgt := 73) rfl ?_
                  exact ih73 _ (by omega) (k + 1) (by omega) rfl H _ ls hP hD hS (lv_sub hl [0, 1, 2, 3, 4] rfl)
            exact L73 _ 0 (Nat.zero_le _) rfl H _ ls hP hD hS (lv_sub hl [0, 2, 3, 4, 5] rfl)
          · have g2 := bI_0 g2
            refine lv_goto hx hb d_M_sweep_67 (tgt := 163) rfl ?_
            refine lv_iinc (k := 1) (v := nI (r + 1)) hx hb d_M_sweep_163 hl rfl (iincN (r) 1 1 (by decide)) (by decide) rfl (fun ls hl => ?_)
            have hl : lv_has ls 6 [(3, .int (nI (r + 1))), (4, .int (bI v)), (2, .int (nI n)), (1, .int (nI t)), (0, .ref h)] := hl
            refine lv_goto hx hb d_M_sweep_166 (tgt := 4) rfl ?_
            exact ih4 _ (by omega) (r + 1) n i2 c2 r2 (by omega) (swG_f ie (m3.trans g2)) (by omega) rfl H _ ls hP hD hS (lv_sub hl [0, 2, 3, 4] rfl)
        refine lv_iconst (v := 0) hx hb d_M_sweep_14 (by decide) ?_
        refine lv_istore hx hb d_M_sweep_15 hl (by decide) rfl (fun ls hl => ?_)
        have hl : lv_has ls 6 [(4, .int 0), (3, .int (nI r)), (2, .int (nI n)), (1, .int (nI t)), (0, .ref h)] := hl
        refine lv_iconst (v := 0) hx hb d_M_sweep_17 (by decide) ?_
        refine lv_istore hx hb d_M_sweep_18 hl (by decide) rfl (fun ls hl => ?_)
        have hl : lv_has ls 6 [(5, .int 0), (4, .int 0), (3, .int (nI r)), (2, .int (nI n)), (1, .int (nI t)), (0, .ref h)] := hl
        have L20 : ∀ (k9 : Nat) (k : Nat) (v : Bool) (m1 : k ≤ x.windows) (m2 : anyB k (fun w => i2 (cA t r + w)) = v) (hk9 : x.windows - k = k9), ∀ (H : Heap) (locs : List Loc) (ls : Array Slot) (hP : va_P D vwCl (MW dA h ad (MS.s_isCell (MS.s_cells (MS.s_rowSeries x r2) c2) i2)) H) (hD : va_D A (MW dA h ad (MS.s_isCell (MS.s_cells (MS.s_rowSeries x r2) c2) i2))) (hS : va_S A s.heap H locs) (hl : lv_has ls 6 [(5, .int (nI k)), (4, .int (bI v)), (3, .int (nI r)), (2, .int (nI n)), (1, .int (nI t)), (0, .ref h)]), W p l e ({ frames := 2, cells := 0, slots := 0, locals := 22 } : Room) s m ([.ref h, .int (nI t)] : List Value).toArray below meth c H locs 0 0 (MQ below (va_Qv (fun (u9 : Unit) => True) (fun (u9 : Unit) t9 => bW D A (MW dA h ad (MS.s_isCell (MS.s_cells (MS.s_rowSeries (MS.s_tableRows x (va_up x.tableRows t b)) r9x) c9) i9)) t9) A) ([.ref h, .int (nI t)] : List Value).toArray s 0 0 A) (F0 m 20 ls []) := by
          intro k9
          induction k9 using Nat.strongRecOn with
          | ind k9 ih20 =>
            intro k v m1 m2 hk9 H locs ls hP hD hS hl
            refine lv_iload hx hb d_M_sweep_20 (lv_at hl 0 rfl) ?_
            refine lv_aload_n hx hb d_M_sweep_22 rfl (lv_at hl 5 rfl) ?_
            refine gF (v := .int (nI x.windows)) hx hb hown hE hK hP 0 rfl rfl layM 59 (by decide) w489 rfl d_M_sweep_23 ?_
            refine lv_icmp_ge hx hb d_M_sweep_26 (tgt := 62) rfl (fun g12 => ?_) (fun g12 => ?_)
            · have g12 := (nI_leI (a := x.windows) (b := k) (by omega) (by omega)).mp g12
              exact J62 v (by rw [← show k = x.windows by omega]; exact m2) H _ ls hP hD hS (lv_sub hl [1, 2, 3, 4, 5] rfl)
            · have g12 := mt (nI_leI (a := x.windows) (b := k) (by omega) (by omega)).mpr g12
              refine lv_iload hx hb d_M_sweep_29 (lv_at hl 1 rfl) ?_
              refine lv_if_ne hx hb d_M_sweep_31 (tgt := 49) rfl (fun g13 => ?_) (fun g13 => ?_)
              · have g13 := bI_n0 g13
                refine lv_iconst (v := 1) hx hb d_M_sweep_49 (by decide) ?_
                refine lv_goto hx hb d_M_sweep_50 (tgt := 54) rfl ?_
                refine lv_istore hx hb d_M_sweep_54 hl (by decide) rfl (fun ls hl => ?_)
                have hl : lv_has ls 6 [(4, .int 1), (5, .int (nI k)), (3, .int (nI r)), (2, .int (nI n)), (1, .int (nI t)), (0, .ref h)] := hl
                refine lv_iinc (k := 1) (v := nI (k + 1)) hx hb d_M_sweep_56 hl rfl (iincN (k) 1 1 (by decide)) (by decide) rfl (fun ls hl => ?_)
                have hl : lv_has ls 6 [(5, .int (nI (k + 1))), (4, .int 1), (3, .int (nI r)), (2, .int (nI n)), (1, .int (nI t)), (0, .ref h)] := hl
                refine lv_goto hx hb d_M_sweep_59 (tgt := 20) rfl ?_
                exact ih20 _ (by omega) (k + 1) true (by omega) (by rw [anyB_s, m2, g13]; rfl) rfl H _ ls hP hD hS (lv_sub hl [0, 1, 2, 3, 4, 5] rfl)
              · have g13 := bI_0 g13
                refine lv_aload_n hx hb d_M_sweep_34 rfl (lv_at hl 5 rfl) ?_
                refine gF (v := .ref (ad 54)) hx hb hown hE hK hP 0 rfl rfl layM 54 (by decide) w526 rfl d_M_sweep_35 ?_
                refine lv_iload_n hx hb d_M_sweep_38 rfl (lv_at hl 4 rfl) ?_
                refine lv_iload_n hx hb d_M_sweep_39 rfl (lv_at hl 2 rfl) ?_
                refine lv_iload hx hb d_M_sweep_40 (lv_at hl 0 rfl) ?_
                have hPc := hP.sub (ws' := []) [] rfl
                have hDc := hD.sub (ws' := []) [] (by decide) rfl
                refine jnI (rnS (As := [.int (nI t), .int (nI r), .int (nI k)]) (rest := [.ref (ad 54)]) hx hb hml hown hE hK (hN _ _ hS) hPc hDc (k_cellAt l D dA H.size t r k) w971 w970 w972 w328 rfl rfl ⟨⟨by decide, by decide⟩, rfl⟩ ⟨(Nat.le_of_ble_eq_true rfl), (Nat.le_of_ble_eq_true rfl)⟩ rfl hl.1 rfl (Nat.le_of_ble_eq_true rfl) d_M_sweep_42 ⟨(Nat.le_of_ble_eq_true rfl), (Nat.le_of_ble_eq_true rfl)⟩) hP hD hS hA [] [0, 1, 2, 3, 4, 5, 6, 7, 8, 9, 10, 11, 12, 13, 14, 15, 16, 17, 18, 19, 20, 21, 22, 23, 24, 25, 26, 27, 28, 29, 30, 31, 32, 33, 34, 35, 36, 37, 38] (wr := MW dA h ad (MS.s_isCell (MS.s_cells (MS.s_rowSeries x r2) c2) i2)) rfl rfl (by decide) (by decide) (fun r14 u9 H locs hp9 hP hD hS => ?_)
                have hP : va_P D vwCl (MW dA h ad (MS.s_isCell (MS.s_cells (MS.s_rowSeries x r2) c2) i2)) H := hP
                have hD : va_D A (MW dA h ad (MS.s_isCell (MS.s_cells (MS.s_rowSeries x r2) c2) i2)) := hD
                replace hp9 : nI ((t * 256 + r) * 64 + k) = r14 := Eq.symm hp9
                subst hp9
                refine nzld (f := (fun z9 => bI (i2 z9))) hx hb hK hP 27 3 rfl rfl ((t * 256 + r) * 64 + k) (by omega) (by decide) d_M_sweep_45 ?_
                refine lv_if_eq hx hb d_M_sweep_46 (tgt := 53) rfl (fun g16 => ?_) (fun g16 => ?_)
                · have g16 := bI_0 g16
                  refine lv_iconst (v := 0) hx hb d_M_sweep_53 (by decide) ?_
                  refine lv_istore hx hb d_M_sweep_54 hl (by decide) rfl (fun ls hl => ?_)
                  have hl : lv_has ls 6 [(4, .int 0), (5, .int (nI k)), (3, .int (nI r)), (2, .int (nI n)), (1, .int (nI t)), (0, .ref h)] := hl
                  refine lv_iinc (k := 1) (v := nI (k + 1)) hx hb d_M_sweep_56 hl rfl (iincN (k) 1 1 (by decide)) (by decide) rfl (fun ls hl => ?_)
                  have hl : lv_has ls 6 [(5, .int (nI (k + 1))), (4, .int 0), (3, .int (nI r)), (2, .int (nI n)), (1, .int (nI t)), (0, .ref h)] := hl
                  refine lv_goto hx hb d_M_sweep_59 (tgt := 20) rfl ?_
                  exact ih20 _ (by omega) (k + 1) false (by omega) (by rw [anyB_s, m2, g13, Bool.false_or]; exact g16) rfl H _ ls hP hD hS (lv_sub hl [0, 1, 2, 3, 4, 5] rfl)
                · have g16 := bI_n0 g16
                  refine lv_iconst (v := 1) hx hb d_M_sweep_49 (by decide) ?_
                  refine lv_goto hx hb d_M_sweep_50 (tgt := 54) rfl ?_
                  refine lv_istore hx hb d_M_sweep_54 hl (by decide) rfl (fun ls hl => ?_)
                  have hl : lv_has ls 6 [(4, .int 1), (5, .int (nI k)), (3, .int (nI r)), (2, .int (nI n)), (1, .int (nI t)), (0, .ref h)] := hl
                  refine lv_iinc (k := 1) (v := nI (k + 1)) hx hb d_M_sweep_56 hl rfl (iincN (k) 1 1 (by decide)) (by decide) rfl (fun ls hl => ?_)
                  have hl : lv_has ls 6 [(5, .int (nI (k + 1))), (4, .int 1), (3, .int (nI r)), (2, .int (nI n)), (1, .int (nI t)), (0, .ref h)] := hl
                  refine lv_goto hx hb d_M_sweep_59 (tgt := 20) rfl ?_
                  exact ih20 _ (by omega) (k + 1) true (by omega) (by rw [anyB_s, m2, g13, Bool.false_or]; exact g16) rfl H _ ls hP hD hS (lv_sub hl [0, 1, 2, 3, 4, 5] rfl)
        exact L20 _ 0 false (Nat.zero_le _) rfl rfl H _ ls hP hD hS (lv_sub hl [0, 1, 2, 3, 4, 5] rfl)
  exact L4 _ 0 0 x.isCell x.cells x.rowSeries (Nat.zero_le _) rfl (Nat.le_refl _) rfl H _ ls hP hD hS (lv_sub hl [0, 1, 3, 2] rfl)
