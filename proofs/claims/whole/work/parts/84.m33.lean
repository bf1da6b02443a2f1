/-- the row of table b with the texts of series s, by the names of table a -/
def MS.fo (x : MS) (a s b : Nat) (rs : Nat → Nat) (n : Nat) : Nat → Nat → Nat → Nat × Nat
  | 0, o, v => (o, v)
  | w + 1, o, v => if n ≤ o then (o, v) else if ((MS.s_valueLength x v).cr a s (rs (256 * b + o))).1 = 0 then (o, ((MS.s_valueLength x v).cr a s (rs (256 * b + o))).2) else x.fo a s b rs n w (o + 1) ((MS.s_valueLength x v).cr a s (rs (256 * b + o))).2
theorem fo_e {x : MS} {a s b n w o v : Nat} {rs : Nat → Nat} (h : n ≤ o) : x.fo a s b rs n w o v = (o, v) := by
  cases w with
  | zero => rfl
  | succ w => exact if_pos h
theorem fo_y {x : MS} {a s b n w o v : Nat} {rs : Nat → Nat} (hw : 0 < w) (h : ¬ n ≤ o) (h2 : ((MS.s_valueLength x v).cr a s (rs (256 * b + o))).1 = 0) : x.fo a s b rs n w o v = (o, ((MS.s_valueLength x v).cr a s (rs (256 * b + o))).2) := by
  obtain ⟨d, rfl⟩ : ∃ d, w = d + 1 := ⟨w - 1, by omega⟩
  show (if n ≤ o then (o, v) else if ((MS.s_valueLength x v).cr a s (rs (256 * b + o))).1 = 0 then _ else _) = _
  rw [if_neg h, if_pos h2]
theorem fo_n {x : MS} {a s b n w o v : Nat} {rs : Nat → Nat} (hw : 0 < w) (h : ¬ n ≤ o) (h2 : ¬ ((MS.s_valueLength x v).cr a s (rs (256 * b + o))).1 = 0) : x.fo a s b rs n w o v = x.fo a s b rs n (w - 1) (o + 1) ((MS.s_valueLength x v).cr a s (rs (256 * b + o))).2 := by
  obtain ⟨d, rfl⟩ : ∃ d, w = d + 1 := ⟨w - 1, by omega⟩
  show (if n ≤ o then (o, v) else if ((MS.s_valueLength x v).cr a s (rs (256 * b + o))).1 = 0 then _ else _) = _
  rw [if_neg h, if_neg h2]
  rfl
abbrev meT : Type := Nat × jT × (Nat → Nat) × Nat
def MS.me2 (x : MS) (sg : Int32) (a b r : Nat) (n : Nat) (g : jT) (rs : Nat → Nat) (o v : Nat) : meT := if o = x.tableRows b then (n, g, rs, v) else (n + 1, jrG sg g (cA a n) (cA a r) (cA b o) x.windows, va_up rs (256 * a + n) (rs (256 * a + r)), v)
def MS.me1 (x : MS) (sg : Int32) (a b r : Nat) (g : meT) : meT :=
  x.me2 sg a b r g.1 g.2.1 g.2.2.1 (x.fo a (g.2.2.1 (256 * a + r)) b g.2.2.1 (x.tableRows b) (x.tableRows b + 1) 0 g.2.2.2).1 (x.fo a (g.2.2.1 (256 * a + r)) b g.2.2.1 (x.tableRows b) (x.tableRows b + 1) 0 g.2.2.2).2
/-- r rows of table a met with those of table b -/
def MS.meG (x : MS) (sg : Int32) (a b : Nat) : Nat → meT
  | 0 => (0, (x.isCell, x.cells), x.rowSeries, x.valueLength)
  | r + 1 => x.me1 sg a b r (x.meG sg a b r)
theorem me_s {x : MS} {sg : Int32} {a b r n v o v2 : Nat} {g : jT} {rs : Nat → Nat} (h : x.meG sg a b r = (n, g, rs, v)) (hf : x.fo a (rs (256 * a + r)) b rs (x.tableRows b) (x.tableRows b + 1) 0 v = (o, v2)) : x.meG sg a b (r + 1) = x.me2 sg a b r n g rs o v2 := by
  show x.me1 sg a b r (x.meG sg a b r) = _
  rw [h]
  show x.me2 sg a b r n g rs (x.fo a (rs (256 * a + r)) b rs (x.tableRows b) (x.tableRows b + 1) 0 v).1 (x.fo a (rs (256 * a + r)) b rs (x.tableRows b) (x.tableRows b + 1) 0 v).2 = _
  rw [hf]
theorem me_up {rs r0 : Nat → Nat} {a r n v : Nat} (h : ∀ q : Nat, 256 * a + r ≤ q → rs q = r0 q) (hn : n ≤ r) : ∀ q : Nat, 256 * a + (r + 1) ≤ q → va_up rs (256 * a + n) v q = r0 q := by
  intro q hq
  show (if q = 256 * a + n then v else rs q) = r0 q
  rw [if_neg (by omega)]
  exact h q (by omega)
/-- r rows of table a joined with the one row of table b -/
def obG (sg : Int32) (g : jT) (a b w : Nat) : Nat → jT
  | 0 => g
  | r + 1 => jrG sg (obG sg g a b w r) (cA a r) (cA a r) (cA b 0) w
theorem me_le' {x : MS} {sg : Int32} {a b : Nat} : ∀ r, (x.meG sg a b r).1 ≤ r
  | 0 => Nat.le_refl 0
  | r + 1 => by
    have ih := me_le' (x := x) (sg := sg) (a := a) (b := b) r
    show (x.me1 sg a b r (x.meG sg a b r)).1 ≤ r + 1
    unfold MS.me1 MS.me2
    split
    · exact Nat.le_succ_of_le ih
    · exact Nat.succ_le_succ ih
theorem me_le {x : MS} {sg : Int32} {a b r n v : Nat} {g : jT} {rs : Nat → Nat} (h : x.meG sg a b r = (n, g, rs, v)) : n ≤ r := by
  have := me_le' (x := x) (sg := sg) (a := a) (b := b) r
  rw [h] at this
  exact this
theorem sm_rows {x : MS} {a b : Nat} (h : x.smN a b = true) (hb : ∀ q : Nat, q < x.tableRows b → x.tableNames b = 0 ∨ x.tOK (x.rowSeries (256 * b + q))) : ∀ q : Nat, q < x.tableRows b → x.tableNames a = 0 ∨ x.tOK (x.rowSeries (256 * b + q)) := by
  intro q hq
  unfold MS.smN at h
  rw [Bool.and_eq_true] at h
  rw [of_decide_eq_true h.1]
  exact hb q hq
theorem ob_s {sg : Int32} {g0 : jT} {a b n w u r : Nat} {i2 i3 : Nat → Bool} {c2 c3 : Nat → Int64} (h : (if 0 < n then obG sg g0 a b u r else g0) = (i2, c2)) (hj : jrG sg (i2, c2) (cA a r) (cA a r) (cA b 0) w = (i3, c3)) (hw : w = u ∨ (w = 0 ∧ n = 0)) (h3 : w = 0 ∨ 0 < n) : (if 0 < n then obG sg g0 a b u (r + 1) else g0) = (i3, c3) := by
  by_cases hn : 0 < n
  · rw [if_pos hn] at h ⊢
    have hw2 : w = u := by omega
    subst hw2
    show jrG sg (obG sg g0 a b w r) (cA a r) (cA a r) (cA b 0) w = _
    rw [h]
    exact hj
  · rw [if_neg hn] at h ⊢
    have hw0 : w = 0 := by omega
    subst hw0
    exact h.trans hj
theorem d_M_meet_0 : decode prog_14_method_76_code 0 = .ok (.iconst 0, 1) := by decide +kernel
theorem d_M_meet_1 : decode prog_14_method_76_code 1 = .ok (.istore 4, 2) := by decide +kernel
theorem d_M_meet_3 : decode prog_14_method_76_code 3 = .ok (.iconst 0, 1) := by decide +kernel
theorem d_M_meet_4 : decode prog_14_method_76_code 4 = .ok (.istore 5, 2) := by decide +kernel
theorem d_M_meet_6 : decode prog_14_method_76_code 6 = .ok (.iload 5, 2) := by decide +kernel
theorem d_M_meet_8 : decode prog_14_method_76_code 8 = .ok (.aload_n 0, 1) := by decide +kernel
theorem d_M_meet_9 : decode prog_14_method_76_code 9 = .ok (.getfield 97, 3) := by decide +kernel
theorem d_M_meet_12 : decode prog_14_method_76_code 12 = .ok (.iload_n 2, 1) := by decide +kernel
theorem d_M_meet_13 : decode prog_14_method_76_code 13 = .ok (.iaload, 1) := by decide +kernel
theorem d_M_meet_14 : decode prog_14_method_76_code 14 = .ok (.if_icmp .ge 153, 3) := by decide +kernel
theorem d_M_meet_167 : decode prog_14_method_76_code 167 = .ok (.aload_n 0, 1) := by decide +kernel
theorem d_M_meet_168 : decode prog_14_method_76_code 168 = .ok (.getfield 97, 3) := by decide +kernel
theorem d_M_meet_171 : decode prog_14_method_76_code 171 = .ok (.iload_n 2, 1) := by decide +kernel
theorem d_M_meet_172 : decode prog_14_method_76_code 172 = .ok (.iload 4, 2) := by decide +kernel
theorem d_M_meet_174 : decode prog_14_method_76_code 174 = .ok (.iastore, 1) := by decide +kernel
theorem d_M_meet_175 : decode prog_14_method_76_code 175 = .ok (.return_, 1) := by decide +kernel
theorem d_M_meet_71 : decode prog_14_method_76_code 71 = .ok (.iload 6, 2) := by decide +kernel
theorem d_M_meet_73 : decode prog_14_method_76_code 73 = .ok (.aload_n 0, 1) := by decide +kernel
theorem d_M_meet_74 : decode prog_14_method_76_code 74 = .ok (.getfield 97, 3) := by decide +kernel
theorem d_M_meet_77 : decode prog_14_method_76_code 77 = .ok (.iload_n 3, 1) := by decide +kernel
theorem d_M_meet_78 : decode prog_14_method_76_code 78 = .ok (.iaload, 1) := by decide +kernel
theorem d_M_meet_79 : decode prog_14_method_76_code 79 = .ok (.if_icmp .ne 6, 3) := by decide +kernel
theorem d_M_meet_85 : decode prog_14_method_76_code 85 = .ok (.iconst 0, 1) := by decide +kernel
theorem d_M_meet_86 : decode prog_14_method_76_code 86 = .ok (.istore 7, 2) := by decide +kernel
theorem d_M_meet_88 : decode prog_14_method_76_code 88 = .ok (.iload 7, 2) := by decide +kernel
theorem d_M_meet_90 : decode prog_14_method_76_code 90 = .ok (.aload_n 0, 1) := by decide +kernel
theorem d_M_meet_91 : decode prog_14_method_76_code 91 = .ok (.getfield 412, 3) := by decide +kernel
theorem d_M_meet_94 : decode prog_14_method_76_code 94 = .ok (.if_icmp .ge 38, 3) := by decide +kernel
theorem d_M_meet_132 : decode prog_14_method_76_code 132 = .ok (.aload_n 0, 1) := by decide +kernel
theorem d_M_meet_133 : decode prog_14_method_76_code 133 = .ok (.getfield 100, 3) := by decide +kernel
theorem d_M_meet_136 : decode prog_14_method_76_code 136 = .ok (.sipush 256, 3) := by decide +kernel
theorem d_M_meet_139 : decode prog_14_method_76_code 139 = .ok (.iload_n 2, 1) := by decide +kernel
theorem d_M_meet_140 : decode prog_14_method_76_code 140 = .ok (.imul, 1) := by decide +kernel
theorem d_M_meet_141 : decode prog_14_method_76_code 141 = .ok (.iload 4, 2) := by decide +kernel
theorem d_M_meet_143 : decode prog_14_method_76_code 143 = .ok (.iadd, 1) := by decide +kernel
theorem d_M_meet_144 : decode prog_14_method_76_code 144 = .ok (.aload_n 0, 1) := by decide +kernel
theorem d_M_meet_145 : decode prog_14_method_76_code 145 = .ok (.getfield 100, 3) := by decide +kernel
theorem d_M_meet_148 : decode prog_14_method_76_code 148 = .ok (.sipush 256, 3) := by decide +kernel
theorem d_M_meet_151 : decode prog_14_method_76_code 151 = .ok (.iload_n 2, 1) := by decide +kernel
theorem d_M_meet_152 : decode prog_14_method_76_code 152 = .ok (.imul, 1) := by decide +kernel
theorem d_M_meet_153 : decode prog_14_method_76_code 153 = .ok (.iload 5, 2) := by decide +kernel
theorem d_M_meet_155 : decode prog_14_method_76_code 155 = .ok (.iadd, 1) := by decide +kernel
theorem d_M_meet_156 : decode prog_14_method_76_code 156 = .ok (.iaload, 1) := by decide +kernel
theorem d_M_meet_157 : decode prog_14_method_76_code 157 = .ok (.iastore, 1) := by decide +kernel
theorem d_M_meet_158 : decode prog_14_method_76_code 158 = .ok (.iinc 4 1, 3) := by decide +kernel
theorem d_M_meet_161 : decode prog_14_method_76_code 161 = .ok (.iinc 5 1, 3) := by decide +kernel
theorem d_M_meet_164 : decode prog_14_method_76_code 164 = .ok (.goto (-158), 3) := by decide +kernel
theorem d_M_meet_97 : decode prog_14_method_76_code 97 = .ok (.aload_n 0, 1) := by decide +kernel
theorem d_M_meet_98 : decode prog_14_method_76_code 98 = .ok (.iload_n 1, 1) := by decide +kernel
theorem d_M_meet_99 : decode prog_14_method_76_code 99 = .ok (.iload_n 2, 1) := by decide +kernel
theorem d_M_meet_100 : decode prog_14_method_76_code 100 = .ok (.iload 4, 2) := by decide +kernel
theorem d_M_meet_102 : decode prog_14_method_76_code 102 = .ok (.iload 7, 2) := by decide +kernel
theorem d_M_meet_104 : decode prog_14_method_76_code 104 = .ok (.invokestatic 397, 3) := by decide +kernel
theorem d_M_meet_107 : decode prog_14_method_76_code 107 = .ok (.iload_n 2, 1) := by decide +kernel
theorem d_M_meet_108 : decode prog_14_method_76_code 108 = .ok (.iload 5, 2) := by decide +kernel
theorem d_M_meet_110 : decode prog_14_method_76_code 110 = .ok (.iload 7, 2) := by decide +kernel
theorem d_M_meet_112 : decode prog_14_method_76_code 112 = .ok (.invokestatic 397, 3) := by decide +kernel
theorem d_M_meet_115 : decode prog_14_method_76_code 115 = .ok (.iload_n 3, 1) := by decide +kernel
theorem d_M_meet_116 : decode prog_14_method_76_code 116 = .ok (.iload 6, 2) := by decide +kernel
theorem d_M_meet_118 : decode prog_14_method_76_code 118 = .ok (.iload 7, 2) := by decide +kernel
theorem d_M_meet_120 : decode prog_14_method_76_code 120 = .ok (.invokestatic 397, 3) := by decide +kernel
theorem d_M_meet_123 : decode prog_14_method_76_code 123 = .ok (.invokevirtual 429, 3) := by decide +kernel
theorem d_M_meet_126 : decode prog_14_method_76_code 126 = .ok (.iinc 7 1, 3) := by decide +kernel
theorem d_M_meet_129 : decode prog_14_method_76_code 129 = .ok (.goto (-41), 3) := by decide +kernel
theorem d_M_meet_82 : decode prog_14_method_76_code 82 = .ok (.goto 79, 3) := by decide +kernel
theorem d_M_meet_17 : decode prog_14_method_76_code 17 = .ok (.iconst 0, 1) := by decide +kernel
theorem d_M_meet_18 : decode prog_14_method_76_code 18 = .ok (.istore 6, 2) := by decide +kernel
theorem d_M_meet_20 : decode prog_14_method_76_code 20 = .ok (.iload 6, 2) := by decide +kernel
theorem d_M_meet_22 : decode prog_14_method_76_code 22 = .ok (.aload_n 0, 1) := by decide +kernel
theorem d_M_meet_23 : decode prog_14_method_76_code 23 = .ok (.getfield 97, 3) := by decide +kernel
theorem d_M_meet_26 : decode prog_14_method_76_code 26 = .ok (.iload_n 3, 1) := by decide +kernel
theorem d_M_meet_27 : decode prog_14_method_76_code 27 = .ok (.iaload, 1) := by decide +kernel
theorem d_M_meet_28 : decode prog_14_method_76_code 28 = .ok (.if_icmp .ge 43, 3) := by decide +kernel
theorem d_M_meet_31 : decode prog_14_method_76_code 31 = .ok (.aload_n 0, 1) := by decide +kernel
theorem d_M_meet_32 : decode prog_14_method_76_code 32 = .ok (.iload_n 2, 1) := by decide +kernel
theorem d_M_meet_33 : decode prog_14_method_76_code 33 = .ok (.aload_n 0, 1) := by decide +kernel
theorem d_M_meet_34 : decode prog_14_method_76_code 34 = .ok (.getfield 100, 3) := by decide +kernel
theorem d_M_meet_37 : decode prog_14_method_76_code 37 = .ok (.sipush 256, 3) := by decide +kernel
theorem d_M_meet_40 : decode prog_14_method_76_code 40 = .ok (.iload_n 2, 1) := by decide +kernel
theorem d_M_meet_41 : decode prog_14_method_76_code 41 = .ok (.imul, 1) := by decide +kernel
theorem d_M_meet_42 : decode prog_14_method_76_code 42 = .ok (.iload 5, 2) := by decide +kernel
theorem d_M_meet_44 : decode prog_14_method_76_code 44 = .ok (.iadd, 1) := by decide +kernel
theorem d_M_meet_45 : decode prog_14_method_76_code 45 = .ok (.iaload, 1) := by decide +kernel
theorem d_M_meet_46 : decode prog_14_method_76_code 46 = .ok (.aload_n 0, 1) := by decide +kernel
theorem d_M_meet_47 : decode prog_14_method_76_code 47 = .ok (.getfield 100, 3) := by decide +kernel
theorem d_M_meet_50 : decode prog_14_method_76_code 50 = .ok (.sipush 256, 3) := by decide +kernel
theorem d_M_meet_53 : decode prog_14_method_76_code 53 = .ok (.iload_n 3, 1) := by decide +kernel
theorem d_M_meet_54 : decode prog_14_method_76_code 54 = .ok (.imul, 1) := by decide +kernel
theorem d_M_meet_55 : decode prog_14_method_76_code 55 = .ok (.iload 6, 2) := by decide +kernel
theorem d_M_meet_57 : decode prog_14_method_76_code 57 = .ok (.iadd, 1) := by decide +kernel
theorem d_M_meet_58 : decode prog_14_method_76_code 58 = .ok (.iaload, 1) := by decide +kernel
theorem d_M_meet_59 : decode prog_14_method_76_code 59 = .ok (.invokevirtual 394, 3) := by decide +kernel
theorem d_M_meet_62 : decode prog_14_method_76_code 62 = .ok (.ifCond .eq 9, 3) := by decide +kernel
theorem d_M_meet_65 : decode prog_14_method_76_code 65 = .ok (.iinc 6 1, 3) := by decide +kernel
theorem d_M_meet_68 : decode prog_14_method_76_code 68 = .ok (.goto (-48), 3) := by decide +kernel
set_option maxHeartbeats 4000000 in
set_option maxRecDepth 100000 in
theorem k_meet (l : Launch) (D : va_G) (dA : Nat → ClassId) (sz : Nat) (h : Nat) (ad : Nat → Nat) (x : MS) (sg : Int32) (a : Nat) (b : Nat) (n9 : Nat) (i9 : Nat → Bool) (c9 : Nat → Int64) (rs9 : Nat → Nat) (v9 : Nat) (hsg : isOp sg) (hab : a < b) (hb2 : b < 20) (hno : x.nOK a) (hwi : x.windows ≤ 64) (h3 : x.tableRows a ≤ 256) (h4 : x.tableRows b ≤ 256) (hra : ∀ q : Nat, q < x.tableRows a → x.tableNames a = 0 ∨ x.tOK (x.rowSeries (256 * a + q))) (hrb : ∀ q : Nat, q < x.tableRows b → x.tableNames a = 0 ∨ x.tOK (x.rowSeries (256 * b + q))) (hme : x.meG sg a b (x.tableRows a) = (n9, (i9, c9), rs9, v9)) : Met l ⟨"SeriesVaultModel", "meet", "(III)V"⟩ [Cond.code ⟨"SeriesVaultModel", "meet", "(III)V"⟩ prog_14_method_76_code 8 none] { frames := 3, cells := 0, slots := 0, locals := 58 } (pC D dA [.ref h, .int sg, .int (nI a), .int (nI b)] (MW dA h ad x) sz) (va_Qv (fun (u9 : Unit) => True) (fun (u9 : Unit) t9 => bW D (va_A (MW dA h ad x) sz) (MW dA h ad (MS.s_valueLength (MS.s_isCell (MS.s_cells (MS.s_rowSeries (MS.s_tableRows x (va_up x.tableRows a n9)) rs9) c9) i9) v9)) t9) (va_A (MW dA h ad x) sz)) 0 0 (va_A (MW dA h ad x) sz) := by
  refine mkC (y := ⟨"SeriesVaultModel", "meet", "(III)V"⟩) (cc := prog_14_method_76_code) (maxL := 8) (av := [.ref h, .int sg, .int (nI a), .int (nI b)]) (ws := MW dA h ad x) (sz := sz) (Qc := fun A => va_Qv (fun (u9 : Unit) => True) (fun (u9 : Unit) t9 => bW D A (MW dA h ad (MS.s_valueLength (MS.s_isCell (MS.s_cells (MS.s_rowSeries (MS.s_tableRows x (va_up x.tableRows a n9)) rs9) c9) i9) v9)) t9) A) (by decide) (Nat.le_of_ble_eq_true rfl) ?_
  intro A p e s m below meth c ls hsz hB
  obtain ⟨hx, hb, hr, hml, hown, hin, hlk, hE, hK, hP, hD, hS, hA, hN, hl⟩ := hB
  have hown : s.vm.findClass "SeriesVaultModel" = some m.cls := hown
  have hl : lv_has ls 8 [(0, .ref h), (1, .int sg), (2, .int (nI a)), (3, .int (nI b))] := hl
  obtain ⟨H, hH⟩ : ∃ z, z = s.heap := ⟨_, rfl⟩
  have hP : va_P D vwCl (MW dA h ad x) H := by rw [hH]; exact hP
  have hS : va_S A s.heap H [] := by rw [hH]; exact hS
  rw [← hH]
  refine lv_iconst (v := 0) hx hb d_M_meet_0 (by decide) ?_
  refine lv_istore hx hb d_M_meet_1 hl (by decide) rfl (fun ls hl => ?_)
  have hl : lv_has ls 8 [(4, .int 0), (0, .ref h), (1, .int sg), (2, .int (nI a)), (3, .int (nI b))] := hl
  refine lv_iconst (v := 0) hx hb d_M_meet_3 (by decide) ?_
  refine lv_istore hx hb d_M_meet_4 hl (by decide) rfl (fun ls hl => ?_)
  have hl : lv_has ls 8 [(5, .int 0), (4, .int 0), (0, .ref h), (1, .int sg), (2, .int (nI a)), (3, .int (nI b))] := hl
  have L6 : ∀ (k9 : Nat) (r : Nat) (n : Nat) (i2c : Nat → Bool) (c2 : Nat → Int64) (rs : Nat → Nat) (v : Nat) (i1 : r ≤ x.tableRows a) (i2 : x.meG sg a b r = (n, (i2c, c2), rs, v)) (i3 : n ≤ r) (i4 : ∀ q : Nat, 256 * a + r ≤ q → rs q = x.rowSeries q) (hk9 : x.tableRows a - r = k9), ∀ (H : Heap) (locs : List Loc) (ls : Array Slot) (hP : va_P D vwCl (MW dA h ad (MS.s_valueLength (MS.s_isCell (MS.s_cells (MS.s_rowSeries x rs) c2) i2c) v)) H) (hD : va_D A (MW dA h ad (MS.s_valueLength (MS.s_isCell (MS.s_cells (MS.s_rowSeries x rs) c2) i2c) v))) (hS : va_S A s.heap H locs) (hl : lv_has ls 8 [(4, .int (nI n)), (5, .int (nI r)), (1, .int sg), (2, .int (nI a)), (3, .int (nI b)), (0, .ref h)]), W p l e ({ frames := 3, cells := 0, slots := 0, locals := 58 } : Room) s m ([.ref h, .int sg, .int (nI a), .int (nI b)] : List Value).toArray below meth c H locs 0 0 (MQ below (va_Qv (fun (u9 : Unit) => True) (fun (u9 : Unit) t9 => bW D A (MW dA h ad (MS.s_valueLength (MS.s_isCell (MS.s_cells (MS.s_rowSeries (MS.s_tableRows x (va_up x.tableRows a n9)) rs9) c9) i9) v9)) t9) A) ([.ref h, .int sg, .int (nI a), .int (nI b)] : List Value).toArray s 0 0 A) (F0 m 6 ls []) := by
    intro k9
    induction k9 using Nat.strongRecOn with
    | ind k9 ih6 =>
      intro r n i2c c2 rs v i1 i2 i3 i4 hk9 H locs ls hP hD hS hl
      refine lv_iload hx hb d_M_meet_6 (lv_at hl 1 rfl) ?_
      refine lv_aload_n hx hb d_M_meet_8 rfl (lv_at hl 5 rfl) ?_
      refine gF (v := .ref (ad 51)) hx hb hown hE hK hP 0 rfl rfl layM 51 (by decide) w521 rfl d_M_meet_9 ?_
      refine lv_iload_n hx hb d_M_meet_12 rfl (lv_at hl 3 rfl) ?_
      refine nild (f := (fun z9 => nI (x.tableRows z9))) hx hb hK hP 24 1 rfl rfl (a) (by omega) (by decide) d_M_meet_13 ?_
      refine lv_icmp_ge hx hb d_M_meet_14 (tgt := 167) rfl (fun g1 => ?_) (fun g1 => ?_)
      · have g1 := (nI_leI (a := x.tableRows a) (b := r) (by omega) (by omega)).mp g1
        refine lv_aload_n hx hb d_M_meet_167 rfl (lv_at hl 5 rfl) ?_
        refine gF (v := .ref (ad 51)) hx hb hown hE hK hP 0 rfl rfl layM 51 (by decide) w521 rfl d_M_meet_168 ?_
        refine lv_iload_n hx hb d_M_meet_171 rfl (lv_at hl 3 rfl) ?_
        refine lv_iload hx hb d_M_meet_172 (lv_at hl 0 rfl) ?_
        refine nistN (v := n) hx hb hK hP hD hS 24 1 rfl rfl (a) (by omega) (by decide) d_M_meet_174 (fun H locs hP hD hS => ?_)
        have hP : va_P D vwCl (MW dA h ad (MS.s_valueLength (MS.s_isCell (MS.s_cells (MS.s_rowSeries (MS.s_tableRows x (va_up x.tableRows a n)) rs) c2) i2c) v)) H := hP
        have hD : va_D A (MW dA h ad (MS.s_valueLength (MS.s_isCell (MS.s_cells (MS.s_rowSeries (MS.s_tableRows x (va_up x.tableRows a n)) rs) c2) i2c) v)) := hD
        have e9 : (MS.s_valueLength (MS.s_isCell (MS.s_cells (MS.s_rowSeries (MS.s_tableRows x (va_up x.tableRows a n)) rs) c2) i2c) v : MS) = MS.s_valueLength (MS.s_isCell (MS.s_cells (MS.s_rowSeries (MS.s_tableRows x (va_up x.tableRows a n9)) rs9) c9) i9) v9 := by rw [show (va_up x.tableRows a n9) = (va_up x.tableRows a n) from by (rw [show n9 = n from congrArg (fun z => z.1) (hme.symm.trans ((congrArg (x.meG sg a b) (show x.tableRows a = r by omega)).trans i2))]), show rs9 = rs from by (exact congrArg (fun z => z.2.2.1) (hme.symm.trans ((congrArg (x.meG sg a b) (show x.tableRows a = r by omega)).trans i2))), show c9 = c2 from by (exact congrArg (fun z => z.2.1.2) (hme.symm.trans ((congrArg (x.meG sg a b) (show x.tableRows a = r by omega)).trans i2))), show i9 = i2c from by (exact congrArg (fun z => z.2.1.1) (hme.symm.trans ((congrArg (x.meG sg a b) (show x.tableRows a = r by omega)).trans i2))), show v9 = v from by (exact congrArg (fun z => z.2.2.2) (hme.symm.trans ((congrArg (x.meG sg a b) (show x.tableRows a = r by omega)).trans i2)))] <;> rfl
        exact rfV hx hb hr hlk hS () trivial (cvP e9 hP) (cvD e9 hD) (Nat.le_of_ble_eq_true rfl) (Nat.le_of_ble_eq_true rfl) d_M_meet_175
      · have g1 := mt (nI_leI (a := x.tableRows a) (b := r) (by omega) (by omega)).mpr g1
        have J71 : ∀ (w : Nat) (v3 : Nat) (f1 : x.fo a (rs (256 * a + r)) b rs (x.tableRows b) (x.tableRows b + 1) 0 v = (w, v3)) (f2 : w ≤ x.tableRows b), ∀ (H : Heap) (locs : List Loc) (ls : Array Slot) (hP : va_P D vwCl (MW dA h ad (MS.s_valueLength (MS.s_isCell (MS.s_cells (MS.s_rowSeries x rs) c2) i2c) v3)) H) (hD : va_D A (MW dA h ad (MS.s_valueLength (MS.s_isCell (MS.s_cells (MS.s_rowSeries x rs) c2) i2c) v3))) (hS : va_S A s.heap H locs) (hl : lv_has ls 8 [(6, .int (nI w)), (4, .int (nI n)), (5, .int (nI r)), (1, .int sg), (2, .int (nI a)), (3, .int (nI b)), (0, .ref h)]), W p l e ({ frames := 3, cells := 0, slots := 0, locals := 58 } : Room) s m ([.ref h, .int sg, .int (nI a), .int (nI b)] : List Value).toArray below meth c H locs 0 0 (MQ below (va_Qv (fun (u9 : Unit) => True) (fun (u9 : Unit) t9 => bW D A (MW dA h ad (MS.s_valueLength (MS.s_isCell (MS.s_cells (MS.s_rowSeries (MS.s_tableRows x (va_up x.tableRows a n9)) rs9) c9) i9) v9)) t9) A) ([.ref h, .int sg, .int (nI a), .int (nI b)] : List Value).toArray s 0 0 A) (F0 m 71 ls []) := by
          intro w v3 f1 f2 H locs ls hP hD hS hl
          refine lv_iload hx hb d_M_meet_71 (lv_at hl 0 rfl) ?_
          refine lv_aload_n hx hb d_M_meet_73 rfl (lv_at hl 6 rfl) ?_
          refine gF (v := .ref (ad 51)) hx hb hown hE hK hP 0 rfl rfl layM 51 (by decide) w521 rfl d_M_meet_74 ?_
          refine lv_iload_n hx hb d_M_meet_77 rfl (lv_at hl 5 rfl) ?_
          refine nild (f := (fun z9 => nI (x.tableRows z9))) hx hb hK hP 24 1 rfl rfl (b) (by omega) (by decide) d_M_meet_78 ?_
          refine lv_icmp_ne hx hb d_M_meet_79 (tgt := 85) rfl (fun g2 => ?_) (fun g2 => ?_)
          · have g2 := mt (nI_eq (a := w) (b := x.tableRows b) (by omega) (by omega)).mpr g2
            refine lv_iconst (v := 0) hx hb d_M_meet_85 (by decide) ?_
            refine lv_istore hx hb d_M_meet_86 hl (by decide) rfl (fun ls hl => ?_)
            have hl : lv_has ls 8 [(7, .int 0), (6, .int (nI w)), (4, .int (nI n)), (5, .int (nI r)), (1, .int sg), (2, .int (nI a)), (3, .int (nI b)), (0, .ref h)] := hl
            have L88 : ∀ (k9 : Nat) (k : Nat) (i3c : Nat → Bool) (c3 : Nat → Int64) (m1 : k ≤ x.windows) (m2 : jrG sg (i2c, c2) (cA a n) (cA a r) (cA b w) k = (i3c, c3)) (hk9 : x.windows - k = k9), ∀ (H : Heap) (locs : List Loc) (ls : Array Slot) (hP : va_P D vwCl (MW dA h ad (MS.s_valueLength (MS.s_isCell (MS.s_cells (MS.s_rowSeries x rs) c3) i3c) v3)) H) (hD : va_D A (MW dA h ad (MS.s_valueLength (MS.s_isCell (MS.s_cells (MS.s_rowSeries x rs) c3) i3c) v3))) (hS : va_S A s.heap H locs) (hl : lv_has ls 8 [(7, .int (nI k)), (6, .int (nI w)), (4, .int (nI n)), (5, .int (nI r)), (1, .int sg), (2, .int (nI a)), (3, .int (nI b)), (0, .ref h)]), W p l e ({ frames := 3, cells := 0, slots := 0, locals := 58 } : Room) s m ([.ref h, .int sg, .int (nI a), .int (nI b)] : List Value).toArray below meth c H locs 0 0 (MQ below (va_Qv (fun (u9 : Unit) => True) (fun (u9 : Unit) t9 => bW D A (MW dA h ad (MS.s_valueLength (MS.s_isCell (MS.s_cells (MS.s_rowSeries (MS.s_tableRows x (va_up x.tableRows a n9)) rs9) c9) i9) v9)) t9) A) ([.ref h, .int sg, .int (nI a), .int (nI b)] : List Value).toArray s 0 0 A) (F0 m 88 ls []) := by
              intro k9
              induction k9 using Nat.strongRecOn with
              | ind k9 ih88 =>
                intro k i3c c3 m1 m2 hk9 H locs ls hP hD hS hl
                refine lv_iload hx hb d_M_meet_88 (lv_at hl 0 rfl) ?_
                refine lv_aload_n hx hb d_M_meet_90 rfl (lv_at hl 7 rfl) ?_
                refine gF (v := .int (nI x.windows)) hx hb hown hE hK hP 0 rfl rfl layM 59 (by decide) w489 rfl d_M_meet_91 ?_
                refine lv_icmp_ge hx hb d_M_meet_94 (tgt := 132) rfl (fun g3 => ?_) (fun g3 => ?_)
                · have g3 := (nI_leI (a := x.windows) (b := k) (by omega) (by omega)).mp g3
                  have me9 : x.meG sg a b (r + 1) = (n + 1, (i3c, c3), va_up rs (256 * a + n) (rs (256 * a + r)), v3) := (me_s i2 f1).trans ((if_neg (by omega)).trans (by rw [show x.windows = k by omega, m2]))
                  refine lv_aload_n hx hb d_M_meet_132 rfl (lv_at hl 7 rfl) ?_
                  refine gF (v := .ref (ad 52)) hx hb hown hE hK hP 0 rfl rfl layM 52 (by decide) w522 rfl d_M_meet_133 ?_
                  refine lv_sipush (v := 256) hx hb d_M_meet_136 (by decide) ?_
                  refine lv_iload_n hx hb d_M_meet_139 rfl (lv_at hl 5 rfl) ?_
                  refine lv_imul hx hb d_M_meet_140 (tpi (y := nI (256 * a)) (pk_mul (256) (a)) ?_)
                  refine lv_iload hx hb d_M_meet_141 (lv_at hl 2 rfl) ?_
                  refine lv_iadd hx hb d_M_meet_143 (tpi (y := nI ((256 * a) + n)) (nI_add (256 * a) (n)) ?_)
                  refine lv_aload_n hx hb d_M_meet_144 rfl (lv_at hl 7 rfl) ?_
                  refine gF (v := .ref (ad 52)) hx hb hown hE hK hP 0 rfl rfl layM 52 (by decide) w522 rfl d_M_meet_145 ?_
                  refine lv_sipush (v := 256) hx hb d_M_meet_148 (by decide) ?_
                  refine lv_iload_n hx hb d_M_meet_151 rfl (lv_at hl 5 rfl) ?_
                  refine lv_imul hx hb d_M_meet_152 (tpi (y := nI (256 * a)) (pk_mul (256) (a)) ?_)
                  refine lv_iload hx hb d_M_meet_153 (lv_at hl 3 rfl) ?_
                  refine lv_iadd hx hb d_M_meet_155 (tpi (y := nI ((256 * a) + r)) (nI_add (256 * a) (r)) ?_)
                  refine nild (f := (fun z9 => nI (rs z9))) hx hb hK hP 25 1 rfl rfl ((256 * a) + r) (by omega) (by decide) d_M_meet_156 ?_
                  refine nistN (v := rs ((256 * a) + r)) hx hb hK hP hD hS 25 1 rfl rfl ((256 * a) + n) (by omega) (by decide) d_M_meet_157 (fun H locs hP hD hS => ?_)
                  have hP : va_P D vwCl (MW dA h ad (MS.s_valueLength (MS.s_isCell (MS.s_cells (MS.s_rowSeries x (va_up rs ((256 * a) + n) (rs ((256 * a) + r)))) c3) i3c) v3)) H := hP
                  have hD : va_D A (MW dA h ad (MS.s_valueLength (MS.s_isCell (MS.s_cells (MS.s_rowSeries x (va_up rs ((256 * a) + n) (rs ((256 * a) + r)))) c3) i3c) v3)) := hD
                  refine lv_iinc (k := 2) (v := nI (n + 1)) hx hb d_M_meet_158 hl rfl (iincN (n) 1 1 (by decide)) (by decide) rfl (fun ls hl => ?_)
                  have hl : lv_has ls 8 [(4, .int (nI (n + 1))), (7, .int (nI k)), (6, .int (nI w)), (5, .int (nI r)), (1, .int sg), (2, .int (nI a)), (3, .int (nI b)), (0, .ref h)] := hl
                  refine lv_iinc (k := 3) (v := nI (r + 1)) hx hb d_M_meet_161 hl rfl (iincN (r) 1 1 (by decide)) (by decide) rfl (fun ls hl => ?_)
                  have hl : lv_has ls 8 [(5, .int (nI (r + 1))), (4, .int (nI (n + 1))), (7, .int (nI k)), (6, .int (nI w)), (1, .int sg), (2, .int (nI a)), (3, .int (nI b)), (0, .ref h)] := hl
                  refine lv_goto hx hb d_M_meet_164 (tgt := 6) rfl ?_
                  exact ih6 _ (by omega) (r + 1) (n + 1) i3c c3 (va_up rs ((256 * a) + n) (rs ((256 * a) + r))) v3 (by omega) me9 (by omega) (me_up i4 i3) rfl H _ ls hP hD hS (lv_sub hl [1, 0, 4, 5, 6, 7] rfl)
                · have g3 := mt (nI_leI (a := x.windows) (b := k) (by omega) (by omega)).mpr g3
                  refine lv_aload_n hx hb d_M_meet_97 rfl (lv_at hl 7 rfl) ?_
                  refine lv_iload_n hx hb d_M_meet_98 rfl (lv_at hl 4 rfl) ?_
                  refine lv_iload_n hx hb d_M_meet_99 rfl (lv_at hl 5 rfl) ?_
                  refine lv_iload hx hb d_M_meet_100 (lv_at hl 2 rfl) ?_
                  refine lv_iload hx hb d_M_meet_102 (lv_at hl 0 rfl) ?_
                  have hPc := hP.sub (ws' := []) [] rfl
                  have hDc := hD.sub (ws' := []) [] (by decide) rfl
                  refine jnI (rnS (As := [.int (nI a), .int (nI n), .int (nI k)]) (rest := [.int sg, .ref h]) hx hb hml hown hE hK (hN _ _ hS) hPc hDc (k_cellAt l D dA H.size a n k) w971 w970 w972 w328 rfl rfl ⟨⟨by decide, by decide⟩, rfl⟩ ⟨(Nat.le_of_ble_eq_true rfl), (Nat.le_of_ble_eq_true rfl)⟩ rfl hl.1 rfl (Nat.le_of_ble_eq_true rfl) d_M_meet_104 ⟨(Nat.le_of_ble_eq_true rfl), (Nat.le_of_ble_eq_true rfl)⟩) hP hD hS hA [] [0, 1, 2, 3, 4, 5, 6, 7, 8, 9, 10, 11, 12, 13, 14, 15, 16, 17, 18, 19, 20, 21, 22, 23, 24, 25, 26, 27, 28, 29, 30, 31, 32, 33, 34, 35, 36, 37, 38] (wr := MW dA h ad (MS.s_valueLength (MS.s_isCell (MS.s_cells (MS.s_rowSeries x rs) c3) i3c) v3)) rfl rfl (by decide) (by decide) (fun r4 u9 H locs hp9 hP hD hS => ?_)
                  have hP : va_P D vwCl (MW dA h ad (MS.s_valueLength (MS.s_isCell (MS.s_cells (MS.s_rowSeries x rs) c3) i3c) v3)) H := hP
                  have hD : va_D A (MW dA h ad (MS.s_valueLength (MS.s_isCell (MS.s_cells (MS.s_rowSeries x rs) c3) i3c) v3)) := hD
                  replace hp9 : nI ((a * 256 + n) * 64 + k) = r4 := Eq.symm hp9
                  subst hp9
                  refine lv_iload_n hx hb d_M_meet_107 rfl (lv_at hl 5 rfl) ?_
                  refine lv_iload hx hb d_M_meet_108 (lv_at hl 3 rfl) ?_
                  refine lv_iload hx hb d_M_meet_110 (lv_at hl 0 rfl) ?_
                  have hPc := hP.sub (ws' := []) [] rfl
                  have hDc := hD.sub (ws' := []) [] (by decide) rfl
                  refine jnI (rnS (As := [.int (nI a), .int (nI r), .int (nI k)]) (rest := [.int (nI ((a * 256 + n) * 64 + k)), .int sg, .ref h]) hx hb hml hown hE hK (hN _ _ hS) hPc hDc (k_cellAt l D dA H.size a r k) w971 w970 w972 w328 rfl rfl ⟨⟨by decide, by decide⟩, rfl⟩ ⟨(Nat.le_of_ble_eq_true rfl), (Nat.le_of_ble_eq_true rfl)⟩ rfl hl.1 rfl (Nat.le_of_ble_eq_true rfl) d_M_meet_112 ⟨(Nat.le_of_ble_eq_true rfl), (Nat.le_of_ble_eq_true rfl)⟩) hP hD hS hA [] [0, 1, 2, 3, 4, 5, 6, 7, 8, 9, 10, 11, 12, 13, 14, 15, 16, 17, 18, 19, 20, 21, 22, 23, 24, 25, 26, 27, 28, 29, 30, 31, 32, 33, 34, 35, 36, 37, 38] (wr := MW dA h ad (MS.s_valueLength (MS.s_isCell (MS.s_cells (MS.s_rowSeries x rs) c3) i3c) v3)) rfl rfl (by decide) (by decide) (fun r6 u9 H locs hp9 hP hD hS => ?_)
                  have hP : va_P D vwCl (MW dA h ad (MS.s_valueLength (MS.s_isCell (MS.s_cells (MS.s_rowSeries x rs) c3) i3c) v3)) H := hP
                  have hD : va_D A (MW dA h ad (MS.s_valueLength (MS.s_isCell (MS.s_cells (MS.s_rowSeries x rs) c3) i3c) v3)) := hD
                  replace hp9 : nI ((a * 256 + r) * 64 + k) = r6 := Eq.symm hp9
                  subst hp9
                  refine lv_iload_n hx hb d_M_meet_115 rfl (lv_at hl 6 rfl) ?_
                  refine lv_iload hx hb d_M_meet_116 (lv_at hl 1 rfl) ?_
                  refine lv_iload hx hb d_M_meet_118 (lv_at hl 0 rfl) ?_
                  have hPc := hP.sub (ws' := []) [] rfl
                  have hDc := hD.sub (ws' := []) [] (by decide) rfl
                  refine jnI (rnS (As := [.int (nI b), .int (nI w), .int (nI k)]) (rest := [.int (nI ((a * 256 + r) * 64 + k)), .int (nI ((a * 256 + n) * 64 + k)), .int sg, .ref h]) hx hb hml hown hE hK (hN _ _ hS) hPc hDc (k_cellAt l D dA H.size b w k) w971 w970 w972 w328 rfl rfl ⟨⟨by decide, by decide⟩, rfl⟩ ⟨(Nat.le_of_ble_eq_true rfl), (Nat.le_of_ble_eq_true rfl)⟩ rfl hl.1 rfl (Nat.le_of_ble_eq_true rfl) d_M_meet_120 ⟨(Nat.le_of_ble_eq_true rfl), (Nat.le_of_ble_eq_true rfl)⟩) hP hD hS hA [] [0, 1, 2, 3, 4, 5, 6, 7, 8, 9, 10, 11, 12, 13, 14, 15, 16, 17, 18, 19, 20, 21, 22, 23, 24, 25, 26, 27, 28, 29, 30, 31, 32, 33, 34, 35, 36, 37, 38] (wr := MW dA h ad (MS.s_valueLength (MS.s_isCell (MS.s_cells (MS.s_rowSeries x rs) c3) i3c) v3)) rfl rfl (by decide) (by decide) (fun r8 u9 H locs hp9 hP hD hS => ?_)
                  have hP : va_P D vwCl (MW dA h ad (MS.s_valueLength (MS.s_isCell (MS.s_cells (MS.s_rowSeries x rs) c3) i3c) v3)) H := hP
                  have hD : va_D A (MW dA h ad (MS.s_valueLength (MS.s_isCell (MS.s_cells (MS.s_rowSeries x rs) c3) i3c) v3)) := hD
                  replace hp9 : nI ((b * 256 + w) * 64 + k) = r8 := Eq.symm hp9
                  subst hp9
                  refine jfV (rnV (As := [.int sg, .int (nI ((a * 256 + n) * 64 + k)), .int (nI ((a * 256 + r) * 64 + k)), .int (nI ((b * 256 + w) * 64 + k))]) (rest := []) hx hb hml hown hE hK (hN _ _ hS) hP hD (k_join l D dA H.size h ad (MS.s_valueLength (MS.s_isCell (MS.s_cells (MS.s_rowSeries x rs) c3) i3c) v3) sg ((a * 256 + n) * 64 + k) ((a * 256 + r) * 64 + k) ((b * 256 + w) * 64 + k) hsg (show ((a * 256 + n) * 64 + k) < 327680 from by omega) (show ((a * 256 + r) * 64 + k) < 327680 from by omega) (show ((b * 256 + w) * 64 + k) < 327680 from by omega)) (q0 := 0) rfl rfl w974 w973 w975 w976 w328 rfl rfl ⟨⟨by decide, by decide⟩, rfl⟩ ⟨(Nat.le_of_ble_eq_true rfl), (Nat.le_of_ble_eq_true rfl)⟩ rfl hl.1 rfl (Nat.le_of_ble_eq_true rfl) d_M_meet_123 ⟨(Nat.le_of_ble_eq_true rfl), (Nat.le_of_ble_eq_true rfl)⟩) hP hD hS hA (fun u11 H locs hp9 hP hD hS => ?_)
                  have hP : va_P D vwCl (MW dA h ad (MS.s_valueLength (MS.s_isCell (MS.s_cells (MS.s_rowSeries x rs) (va_up c3 ((a * 256 + n) * 64 + k) (jnW sg (jnB sg (i3c ((a * 256 + r) * 64 + k)) (i3c ((b * 256 + w) * 64 + k)) (c3 ((b * 256 + w) * 64 + k))) (c3 ((a * 256 + r) * 64 + k)) (c3 ((b * 256 + w) * 64 + k))))) (va_up i3c ((a * 256 + n) * 64 + k) (jnB sg (i3c ((a * 256 + r) * 64 + k)) (i3c ((b * 256 + w) * 64 + k)) (c3 ((b * 256 + w) * 64 + k))))) v3)) H := hP
                  have hD : va_D A (MW dA h ad (MS.s_valueLength (MS.s_isCell (MS.s_cells (MS.s_rowSeries x rs) (va_up c3 ((a * 256 + n) * 64 + k) (jnW sg (jnB sg (i3c ((a * 256 + r) * 64 + k)) (i3c ((b * 256 + w) * 64 + k)) (c3 ((b * 256 + w) * 64 + k))) (c3 ((a * 256 + r) * 64 + k)) (c3 ((b * 256 + w) * 64 + k))))) (va_up i3c ((a * 256 + n) * 64 + k) (jnB sg (i3c ((a * 256 + r) * 64 + k)) (i3c ((b * 256 + w) * 64 + k)) (c3 ((b * 256 + w) * 64 + k))))) v3)) := hD
                  refine lv_iinc (k := 0) (v := nI (k + 1)) hx hb d_M_meet_126 hl rfl (iincN (k) 1 1 (by decide)) (by decide) rfl (fun ls hl => ?_)
                  have hl : lv_has ls 8 [(7, .int (nI (k + 1))), (6, .int (nI w)), (4, .int (nI n)), (5, .int (nI r)), (1, .int sg), (2, .int (nI a)), (3, .int (nI b)), (0, .ref h)] := hl
                  refine lv_goto hx hb d_M_meet_129 (tgt := 88) rfl ?_
                  exact ih88 _ (by omega) (k + 1) (va_up i3c ((a * 256 + n) * 64 + k) (jnB sg (i3c ((a * 256 + r) * 64 + k)) (i3c ((b * 256 + w) * 64 + k)) (c3 ((b * 256 + w) * 64 + k)))) (va_up c3 ((a * 256 + n) * 64 + k) (jnW sg (jnB sg (i3c ((a * 256 + r) * 64 + k)) (i3c ((b * 256 + w) * 64 + k)) (c3 ((b * 256 + w) * 64 + k))) (c3 ((a * 256 + r) * 64 + k)) (c3 ((b * 256 + w) * 64 + k)))) (by omega) (jrG_s m2) rfl H _ ls hP hD hS (lv_sub hl [0, 1, 2, 3, 4, 5, 6, 7] rfl)
            exact L88 _ 0 i2c c2 (Nat.zero_le _) rfl rfl H _ ls hP hD hS (lv_sub hl [0, 1, 2, 3, 4, 5, 6, 7] rfl)
          · have g2 := (nI_eq (a := w) (b := x.tableRows b) (by omega) (by omega)).mp g2
            refine lv_goto hx hb d_M_meet_82 (tgt := 161) rfl ?_
            refine lv_iinc (k := 2) (v := nI (r + 1)) hx hb d_M_meet_161 hl rfl (iincN (r) 1 1 (by decide)) (by decide) rfl (fun ls hl => ?_)
            have hl : lv_has ls 8 [(5, .int (nI (r + 1))), (6, .int (nI w)), (4, .int (nI n)), (1, .int sg), (2, .int (nI a)), (3, .int (nI b)), (0, .ref h)] := hl
            refine lv_goto hx hb d_M_meet_164 (tgt := 6) rfl ?_
            exact ih6 _ (by omega) (r + 1) n i2c c2 rs v3 (by omega) ((me_s i2 f1).trans (if_pos (by omega))) (by omega) (fun q hq => i4 q (by omega)) rfl H _ ls hP hD hS (lv_sub hl [2, 0, 3, 4, 5, 6] rfl)
        refine lv_iconst (v := 0) hx hb d_M_meet_17 (by decide) ?_
        refine lv_istore hx hb d_M_meet_18 hl (by decide) rfl (fun ls hl => ?_)
        have hl : lv_has ls 8 [(6, .int 0), (4, .int (nI n)), (5, .int (nI r)), (1, .int sg), (2, .int (nI a)), (3, .int (nI b)), (0, .ref h)] := hl
        have L20 : ∀ (k9 : Nat) (w : Nat) (v3 : Nat) (j1 : x.fo a (rs (256 * a + r)) b rs (x.tableRows b) (x.tableRows b + 1 - w) w v3 = x.fo a (rs (256 * a + r)) b rs (x.tableRows b) (x.tableRows b + 1) 0 v) (j2 : w ≤ x.tableRows b) (hk9 : x.tableRows b + 1 - w = k9), ∀ (H : Heap) (locs : List Loc) (ls : Array Slot) (hP : va_P D vwCl (MW dA h ad (MS.s_valueLength (MS.s_isCell (MS.s_cells (MS.s_rowSeries x rs) c2) i2c) v3)) H) (hD : va_D A (MW dA h ad (MS.s_valueLength (MS.s_isCell (MS.s_cells (MS.s_rowSeries x rs) c2) i2c) v3))) (hS : va_S A s.heap H locs) (hl : lv_has ls 8 [(6, .int (nI w)), (4, .int (nI n)), (5, .int (nI r)), (1, .int sg), (2, .int (nI a)), (3, .int (nI b)), (0, .ref h)]), W p l e ({ frames := 3, cells := 0, slots := 0, locals := 58 } : Room) s m ([.ref h, .int sg, .int (nI a), .int (nI b)] : List Value).toArray below meth c H locs 0 0 (MQ below (va_Qv (fun (u9 : Unit) => True) (fun (u9 : Unit) t9 => bW D A (MW dA h ad (MS.s_valueLength (MS.s_isCell (MS.s_cells (MS.s_rowSeries (MS.s_tableRows x (va_up x.tableRows a n9)) rs9) c9) i9) v9)) t9) A) ([.ref h, .int sg, .int (nI a), .int (nI b)] : List Value).toArray s 0 0 A) (F0 m 20 ls []) := by
          intro k9
          induction k9 using Nat.strongRecOn with
          | ind k9 ih20 =>
            intro w v3 j1 j2 hk9 H locs ls hP hD hS hl
            refine lv_iload hx hb d_M_meet_20 (lv_at hl 0 rfl) ?_
            refine lv_aload_n hx hb d_M_meet_22 rfl (lv_at hl 6 rfl) ?_
            refine gF (v := .ref (ad 51)) hx hb hown hE hK hP 0 rfl rfl layM 51 (by decide) w521 rfl d_M_meet_23 ?_
            refine lv_iload_n hx hb d_M_meet_26 rfl (lv_at hl 5 rfl) ?_
            refine nild (f := (fun z9 => nI (x.tableRows z9))) hx hb hK hP 24 1 rfl rfl (b) (by omega) (by decide) d_M_meet_27 ?_
            refine lv_icmp_ge hx hb d_M_meet_28 (tgt := 71) rfl (fun g12 => ?_) (fun g12 => ?_)
            · have g12 := (nI_leI (a := x.tableRows b) (b := w) (by omega) (by omega)).mp g12
              exact J71 w v3 (j1.symm.trans (fo_e g12)) (by omega) H _ ls hP hD hS (lv_sub hl [0, 1, 2, 3, 4, 5, 6] rfl)
            · have g12 := mt (nI_leI (a := x.tableRows b) (b := w) (by omega) (by omega)).mpr g12
              refine lv_aload_n hx hb d_M_meet_31 rfl (lv_at hl 6 rfl) ?_
              refine lv_iload_n hx hb d_M_meet_32 rfl (lv_at hl 4 rfl) ?_
              refine lv_aload_n hx hb d_M_meet_33 rfl (lv_at hl 6 rfl) ?_
              refine gF (v := .ref (ad 52)) hx hb hown hE hK hP 0 rfl rfl layM 52 (by decide) w522 rfl d_M_meet_34 ?_
              refine lv_sipush (v := 256) hx hb d_M_meet_37 (by decide) ?_
              refine lv_iload_n hx hb d_M_meet_40 rfl (lv_at hl 4 rfl) ?_
              refine lv_imul hx hb d_M_meet_41 (tpi (y := nI (256 * a)) (pk_mul (256) (a)) ?_)
              refine lv_iload hx hb d_M_meet_42 (lv_at hl 2 rfl) ?_
              refine lv_iadd hx hb d_M_meet_44 (tpi (y := nI ((256 * a) + r)) (nI_add (256 * a) (r)) ?_)
              refine nild (f := (fun z9 => nI (rs z9))) hx hb hK hP 25 1 rfl rfl ((256 * a) + r) (by omega) (by decide) d_M_meet_45 ?_
              refine lv_aload_n hx hb d_M_meet_46 rfl (lv_at hl 6 rfl) ?_
              refine gF (v := .ref (ad 52)) hx hb hown hE hK hP 0 rfl rfl layM 52 (by decide) w522 rfl d_M_meet_47 ?_
              refine lv_sipush (v := 256) hx hb d_M_meet_50 (by decide) ?_
              refine lv_iload_n hx hb d_M_meet_53 rfl (lv_at hl 5 rfl) ?_
              refine lv_imul hx hb d_M_meet_54 (tpi (y := nI (256 * b)) (pk_mul (256) (b)) ?_)
              refine lv_iload hx hb d_M_meet_55 (lv_at hl 0 rfl) ?_
              refine lv_iadd hx hb d_M_meet_57 (tpi (y := nI ((256 * b) + w)) (nI_add (256 * b) (w)) ?_)
              refine nild (f := (fun z9 => nI (rs z9))) hx hb hK hP 25 1 rfl rfl ((256 * b) + w) (by omega) (by decide) d_M_meet_58 ?_
              refine jfI (rnV (As := [.int (nI a), .int (nI (rs ((256 * a) + r))), .int (nI (rs ((256 * b) + w)))]) (rest := []) hx hb hml hown hE hK (hN _ _ hS) hP hD (k_compareRows l D dA H.size h ad (MS.s_valueLength (MS.s_isCell (MS.s_cells (MS.s_rowSeries x rs) c2) i2c) v3) a (rs ((256 * a) + r)) (rs ((256 * b) + w)) hno (by rw [i4 _ (by omega)]; exact hra r (by omega)) (by rw [i4 _ (by omega)]; exact hrb w (by omega))) (q0 := 0) rfl rfl w983 w982 w984 w985 w328 rfl rfl ⟨⟨by decide, by decide⟩, rfl⟩ ⟨(Nat.le_of_ble_eq_true rfl), (Nat.le_of_ble_eq_true rfl)⟩ rfl hl.1 rfl (Nat.le_of_ble_eq_true rfl) d_M_meet_59 ⟨(Nat.le_of_ble_eq_true rfl), (Nat.le_of_ble_eq_true rfl)⟩) hP hD hS hA (fun r13 u14 H locs hp9 hP hD hS => ?_)
              have hP : va_P D vwCl (MW dA h ad (MS.s_valueLength (MS.s_isCell (MS.s_cells (MS.s_rowSeries x rs) c2) i2c) (((MS.s_valueLength x v3).cr a (rs ((256 * a) + r)) (rs ((256 * b) + w))).2))) H := hP
              have hD : va_D A (MW dA h ad (MS.s_valueLength (MS.s_isCell (MS.s_cells (MS.s_rowSeries x rs) c2) i2c) (((MS.s_valueLength x v3).cr a (rs ((256 * a) + r)) (rs ((256 * b) + w))).2))) := hD
              replace hp9 : ((MS.s_valueLength x v3).cr a (rs ((256 * a) + r)) (rs ((256 * b) + w))).1 = r13 := Eq.symm hp9
              subst hp9
              refine lv_if_eq hx hb d_M_meet_62 (tgt := 71) rfl (fun g15 => ?_) (fun g15 => ?_)
              · have g15 := g15
                exact J71 w (((MS.s_valueLength x v3).cr a (rs ((256 * a) + r)) (rs ((256 * b) + w))).2) (j1.symm.trans (fo_y (by omega) g12 g15)) (by omega) H _ ls hP hD hS (lv_sub hl [0, 1, 2, 3, 4, 5, 6] rfl)
              · have g15 := g15
                refine lv_iinc (k := 0) (v := nI (w + 1)) hx hb d_M_meet_65 hl rfl (iincN (w) 1 1 (by decide)) (by decide) rfl (fun ls hl => ?_)
                have hl : lv_has ls 8 [(6, .int (nI (w + 1))), (4, .int (nI n)), (5, .int (nI r)), (1, .int sg), (2, .int (nI a)), (3, .int (nI b)), (0, .ref h)] := hl
                refine lv_goto hx hb d_M_meet_68 (tgt := 20) rfl ?_
                exact ih20 _ (by omega) (w + 1) (((MS.s_valueLength x v3).cr a (rs ((256 * a) + r)) (rs ((256 * b) + w))).2) (by rw [← j1, fo_n (w := x.tableRows b + 1 - w) (by omega) g12 g15, show x.tableRows b + 1 - w - 1 = x.tableRows b + 1 - (w + 1) by omega]) (by omega) rfl H _ ls hP hD hS (lv_sub hl [0, 1, 2, 3, 4, 5, 6] rfl)
        exact L20 _ 0 v rfl (Nat.zero_le _) rfl H _ ls hP hD hS (lv_sub hl [0, 1, 2, 3, 4, 5, 6] rfl)
  exact L6 _ 0 0 x.isCell x.cells x.rowSeries x.valueLength (Nat.zero_le _) rfl (Nat.le_refl _) (fun q _ => rfl) rfl H _ ls hP hD hS (lv_sub hl [1, 0, 3, 4, 5, 2] rfl)
def MS.meS (x : MS) (sg : Int32) (a b : Nat) : MS := MS.s_valueLength (MS.s_isCell (MS.s_cells (MS.s_rowSeries (MS.s_tableRows x (va_up x.tableRows a (x.meG sg a b (x.tableRows a)).1)) ((x.meG sg a b (x.tableRows a)).2.2.1)) ((x.meG sg a b (x.tableRows a)).2.1.2)) ((x.meG sg a b (x.tableRows a)).2.1.1)) ((x.meG sg a b (x.tableRows a)).2.2.2)
def MS.obS (x : MS) (sg : Int32) (a b : Nat) : MS := MS.s_isCell (MS.s_cells (MS.s_tableRows x (va_up x.tableRows a (if 0 < x.tableRows b then x.tableRows a else 0))) ((if 0 < x.tableRows b then obG sg (x.isCell, x.cells) a b x.windows (x.tableRows a) else (x.isCell, x.cells)).2)) ((if 0 < x.tableRows b then obG sg (x.isCell, x.cells) a b x.windows (x.tableRows a) else (x.isCell, x.cells)).1)
def MS.spS (x : MS) (sg : Int32) (a b : Nat) : MS := MS.s_isCell (MS.s_cells (MS.s_rowSeries (MS.s_tableRows (MS.s_nameLengths (MS.s_nameFroms (MS.s_tableNames x (va_up x.tableNames a (x.tableNames b))) (mvG x.nameFroms (6 * a) (6 * b) 6)) (mvG x.nameLengths (6 * a) (6 * b) 6)) (va_up x.tableRows a (if 0 < x.tableRows a then x.tableRows b else 0))) (mvG x.rowSeries (256 * a) (256 * b) (if 0 < x.tableRows a then x.tableRows b else 0))) ((spG sg (x.isCell, x.cells) a b (if 0 < x.tableRows a then x.tableRows b else 0) x.windows (if 0 < x.tableRows a then x.tableRows b else 0)).2)) ((spG sg (x.isCell, x.cells) a b (if 0 < x.tableRows a then x.tableRows b else 0) x.windows (if 0 < x.tableRows a then x.tableRows b else 0)).1)
/-- the two uppermost tables put together, if their names go together -/
def MS.opB (x : MS) : Bool := x.smN (x.pile - 2) (x.pile - 1) || (decide (x.tableNames (x.pile - 1) = 0) || decide (x.tableNames (x.pile - 2) = 0))
def MS.opM (x : MS) (sg : Int32) : MS := if x.smN (x.pile - 2) (x.pile - 1) = true then x.meS sg (x.pile - 2) (x.pile - 1) else if x.tableNames (x.pile - 1) = 0 then x.obS sg (x.pile - 2) (x.pile - 1) else x.spS sg (x.pile - 2) (x.pile - 1)
def MS.opS (x : MS) (sg : Int32) (q : Nat) : MS := if x.opB = true then MS.swS (MS.s_pile (x.opM sg) ((x.opM sg).pile - 1)) (x.pile - 2) else MS.s_faultPlace (MS.s_faultCode x 5) (nI q)
theorem d_M_operate_0 : decode prog_14_method_75_code 0 = .ok (.aload_n 0, 1) := by decide +kernel
theorem d_M_operate_1 : decode prog_14_method_75_code 1 = .ok (.getfield 400, 3) := by decide +kernel
theorem d_M_operate_4 : decode prog_14_method_75_code 4 = .ok (.iconst 2, 1) := by decide +kernel
theorem d_M_operate_5 : decode prog_14_method_75_code 5 = .ok (.isub, 1) := by decide +kernel
theorem d_M_operate_6 : decode prog_14_method_75_code 6 = .ok (.istore_n 3, 1) := by decide +kernel
theorem d_M_operate_7 : decode prog_14_method_75_code 7 = .ok (.aload_n 0, 1) := by decide +kernel
theorem d_M_operate_8 : decode prog_14_method_75_code 8 = .ok (.getfield 400, 3) := by decide +kernel
theorem d_M_operate_11 : decode prog_14_method_75_code 11 = .ok (.iconst 1, 1) := by decide +kernel
theorem d_M_operate_12 : decode prog_14_method_75_code 12 = .ok (.isub, 1) := by decide +kernel
theorem d_M_operate_13 : decode prog_14_method_75_code 13 = .ok (.istore 4, 2) := by decide +kernel
theorem d_M_operate_179 : decode prog_14_method_75_code 179 = .ok (.aload_n 0, 1) := by decide +kernel
theorem d_M_operate_180 : decode prog_14_method_75_code 180 = .ok (.dup, 1) := by decide +kernel
theorem d_M_operate_181 : decode prog_14_method_75_code 181 = .ok (.getfield 400, 3) := by decide +kernel
theorem d_M_operate_184 : decode prog_14_method_75_code 184 = .ok (.iconst 1, 1) := by decide +kernel
theorem d_M_operate_185 : decode prog_14_method_75_code 185 = .ok (.isub, 1) := by decide +kernel
theorem d_M_operate_186 : decode prog_14_method_75_code 186 = .ok (.putfield 400, 3) := by decide +kernel
theorem d_M_operate_189 : decode prog_14_method_75_code 189 = .ok (.aload_n 0, 1) := by decide +kernel
theorem d_M_operate_190 : decode prog_14_method_75_code 190 = .ok (.iload_n 3, 1) := by decide +kernel
theorem d_M_operate_191 : decode prog_14_method_75_code 191 = .ok (.invokevirtual 419, 3) := by decide +kernel
theorem d_M_operate_194 : decode prog_14_method_75_code 194 = .ok (.iconst 1, 1) := by decide +kernel
theorem d_M_operate_195 : decode prog_14_method_75_code 195 = .ok (.ireturn, 1) := by decide +kernel
theorem d_M_operate_15 : decode prog_14_method_75_code 15 = .ok (.aload_n 0, 1) := by decide +kernel
theorem d_M_operate_16 : decode prog_14_method_75_code 16 = .ok (.iload_n 3, 1) := by decide +kernel
theorem d_M_operate_17 : decode prog_14_method_75_code 17 = .ok (.iload 4, 2) := by decide +kernel
theorem d_M_operate_19 : decode prog_14_method_75_code 19 = .ok (.invokevirtual 422, 3) := by decide +kernel
theorem d_M_operate_22 : decode prog_14_method_75_code 22 = .ok (.ifCond .eq 14, 3) := by decide +kernel
theorem d_M_operate_36 : decode prog_14_method_75_code 36 = .ok (.aload_n 0, 1) := by decide +kernel
theorem d_M_operate_37 : decode prog_14_method_75_code 37 = .ok (.getfield 88, 3) := by decide +kernel
theorem d_M_operate_40 : decode prog_14_method_75_code 40 = .ok (.iload 4, 2) := by decide +kernel
theorem d_M_operate_42 : decode prog_14_method_75_code 42 = .ok (.iaload, 1) := by decide +kernel
theorem d_M_operate_43 : decode prog_14_method_75_code 43 = .ok (.ifCond .ne 109, 3) := by decide +kernel
theorem d_M_operate_152 : decode prog_14_method_75_code 152 = .ok (.aload_n 0, 1) := by decide +kernel
theorem d_M_operate_153 : decode prog_14_method_75_code 153 = .ok (.getfield 88, 3) := by decide +kernel
theorem d_M_operate_156 : decode prog_14_method_75_code 156 = .ok (.iload_n 3, 1) := by decide +kernel
theorem d_M_operate_157 : decode prog_14_method_75_code 157 = .ok (.iaload, 1) := by decide +kernel
theorem d_M_operate_158 : decode prog_14_method_75_code 158 = .ok (.ifCond .ne 14, 3) := by decide +kernel
theorem d_M_operate_172 : decode prog_14_method_75_code 172 = .ok (.aload_n 0, 1) := by decide +kernel
theorem d_M_operate_173 : decode prog_14_method_75_code 173 = .ok (.iconst 5, 1) := by decide +kernel
theorem d_M_operate_174 : decode prog_14_method_75_code 174 = .ok (.iload_n 2, 1) := by decide +kernel
theorem d_M_operate_175 : decode prog_14_method_75_code 175 = .ok (.invokevirtual 224, 3) := by decide +kernel
theorem d_M_operate_178 : decode prog_14_method_75_code 178 = .ok (.ireturn, 1) := by decide +kernel
theorem d_M_operate_161 : decode prog_14_method_75_code 161 = .ok (.aload_n 0, 1) := by decide +kernel
theorem d_M_operate_162 : decode prog_14_method_75_code 162 = .ok (.iload_n 1, 1) := by decide +kernel
theorem d_M_operate_163 : decode prog_14_method_75_code 163 = .ok (.iload_n 3, 1) := by decide +kernel
theorem d_M_operate_164 : decode prog_14_method_75_code 164 = .ok (.iload 4, 2) := by decide +kernel
theorem d_M_operate_166 : decode prog_14_method_75_code 166 = .ok (.invokevirtual 433, 3) := by decide +kernel
theorem d_M_operate_169 : decode prog_14_method_75_code 169 = .ok (.goto 10, 3) := by decide +kernel
theorem d_M_operate_46 : decode prog_14_method_75_code 46 = .ok (.iconst 0, 1) := by decide +kernel
theorem d_M_operate_47 : decode prog_14_method_75_code 47 = .ok (.istore 5, 2) := by decide +kernel
theorem d_M_operate_49 : decode prog_14_method_75_code 49 = .ok (.iload 5, 2) := by decide +kernel
theorem d_M_operate_51 : decode prog_14_method_75_code 51 = .ok (.aload_n 0, 1) := by decide +kernel
theorem d_M_operate_52 : decode prog_14_method_75_code 52 = .ok (.getfield 97, 3) := by decide +kernel
theorem d_M_operate_55 : decode prog_14_method_75_code 55 = .ok (.iload_n 3, 1) := by decide +kernel
theorem d_M_operate_56 : decode prog_14_method_75_code 56 = .ok (.iaload, 1) := by decide +kernel
theorem d_M_operate_57 : decode prog_14_method_75_code 57 = .ok (.if_icmp .ge 66, 3) := by decide +kernel
theorem d_M_operate_123 : decode prog_14_method_75_code 123 = .ok (.aload_n 0, 1) := by decide +kernel
theorem d_M_operate_124 : decode prog_14_method_75_code 124 = .ok (.getfield 97, 3) := by decide +kernel
theorem d_M_operate_127 : decode prog_14_method_75_code 127 = .ok (.iload_n 3, 1) := by decide +kernel
theorem d_M_operate_128 : decode prog_14_method_75_code 128 = .ok (.aload_n 0, 1) := by decide +kernel
theorem d_M_operate_129 : decode prog_14_method_75_code 129 = .ok (.getfield 97, 3) := by decide +kernel
theorem d_M_operate_132 : decode prog_14_method_75_code 132 = .ok (.iload 4, 2) := by decide +kernel
theorem d_M_operate_134 : decode prog_14_method_75_code 134 = .ok (.iaload, 1) := by decide +kernel
theorem d_M_operate_135 : decode prog_14_method_75_code 135 = .ok (.ifCond .le 12, 3) := by decide +kernel
theorem d_M_operate_147 : decode prog_14_method_75_code 147 = .ok (.iconst 0, 1) := by decide +kernel
theorem d_M_operate_148 : decode prog_14_method_75_code 148 = .ok (.iastore, 1) := by decide +kernel
theorem d_M_operate_149 : decode prog_14_method_75_code 149 = .ok (.goto 30, 3) := by decide +kernel
theorem d_M_operate_138 : decode prog_14_method_75_code 138 = .ok (.aload_n 0, 1) := by decide +kernel
theorem d_M_operate_139 : decode prog_14_method_75_code 139 = .ok (.getfield 97, 3) := by decide +kernel
theorem d_M_operate_142 : decode prog_14_method_75_code 142 = .ok (.iload_n 3, 1) := by decide +kernel
theorem d_M_operate_143 : decode prog_14_method_75_code 143 = .ok (.iaload, 1) := by decide +kernel
theorem d_M_operate_144 : decode prog_14_method_75_code 144 = .ok (.goto 4, 3) := by decide +kernel
theorem d_M_operate_117 : decode prog_14_method_75_code 117 = .ok (.iinc 5 1, 3) := by decide +kernel
theorem d_M_operate_120 : decode prog_14_method_75_code 120 = .ok (.goto (-71), 3) := by decide +kernel
theorem d_M_operate_60 : decode prog_14_method_75_code 60 = .ok (.iconst 0, 1) := by decide +kernel
theorem d_M_operate_61 : decode prog_14_method_75_code 61 = .ok (.istore 6, 2) := by decide +kernel
theorem d_M_operate_63 : decode prog_14_method_75_code 63 = .ok (.iload 6, 2) := by decide +kernel
theorem d_M_operate_65 : decode prog_14_method_75_code 65 = .ok (.aload_n 0, 1) := by decide +kernel
theorem d_M_operate_66 : decode prog_14_method_75_code 66 = .ok (.getfield 412, 3) := by decide +kernel
theorem d_M_operate_69 : decode prog_14_method_75_code 69 = .ok (.if_icmp .ge 48, 3) := by decide +kernel
theorem d_M_operate_72 : decode prog_14_method_75_code 72 = .ok (.aload_n 0, 1) := by decide +kernel
theorem d_M_operate_73 : decode prog_14_method_75_code 73 = .ok (.getfield 97, 3) := by decide +kernel
theorem d_M_operate_76 : decode prog_14_method_75_code 76 = .ok (.iload 4, 2) := by decide +kernel
theorem d_M_operate_78 : decode prog_14_method_75_code 78 = .ok (.iaload, 1) := by decide +kernel
theorem d_M_operate_79 : decode prog_14_method_75_code 79 = .ok (.ifCond .le 38, 3) := by decide +kernel
theorem d_M_operate_82 : decode prog_14_method_75_code 82 = .ok (.aload_n 0, 1) := by decide +kernel
theorem d_M_operate_83 : decode prog_14_method_75_code 83 = .ok (.iload_n 1, 1) := by decide +kernel
theorem d_M_operate_84 : decode prog_14_method_75_code 84 = .ok (.iload_n 3, 1) := by decide +kernel
theorem d_M_operate_85 : decode prog_14_method_75_code 85 = .ok (.iload 5, 2) := by decide +kernel
theorem d_M_operate_87 : decode prog_14_method_75_code 87 = .ok (.iload 6, 2) := by decide +kernel
theorem d_M_operate_89 : decode prog_14_method_75_code 89 = .ok (.invokestatic 397, 3) := by decide +kernel
theorem d_M_operate_92 : decode prog_14_method_75_code 92 = .ok (.iload_n 3, 1) := by decide +kernel
theorem d_M_operate_93 : decode prog_14_method_75_code 93 = .ok (.iload 5, 2) := by decide +kernel
theorem d_M_operate_95 : decode prog_14_method_75_code 95 = .ok (.iload 6, 2) := by decide +kernel
theorem d_M_operate_97 : decode prog_14_method_75_code 97 = .ok (.invokestatic 397, 3) := by decide +kernel
theorem d_M_operate_100 : decode prog_14_method_75_code 100 = .ok (.iload 4, 2) := by decide +kernel
theorem d_M_operate_102 : decode prog_14_method_75_code 102 = .ok (.iconst 0, 1) := by decide +kernel
theorem d_M_operate_103 : decode prog_14_method_75_code 103 = .ok (.iload 6, 2) := by decide +kernel
theorem d_M_operate_105 : decode prog_14_method_75_code 105 = .ok (.invokestatic 397, 3) := by decide +kernel
theorem d_M_operate_108 : decode prog_14_method_75_code 108 = .ok (.invokevirtual 429, 3) := by decide +kernel
theorem d_M_operate_111 : decode prog_14_method_75_code 111 = .ok (.iinc 6 1, 3) := by decide +kernel
theorem d_M_operate_114 : decode prog_14_method_75_code 114 = .ok (.goto (-51), 3) := by decide +kernel
theorem d_M_operate_25 : decode prog_14_method_75_code 25 = .ok (.aload_n 0, 1) := by decide +kernel
theorem d_M_operate_26 : decode prog_14_method_75_code 26 = .ok (.iload_n 1, 1) := by decide +kernel
theorem d_M_operate_27 : decode prog_14_method_75_code 27 = .ok (.iload_n 3, 1) := by decide +kernel
theorem d_M_operate_28 : decode prog_14_method_75_code 28 = .ok (.iload 4, 2) := by decide +kernel
theorem d_M_operate_30 : decode prog_14_method_75_code 30 = .ok (.invokevirtual 425, 3) := by decide +kernel
theorem d_M_operate_33 : decode prog_14_method_75_code 33 = .ok (.goto 146, 3) := by decide +kernel
theorem w1002 : Cond.methodLink "SeriesVaultModel" 422 ⟨"SeriesVaultModel", "hasSameNames", "(II)Z"⟩ ∈ aW := aw_of (tb_11 (List.mem_of_getElem? (i := 31) rfl)) rfl
theorem w1003 : Cond.code ⟨"SeriesVaultModel", "hasSameNames", "(II)Z"⟩ prog_14_method_73_code 7 (some FieldType.boolean) ∈ aW := aw_of (tb_11 (List.mem_of_getElem? (i := 34) rfl)) rfl
theorem w1004 : Cond.instanceMethod ⟨"SeriesVaultModel", "hasSameNames", "(II)Z"⟩ ∈ aW := aw_of (tb_11 (List.mem_of_getElem? (i := 33) rfl)) rfl
theorem w1005 : Cond.selects "SeriesVaultModel" ⟨"SeriesVaultModel", "hasSameNames", "(II)Z"⟩ ⟨"SeriesVaultModel", "hasSameNames", "(II)Z"⟩ ∈ aW := aw_pr (List.mem_map.mpr ⟨_, pv_8 (List.mem_of_getElem? (i := 8) rfl), rfl⟩) rfl
theorem w1006 : Cond.methodLink "SeriesVaultModel" 433 ⟨"SeriesVaultModel", "spread", "(III)V"⟩ ∈ aW := aw_of (tb_11 (List.mem_of_getElem? (i := 43) rfl)) rfl
theorem w1007 : Cond.code ⟨"SeriesVaultModel", "spread", "(III)V"⟩ prog_14_method_77_code 7 none ∈ aW := aw_of (tb_11 (List.mem_of_getElem? (i := 46) rfl)) rfl
theorem w1008 : Cond.instanceMethod ⟨"SeriesVaultModel", "spread", "(III)V"⟩ ∈ aW := aw_of (tb_11 (List.mem_of_getElem? (i := 45) rfl)) rfl
theorem w1009 : Cond.selects "SeriesVaultModel" ⟨"SeriesVaultModel", "spread", "(III)V"⟩ ⟨"SeriesVaultModel", "spread", "(III)V"⟩ ∈ aW := aw_pr (List.mem_map.mpr ⟨_, pv_8 (List.mem_of_getElem? (i := 11) rfl), rfl⟩) rfl
theorem w1010 : Cond.methodLink "SeriesVaultModel" 425 ⟨"SeriesVaultModel", "meet", "(III)V"⟩ ∈ aW := aw_of (tb_11 (List.mem_of_getElem? (i := 35) rfl)) rfl
theorem w1011 : Cond.code ⟨"SeriesVaultModel", "meet", "(III)V"⟩ prog_14_method_76_code 8 none ∈ aW := aw_of (tb_11 (List.mem_of_getElem? (i := 38) rfl)) rfl
theorem w1012 : Cond.instanceMethod ⟨"SeriesVaultModel", "meet", "(III)V"⟩ ∈ aW := aw_of (tb_11 (List.mem_of_getElem? (i := 37) rfl)) rfl
theorem w1013 : Cond.selects "SeriesVaultModel" ⟨"SeriesVaultModel", "meet", "(III)V"⟩ ⟨"SeriesVaultModel", "meet", "(III)V"⟩ ∈ aW := aw_pr (List.mem_map.mpr ⟨_, pv_8 (List.mem_of_getElem? (i := 9) rfl), rfl⟩) rfl
set_option maxHeartbeats 4000000 in
set_option maxRecDepth 100000 in
theorem k_operate (l : Launch) (D : va_G) (dA : Nat → ClassId) (sz : Nat) (h : Nat) (ad : Nat → Nat) (x : MS) (sg : Int32) (q7 : Nat) (hsg : isOp sg) (hp2 : 2 ≤ x.pile) (hp20 : x.pile ≤ 20) (hwi : x.windows ≤ 64) (hrw : ∀ t : Nat, t < x.pile → x.tableRows t ≤ 256 ∧ x.nOK t ∧ ∀ q : Nat, q < x.tableRows t → x.tableNames t = 0 ∨ x.tOK (x.rowSeries (256 * t + q))) (hn0 : ∀ t : Nat, t < x.pile → ∀ k : Nat, k < 6 → x.nameFroms (6 * t + k) + x.nameLengths (6 * t + k) ≤ 65536) (hf : x.faultCode = 0) : Met l ⟨"SeriesVaultModel", "operate", "(II)Z"⟩ [Cond.code ⟨"SeriesVaultModel", "operate", "(II)Z"⟩ prog_14_method_75_code 7 (some FieldType.boolean)] { frames := 4, cells := 0, slots := 0, locals := 85 } (pC D dA [.ref h, .int sg, .int (nI q7)] (MW dA h ad x) sz) (va_Qi (fun (r9 : Int32) (u9 : MS) => r9 = bI x.opB ∧ u9 = x.opS sg q7) (fun (u9 : MS) t9 => bW D (va_A (MW dA h ad x) sz) (MW dA h ad u9) t9) (va_A (MW dA h ad x) sz)) 0 0 (va_A (MW dA h ad x) sz) := by
  refine mkC (y := ⟨"SeriesVaultModel", "operate", "(II)Z"⟩) (cc := prog_14_method_75_code) (maxL := 7) (av := [.ref h, .int sg, .int (nI q7)]) (ws := MW dA h ad x) (sz := sz) (Qc := fun A => va_Qi (fun (r9 : Int32) (u9 : MS) => r9 = bI x.opB ∧ u9 = x.opS sg q7) (fun (u9 : MS) t9 => bW D A (MW dA h ad u9) t9) A) (by decide) (Nat.le_of_ble_eq_true rfl) ?_
  intro A p e s m below meth c ls hsz hB
  obtain ⟨hx, hb, hr, hml, hown, hin, hlk, hE, hK, hP, hD, hS, hA, hN, hl⟩ := hB
  have hown : s.vm.findClass "SeriesVaultModel" = some m.cls := hown
  have hl : lv_has ls 7 [(0, .ref h), (1, .int sg), (2, .int (nI q7))] := hl
  obtain ⟨H, hH⟩ : ∃ z, z = s.heap := ⟨_, rfl⟩
  have hP : va_P D vwCl (MW dA h ad x) H := by rw [hH]; exact hP
  have hS : va_S A s.heap H [] := by rw [hH]; exact hS
  rw [← hH]
  have ra0 := hrw (x.pile - 2) (by omega)
  have rb0 := hrw (x.pile - 1) (by omega)
  have ra1 := ra0.1
  have rb1 := rb0.1
  have na6 := ra0.2.1.2.1
  have nb6 := rb0.2.1.2.1
  obtain ⟨n9, i9, c9, rs9, v9, hme⟩ : ∃ z1 z2 z3 z4 z5, x.meG sg (x.pile - 2) (x.pile - 1) (x.tableRows (x.pile - 2)) = (z1, (z2, z3), z4, z5) := ⟨_, _, _, _, _, rfl⟩
  have n9l : n9 ≤ 256 := Nat.le_trans (me_le hme) ra1
  obtain ⟨ns, hns⟩ : ∃ z1, (if 0 < x.tableRows (x.pile - 2) then x.tableRows (x.pile - 1) else 0) = z1 := ⟨_, rfl⟩
  have nsl : ns ≤ 256 := by rw [← hns]; split <;> omega
  obtain ⟨is9, cs9, hsp⟩ : ∃ z1 z2, spG sg (x.isCell, x.cells) (x.pile - 2) (x.pile - 1) ns x.windows ns = (z1, z2) := ⟨_, _, rfl⟩
  refine lv_aload_n hx hb d_M_operate_0 rfl (lv_at hl 0 rfl) ?_
  refine gF (v := .int (nI x.pile)) hx hb hown hE hK hP 0 rfl rfl layM 55 (by decide) w476 rfl d_M_operate_1 ?_
  refine lv_iconst (v := 2) hx hb d_M_operate_4 (by decide) ?_
  refine lv_isub hx hb d_M_operate_5 (tpi (y := nI (x.pile - 2)) (pk_sub (a := x.pile) (b := 2) (by omega)) ?_)
  refine lv_istore_n hx hb d_M_operate_6 rfl hl (by decide) rfl (fun ls hl => ?_)
  have hl : lv_has ls 7 [(3, .int (nI (x.pile - 2))), (0, .ref h), (1, .int sg), (2, .int (nI q7))] := hl
  refine lv_aload_n hx hb d_M_operate_7 rfl (lv_at hl 1 rfl) ?_
  refine gF (v := .int (nI x.pile)) hx hb hown hE hK hP 0 rfl rfl layM 55 (by decide) w476 rfl d_M_operate_8 ?_
  refine lv_iconst (v := 1) hx hb d_M_operate_11 (by decide) ?_
  refine lv_isub hx hb d_M_operate_12 (tpi (y := nI (x.pile - 1)) (pk_sub (a := x.pile) (b := 1) (by omega)) ?_)
  refine lv_istore hx hb d_M_operate_13 hl (by decide) rfl (fun ls hl => ?_)
  have hl : lv_has ls 7 [(4, .int (nI (x.pile - 1))), (3, .int (nI (x.pile - 2))), (0, .ref h), (1, .int sg), (2, .int (nI q7))] := hl
  have J179 : ∀ (z : MS) (ez : z = x.opM sg) (eb : x.opB = true) (z1 : z.pile = x.pile) (z2 : z.windows = x.windows) (z3 : z.tableRows (x.pile - 2) ≤ 256), ∀ (H : Heap) (locs : List Loc) (ls : Array Slot) (hP : va_P D vwCl (MW dA h ad z) H) (hD : va_D A (MW dA h ad z)) (hS : va_S A s.heap H locs) (hl : lv_has ls 7 [(1, .int sg), (2, .int (nI q7)), (3, .int (nI (x.pile - 2))), (4, .int (nI (x.pile - 1))), (0, .ref h)]), W p l e ({ frames := 4, cells := 0, slots := 0, locals := 85 } : Room) s m ([.ref h, .int sg, .int (nI q7)] : List Value).toArray below meth c H locs 0 0 (MQ below (va_Qi (fun (r9 : Int32) (u9 : MS) => r9 = bI x.opB ∧ u9 = x.opS sg q7) (fun (u9 : MS) t9 => bW D A (MW dA h ad u9) t9) A) ([.ref h, .int sg, .int (nI q7)] : List Value).toArray s 0 0 A) (F0 m 179 ls []) := by
    intro z ez eb z1 z2 z3 H locs ls hP hD hS hl
    refine lv_aload_n hx hb d_M_operate_179 rfl (lv_at hl 4 rfl) ?_
    refine lv_dup hx hb d_M_operate_180 rfl ?_
    refine gF (v := .int (nI z.pile)) hx hb hown hE hK hP 0 rfl rfl layM 55 (by decide) w476 rfl d_M_operate_181 ?_
    refine lv_iconst (v := 1) hx hb d_M_operate_184 (by decide) ?_
    refine lv_isub hx hb d_M_operate_185 (tpi (y := nI (z.pile - 1)) (pk_sub (a := z.pile) (b := 1) (by omega)) ?_)
    refine pF (v := .int (nI (z.pile - 1))) hx hb hown hE hK hP hD hS 0 rfl rfl layM tyM tokM nmM 55 (by decide) w476 rfl rfl rfl (Nat.le_of_ble_eq_true rfl) d_M_operate_186 (fun H locs hP hD hS => ?_)
    have hP : va_P D vwCl (MW dA h ad (MS.s_pile z (z.pile - 1))) H := hP
    have hD : va_D A (MW dA h ad (MS.s_pile z (z.pile - 1))) := hD
    obtain ⟨b9, i9s, c9s, r9s, hsw⟩ : ∃ z1 z2 z3 z4, swG z.isCell z.cells z.rowSeries (x.pile - 2) z.windows (z.tableRows (x.pile - 2)) = (z1, z2, z3, z4) := ⟨_, _, _, _, rfl⟩
    refine lv_aload_n hx hb d_M_operate_189 rfl (lv_at hl 4 rfl) ?_
    refine lv_iload_n hx hb d_M_operate_190 rfl (lv_at hl 2 rfl) ?_
    refine jfV (rnV (As := [.int (nI (x.pile - 2))]) (rest := []) hx hb hml hown hE hK (hN _ _ hS) hP hD (k_sweep l D dA H.size h ad (MS.s_pile z (z.pile - 1)) (x.pile - 2) b9 i9s c9s r9s (show (x.pile - 2) < 20 from by omega) (show z.windows ≤ 64 from by omega) z3 hsw) (q0 := 0) rfl rfl w991 w990 w992 w993 w328 rfl rfl ⟨⟨by decide, by decide⟩, rfl⟩ ⟨(Nat.le_of_ble_eq_true rfl), (Nat.le_of_ble_eq_true rfl)⟩ rfl hl.1 rfl (Nat.le_of_ble_eq_true rfl) d_M_operate_191 ⟨(Nat.le_of_ble_eq_true rfl), (Nat.le_of_ble_eq_true rfl)⟩) hP hD hS hA (fun u2 H locs hp9 hP hD hS => ?_)
    have hP : va_P D vwCl (MW dA h ad (MS.s_pile (MS.s_isCell (MS.s_cells (MS.s_rowSeries (MS.s_tableRows z (va_up z.tableRows (x.pile - 2) b9)) r9s) c9s) i9s) (z.pile - 1))) H := hP
    have hD : va_D A (MW dA h ad (MS.s_pile (MS.s_isCell (MS.s_cells (MS.s_rowSeries (MS.s_tableRows z (va_up z.tableRows (x.pile - 2) b9)) r9s) c9s) i9s) (z.pile - 1))) := hD
    refine lv_iconst (v := 1) hx hb d_M_operate_194 (by decide) ?_
    exact rfZ hx hb hr (bI_nar true) hlk hS (MS.s_pile (MS.s_isCell (MS.s_cells (MS.s_rowSeries (MS.s_tableRows z (va_up z.tableRows (x.pile - 2) b9)) r9s) c9s) i9s) (z.pile - 1)) ⟨by rw [eb]; rfl, by unfold MS.opS; rw [if_pos eb, ← ez]; exact (swS_eq (x := MS.s_pile z (z.pile - 1)) (t := x.pile - 2) hsw).symm⟩ hP hD (Nat.le_of_ble_eq_true rfl) (Nat.le_of_ble_eq_true rfl) d_M_operate_195
  refine lv_aload_n hx hb d_M_operate_15 rfl (lv_at hl 2 rfl) ?_
  refine lv_iload_n hx hb d_M_operate_16 rfl (lv_at hl 1 rfl) ?_
  refine lv_iload hx hb d_M_operate_17 (lv_at hl 0 rfl) ?_
  refine jfI (rnV (As := [.int (nI (x.pile - 2)), .int (nI (x.pile - 1))]) (rest := []) hx hb hml hown hE hK (hN _ _ hS) hP hD (k_hasSameNames l D dA H.size h ad x (x.pile - 2) (x.pile - 1) (show (x.pile - 2) < 20 from by omega) (show (x.pile - 1) < 20 from by omega) na6 nb6 (fun k hk => ⟨hn0 _ (by omega) k hk, hn0 _ (by omega) k hk⟩)) (q0 := 0) rfl rfl w1003 w1002 w1004 w1005 w328 rfl rfl ⟨⟨by decide, by decide⟩, rfl⟩ ⟨(Nat.le_of_ble_eq_true rfl), (Nat.le_of_ble_eq_true rfl)⟩ rfl hl.1 rfl (Nat.le_of_ble_eq_true rfl) d_M_operate_19 ⟨(Nat.le_of_ble_eq_true rfl), (Nat.le_of_ble_eq_true rfl)⟩) hP hD hS hA (fun r3 u4 H locs hp9 hP hD hS => ?_)
  have hP : va_P D vwCl (MW dA h ad x) H := hP
  have hD : va_D A (MW dA h ad x) := hD
  replace hp9 : bI (x.smN (x.pile - 2) (x.pile - 1)) = r3 := Eq.symm hp9
  subst hp9
  refine lv_if_eq hx hb d_M_operate_22 (tgt := 36) rfl (fun g5 => ?_) (fun g5 => ?_)
  · have g5 := bI_0 g5
    refine lv_aload_n hx hb d_M_operate_36 rfl (lv_at hl 2 rfl) ?_
    refine gF (v := .ref (ad 48)) hx hb hown hE hK hP 0 rfl rfl layM 48 (by decide) w518 rfl d_M_operate_37 ?_
    refine lv_iload hx hb d_M_operate_40 (lv_at hl 0 rfl) ?_
    refine nild (f := (fun z9 => nI (x.tableNames z9))) hx hb hK hP 21 1 rfl rfl (x.pile - 1) (by omega) (by decide) d_M_operate_42 ?_
    refine lv_if_ne hx hb d_M_operate_43 (tgt := 152) rfl (fun g6 => ?_) (fun g6 => ?_)
    · have g6 := mt (nI_eq (a := x.tableNames (x.pile - 1)) (b := 0) (by omega) (by decide)).mpr g6
      refine lv_aload_n hx hb d_M_operate_152 rfl (lv_at hl 2 rfl) ?_
      refine gF (v := .ref (ad 48)) hx hb hown hE hK hP 0 rfl rfl layM 48 (by decide) w518 rfl d_M_operate_153 ?_
      refine lv_iload_n hx hb d_M_operate_156 rfl (lv_at hl 1 rfl) ?_
      refine nild (f := (fun z9 => nI (x.tableNames z9))) hx hb hK hP 21 1 rfl rfl (x.pile - 2) (by omega) (by decide) d_M_operate_157 ?_
      refine lv_if_ne hx hb d_M_operate_158 (tgt := 172) rfl (fun g7 => ?_) (fun g7 => ?_)
      · have g7 := mt (nI_eq (a := x.tableNames (x.pile - 2)) (b := 0) (by omega) (by decide)).mpr g7
        refine lv_aload_n hx hb d_M_operate_172 rfl (lv_at hl 2 rfl) ?_
        refine lv_iconst (v := 5) hx hb d_M_operate_173 (by decide) ?_
        refine lv_iload_n hx hb d_M_operate_174 rfl (lv_at hl 4 rfl) ?_
        refine jfI (rnV (As := [.int 5, .int (nI q7)]) (rest := []) hx hb hml hown hE hK (hN _ _ hS) hP hD (k_flaw_0 l D dA H.size h ad x 5 (nI q7) hf) (q0 := 0) rfl rfl w431 w430 w432 w433 w328 rfl rfl ⟨⟨by decide, by decide⟩, rfl⟩ ⟨(Nat.le_of_ble_eq_true rfl), (Nat.le_of_ble_eq_true rfl)⟩ rfl hl.1 rfl (Nat.le_of_ble_eq_true rfl) d_M_operate_175 ⟨(Nat.le_of_ble_eq_true rfl), (Nat.le_of_ble_eq_true rfl)⟩) hP hD hS hA (fun r8 u9 H locs hp9 hP hD hS => ?_)
        have hP : va_P D vwCl (MW dA h ad (MS.s_faultPlace (MS.s_faultCode x 5) (nI q7))) H := hP
        have hD : va_D A (MW dA h ad (MS.s_faultPlace (MS.s_faultCode x 5) (nI q7))) := hD
        replace hp9 : bI false = r8 := Eq.symm hp9
        subst hp9
        exact rfZ hx hb hr (bI_nar false) hlk hS (MS.s_faultPlace (MS.s_faultCode x 5) (nI q7)) (have e9 : x.opB = false := (by unfold MS.opB; rw [g5, decide_eq_false g6, decide_eq_false g7]; rfl); ⟨by rw [e9], by unfold MS.opS; rw [if_neg (by rw [e9]; decide)]⟩) hP hD (Nat.le_of_ble_eq_true rfl) (Nat.le_of_ble_eq_true rfl) d_M_operate_178
      · have g7 := (nI_eq (a := x.tableNames (x.pile - 2)) (b := 0) (by omega) (by decide)).mp g7
        refine lv_aload_n hx hb d_M_operate_161 rfl (lv_at hl 2 rfl) ?_
        refine lv_iload_n hx hb d_M_operate_162 rfl (lv_at hl 3 rfl) ?_
        refine lv_iload_n hx hb d_M_operate_163 rfl (lv_at hl 1 rfl) ?_
        refine lv_iload hx hb d_M_operate_164 (lv_at hl 0 rfl) ?_
        refine jfV (rnV (As := [.int sg, .int (nI (x.pile - 2)), .int (nI (x.pile - 1))]) (rest := []) hx hb hml hown hE hK (hN _ _ hS) hP hD (k_spread l D dA H.size h ad x sg (x.pile - 2) (x.pile - 1) ns is9 cs9 hsg (show (x.pile - 2) < 20 from by omega) (show (x.pile - 1) < 20 from by omega) (show x.windows ≤ 64 from by omega) (show x.tableRows (x.pile - 1) ≤ 256 from by omega) (show x.tableRows (x.pile - 2) ≤ 256 from by omega) hns hsp) (q0 := 0) rfl rfl w1007 w1006 w1008 w1009 w328 rfl rfl ⟨⟨by decide, by decide⟩, rfl⟩ ⟨(Nat.le_of_ble_eq_true rfl), (Nat.le_of_ble_eq_true rfl)⟩ rfl hl.1 rfl (Nat.le_of_ble_eq_true rfl) d_M_operate_166 ⟨(Nat.le_of_ble_eq_true rfl), (Nat.le_of_ble_eq_true rfl)⟩) hP hD hS hA (fun u11 H locs hp9 hP hD hS => ?_)
        have hP : va_P D vwCl (MW dA h ad (MS.s_isCell (MS.s_cells (MS.s_rowSeries (MS.s_tableRows (MS.s_nameLengths (MS.s_nameFroms (MS.s_tableNames x (va_up x.tableNames (x.pile - 2) (x.tableNames (x.pile - 1)))) (mvG x.nameFroms (6 * (x.pile - 2)) (6 * (x.pile - 1)) 6)) (mvG x.nameLengths (6 * (x.pile - 2)) (6 * (x.pile - 1)) 6)) (va_up x.tableRows (x.pile - 2) ns)) (mvG x.rowSeries (256 * (x.pile - 2)) (256 * (x.pile - 1)) ns)) cs9) is9)) H := hP
        have hD : va_D A (MW dA h ad (MS.s_isCell (MS.s_cells (MS.s_rowSeries (MS.s_tableRows (MS.s_nameLengths (MS.s_nameFroms (MS.s_tableNames x (va_up x.tableNames (x.pile - 2) (x.tableNames (x.pile - 1)))) (mvG x.nameFroms (6 * (x.pile - 2)) (6 * (x.pile - 1)) 6)) (mvG x.nameLengths (6 * (x.pile - 2)) (6 * (x.pile - 1)) 6)) (va_up x.tableRows (x.pile - 2) ns)) (mvG x.rowSeries (256 * (x.pile - 2)) (256 * (x.pile - 1)) ns)) cs9) is9)) := hD
        refine lv_goto hx hb d_M_operate_169 (tgt := 179) rfl ?_
        exact J179 (MS.s_isCell (MS.s_cells (MS.s_rowSeries (MS.s_tableRows (MS.s_nameLengths (MS.s_nameFroms (MS.s_tableNames x (va_up x.tableNames (x.pile - 2) (x.tableNames (x.pile - 1)))) (mvG x.nameFroms (6 * (x.pile - 2)) (6 * (x.pile - 1)) 6)) (mvG x.nameLengths (6 * (x.pile - 2)) (6 * (x.pile - 1)) 6)) (va_up x.tableRows (x.pile - 2) ns)) (mvG x.rowSeries (256 * (x.pile - 2)) (256 * (x.pile - 1)) ns)) cs9) is9) (by unfold MS.opM; rw [if_neg (by rw [g5]; decide), if_neg g6]; unfold MS.spS; rw [hns, hsp]) (by unfold MS.opB; rw [decide_eq_true g7]; simp) rfl rfl (by show va_up x.tableRows (x.pile - 2) _ (x.pile - 2) ≤ 256; rw [va_us]; omega) H _ ls hP hD hS (lv_sub hl [3, 4, 1, 0, 2] rfl)
    · have g6 := (nI_eq (a := x.tableNames (x.pile - 1)) (b := 0) (by omega) (by decide)).mp g6
      refine lv_iconst (v := 0) hx hb d_M_operate_46 (by decide) ?_
      refine lv_istore hx hb d_M_operate_47 hl (by decide) rfl (fun ls hl => ?_)
      have hl : lv_has ls 7 [(5, .int 0), (4, .int (nI (x.pile - 1))), (3, .int (nI (x.pile - 2))), (0, .ref h), (1, .int sg), (2, .int (nI q7))] := hl
      have L49 : ∀ (k9 : Nat) (r : Nat) (i2c : Nat → Bool) (c2 : Nat → Int64) (i1 : r ≤ x.tableRows (x.pile - 2)) (i2 : (if 0 < x.tableRows (x.pile - 1) then obG sg (x.isCell, x.cells) (x.pile - 2) (x.pile - 1) x.windows r else (x.isCell, x.cells)) = (i2c, c2)) (hk9 : x.tableRows (x.pile - 2) - r = k9), ∀ (H : Heap) (locs : List Loc) (ls : Array Slot) (hP : va_P D vwCl (MW dA h ad (MS.s_isCell (MS.s_cells x c2) i2c)) H) (hD : va_D A (MW dA h ad (MS.s_isCell (MS.s_cells x c2) i2c))) (hS : va_S A s.heap H locs) (hl : lv_has ls 7 [(5, .int (nI r)), (1, .int sg), (2, .int (nI q7)), (3, .int (nI (x.pile - 2))), (4, .int (nI (x.pile - 1))), (0, .ref h)]), W p l e ({ frames := 4, cells := 0, slots := 0, locals := 85 } : Room) s m ([.ref h, .int sg, .int (nI q7)] : List Value).toArray below meth c H locs 0 0 (MQ below (va_Qi (fun (r9 : Int32) (u9 : MS) => r9 = bI x.opB ∧ u9 = x.opS sg q7) (fun (u9 : MS) t9 => bW D A (MW dA h ad u9) t9) A) ([.ref h, .int sg, .int (nI q7)] : List Value).toArray s 0 0 A) (F0 m 49 ls []) := by
        intro k9
        induction k9 using Nat.strongRecOn with
        | ind k9 ih49 =>
          intro r i2c c2 i1 i2 hk9 H locs ls hP hD hS hl
          refine lv_iload hx hb d_M_operate_49 (lv_at hl 0 rfl) ?_
          refine lv_aload_n hx hb d_M_operate_51 rfl (lv_at hl 5 rfl) ?_
          refine gF (v := .ref (ad 51)) hx hb hown hE hK hP 0 rfl rfl layM 51 (by decide) w521 rfl d_M_operate_52 ?_
          refine lv_iload_n hx hb d_M_operate_55 rfl (lv_at hl 3 rfl) ?_
          refine nild (f := (fun z9 => nI (x.tableRows z9))) hx hb hK hP 24 1 rfl rfl (x.pile - 2) (by omega) (by decide) d_M_operate_56 ?_
          refine lv_icmp_ge hx hb d_M_operate_57 (tgt := 123) rfl (fun g12 => ?_) (fun g12 => ?_)
          · have g12 := (nI_leI (a := x.tableRows (x.pile - 2)) (b := r) (by omega) (by omega)).mp g12
            refine lv_aload_n hx hb d_M_operate_123 rfl (lv_at hl 5 rfl) ?_
            refine gF (v := .ref (ad 51)) hx hb hown hE hK hP 0 rfl rfl layM 51 (by decide) w521 rfl d_M_operate_124 ?_
            refine lv_iload_n hx hb d_M_operate_127 rfl (lv_at hl 3 rfl) ?_
            refine lv_aload_n hx hb d_M_operate_128 rfl (lv_at hl 5 rfl) ?_
            refine gF (v := .ref (ad 51)) hx hb hown hE hK hP 0 rfl rfl layM 51 (by decide) w521 rfl d_M_operate_129 ?_
            refine lv_iload hx hb d_M_operate_132 (lv_at hl 4 rfl) ?_
            refine nild (f := (fun z9 => nI (x.tableRows z9))) hx hb hK hP 24 1 rfl rfl (x.pile - 1) (by omega) (by decide) d_M_operate_134 ?_
            refine lv_if_le hx hb d_M_operate_135 (tgt := 147) rfl (fun g13 => ?_) (fun g13 => ?_)
            · have g13 := (nI_leI (a := x.tableRows (x.pile - 1)) (b := 0) (by omega) (by decide)).mp g13
              refine lv_iconst (v := 0) hx hb d_M_operate_147 (by decide) ?_
              have ob9 : (if 0 < x.tableRows (x.pile - 1) then obG sg (x.isCell, x.cells) (x.pile - 2) (x.pile - 1) x.windows (x.tableRows (x.pile - 2)) else (x.isCell, x.cells)) = (i2c, c2) := by rw [← show r = x.tableRows (x.pile - 2) by omega]; exact i2
              have ot9 : (if 0 < x.tableRows (x.pile - 1) then x.tableRows (x.pile - 2) else 0) = 0 := (if_neg (by omega))
              refine nistN (v := 0) hx hb hK hP hD hS 24 1 rfl rfl (x.pile - 2) (by omega) (by decide) d_M_operate_148 (fun H locs hP hD hS => ?_)
              have hP : va_P D vwCl (MW dA h ad (MS.s_isCell (MS.s_cells (MS.s_tableRows x (va_up x.tableRows (x.pile - 2) 0)) c2) i2c)) H := hP
              have hD : va_D A (MW dA h ad (MS.s_isCell (MS.s_cells (MS.s_tableRows x (va_up x.tableRows (x.pile - 2) 0)) c2) i2c)) := hD
              refine lv_goto hx hb d_M_operate_149 (tgt := 179) rfl ?_
              exact J179 (MS.s_isCell (MS.s_cells (MS.s_tableRows x (va_up x.tableRows (x.pile - 2) 0)) c2) i2c) (by unfold MS.opM; rw [if_neg (by rw [g5]; decide), if_pos g6]; unfold MS.obS; rw [ob9, ot9]) (by unfold MS.opB; rw [decide_eq_true g6]; simp) rfl rfl (by show va_up x.tableRows (x.pile - 2) _ (x.pile - 2) ≤ 256; rw [va_us]; omega) H _ ls hP hD hS (lv_sub hl [1, 2, 3, 4, 5] rfl)
            · have g13 := mt (nI_leI (a := x.tableRows (x.pile - 1)) (b := 0) (by omega) (by decide)).mpr g13
              refine lv_aload_n hx hb d_M_operate_138 rfl (lv_at hl 5 rfl) ?_
              refine gF (v := .ref (ad 51)) hx hb hown hE hK hP 0 rfl rfl layM 51 (by decide) w521 rfl d_M_operate_139 ?_
              refine lv_iload_n hx hb d_M_operate_142 rfl (lv_at hl 3 rfl) ?_
              refine nild (f := (fun z9 => nI (x.tableRows z9))) hx hb hK hP 24 1 rfl rfl (x.pile - 2) (by omega) (by decide) d_M_operate_143 ?_
              refine lv_goto hx hb d_M_operate_144 (tgt := 148) rfl ?_
              have ob9 : (if 0 < x.tableRows (x.pile - 1) then obG sg (x.isCell, x.cells) (x.pile - 2) (x.pile - 1) x.windows (x.tableRows (x.pile - 2)) else (x.isCell, x.cells)) = (i2c, c2) := by rw [← show r = x.tableRows (x.pile - 2) by omega]; exact i2
              have ot9 : (if 0 < x.tableRows (x.pile - 1) then x.tableRows (x.pile - 2) else 0) = x.tableRows (x.pile - 2) := (if_pos (by omega))
              refine nistN (v := x.tableRows (x.pile - 2)) hx hb hK hP hD hS 24 1 rfl rfl (x.pile - 2) (by omega) (by decide) d_M_operate_148 (fun H locs hP hD hS => ?_)
              have hP : va_P D vwCl (MW dA h ad (MS.s_isCell (MS.s_cells (MS.s_tableRows x (va_up x.tableRows (x.pile - 2) (x.tableRows (x.pile - 2)))) c2) i2c)) H := hP
              have hD : va_D A (MW dA h ad (MS.s_isCell (MS.s_cells (MS.s_tableRows x (va_up x.tableRows (x.pile - 2) (x.tableRows (x.pile - 2)))) c2) i2c)) := hD
              refine lv_goto hx hb d_M_operate_149 (tgt := 179) rfl ?_
              exact J179 (MS.s_isCell (MS.s_cells (MS.s_tableRows x (va_up x.tableRows (x.pile - 2) (x.tableRows (x.pile - 2)))) c2) i2c) (by unfold MS.opM; rw [if_neg (by rw [g5]; decide), if_pos g6]; unfold MS.obS; rw [ob9, ot9]) (by unfold MS.opB; rw [decide_eq_true g6]; simp) rfl rfl (by show va_up x.tableRows (x.pile - 2) _ (x.pile - 2) ≤ 256; rw [va_us]; omega) H _ ls hP hD hS (lv_sub hl [1, 2, 3, 4, 5] rfl)
          · have g12 := mt (nI_leI (a := x.tableRows (x.pile - 2)) (b := r) (by omega) (by omega)).mpr g12
            have J117 : ∀ (i3c : Nat → Bool) (c3 : Nat → Int64) (j9 : (if 0 < x.tableRows (x.pile - 1) then obG sg (x.isCell, x.cells) (x.pile - 2) (x.pile - 1) x.windows (r + 1) else (x.isCell, x.cells)) = (i3c, c3)), ∀ (H : Heap) (locs : List Loc) (ls : Array Slot) (hP : va_P D vwCl (MW dA h ad (MS.s_isCell (MS.s_cells x c3) i3c)) H) (hD : va_D A (MW dA h ad (MS.s_isCell (MS.s_cells x c3) i3c))) (hS : va_S A s.heap H locs) (hl : lv_has ls 7 [(5, .int (nI r)), (1, .int sg), (2, .int (nI q7)), (3, .int (nI (x.pile - 2))), (4, .int (nI (x.pile - 1))), (0, .ref h)]), W p l e ({ frames := 4, cells := 0, slots := 0, locals := 85 } : Room) s m ([.ref h, .int sg, .int (nI q7)] : List Value).toArray below meth c H locs 0 0 (MQ below (va_Qi (fun (r9 : Int32) (u9 : MS) => r9 = bI x.opB ∧ u9 = x.opS sg q7) (fun (u9 : MS) t9 => bW D A (MW dA h ad u9) t9) A) ([.ref h, .int sg, .int (nI q7)] : List Value).toArray s 0 0 A) (F0 m 117 ls []) := by
              intro i3c c3 j9 H locs ls hP hD hS hl
              refine lv_iinc (k := 0) (v := nI (r + 1)) hx hb d_M_operate_117 hl rfl (iincN (r) 1 1 (by decide)) (by decide) rfl (fun ls hl => ?_)
              have hl : lv_has ls 7 [(5, .int (nI (r + 1))), (1, .int sg), (2, .int (nI q7)), (3, .int (nI (x.pile - 2))), (4, .int (nI (x.pile - 1))), (0, .ref h)] := hl
              refine lv_goto hx hb d_M_operate_120 (tgt := 49) rfl ?_
              exact ih49 _ (by omega) (r + 1) i3c c3 (by omega) j9 rfl H _ ls hP hD hS (lv_sub hl [0, 1, 2, 3, 4, 5] rfl)
            refine lv_iconst (v := 0) hx hb d_M_operate_60 (by decide) ?_
            refine lv_istore hx hb d_M_operate_61 hl (by decide) rfl (fun ls hl => ?_)
            have hl : lv_has ls 7 [(6, .int 0), (5, .int (nI r)), (1, .int sg), (2, .int (nI q7)), (3, .int (nI (x.pile - 2))), (4, .int (nI (x.pile - 1))), (0, .ref h)] := hl
            have L63 : ∀ (k9 : Nat) (w : Nat) (i3c : Nat → Bool) (c3 : Nat → Int64) (m1 : w ≤ x.windows) (m2 : jrG sg (i2c, c2) (cA (x.pile - 2) r) (cA (x.pile - 2) r) (cA (x.pile - 1) 0) w = (i3c, c3)) (m3 : w = 0 ∨ 0 < x.tableRows (x.pile - 1)) (hk9 : x.windows - w = k9), ∀ (H : Heap) (locs : List Loc) (ls : Array Slot) (hP : va_P D vwCl (MW dA h ad (MS.s_isCell (MS.s_cells x c3) i3c)) H) (hD : va_D A (MW dA h ad (MS.s_isCell (MS.s_cells x c3) i3c))) (hS : va_S A s.heap H locs) (hl : lv_has ls 7 [(6, .int (nI w)), (5, .int (nI r)), (1, .int sg), (2, .int (nI q7)), (3, .int (nI (x.pile - 2))), (4, .int (nI (x.pile - 1))), (0, .ref h)]), W p l e ({ frames := 4, cells := 0, slots := 0, locals := 85 } : Room) s m ([.ref h, .int sg, .int (nI q7)] : List Value).toArray below meth c H locs 0 0 (MQ below (va_Qi (fun (r9 : Int32) (u9 : MS) => r9 = bI x.opB ∧ u9 = x.opS sg q7) (fun (u9 : MS) t9 => bW D A (MW dA h ad u9) t9) A) ([.ref h, .int sg, .int (nI q7)] : List Value).toArray s 0 0 A) (F0 m 63 ls []) := by
              intro k9
              induction k9 using Nat.strongRecOn with
              | ind k9 ih63 =>
                intro w i3c c3 m1 m2 m3 hk9 H locs ls hP hD hS hl
                refine lv_iload hx hb d_M_operate_63 (lv_at hl 0 rfl) ?_
                refine lv_aload_n hx hb d_M_operate_65 rfl (lv_at hl 6 rfl) ?_
                refine gF (v := .int (nI x.windows)) hx hb hown hE hK hP 0 rfl rfl layM 59 (by decide) w489 rfl d_M_operate_66 ?_
                refine lv_icmp_ge hx hb d_M_operate_69 (tgt := 117) rfl (fun g14 => ?_) (fun g14 => ?_)
                · have g14 := (nI_leI (a := x.windows) (b := w) (by omega) (by omega)).mp g14
                  exact J117 i3c c3 (ob_s i2 m2 (Or.inl (by omega)) m3) H _ ls hP hD hS (lv_sub hl [1, 2, 3, 4, 5, 6] rfl)
                · have g14 := mt (nI_leI (a := x.windows) (b := w) (by omega) (by omega)).mpr g14
                  refine lv_aload_n hx hb d_M_operate_72 rfl (lv_at hl 6 rfl) ?_
                  refine gF (v := .ref (ad 51)) hx hb hown hE hK hP 0 rfl rfl layM 51 (by decide) w521 rfl d_M_operate_73 ?_
                  refine lv_iload hx hb d_M_operate_76 (lv_at hl 5 rfl) ?_
                  refine nild (f := (fun z9 => nI (x.tableRows z9))) hx hb hK hP 24 1 rfl rfl (x.pile - 1) (by omega) (by decide) d_M_operate_78 ?_
                  refine lv_if_le hx hb d_M_operate_79 (tgt := 117) rfl (fun g15 => ?_) (fun g15 => ?_)
                  · have g15 := (nI_leI (a := x.tableRows (x.pile - 1)) (b := 0) (by omega) (by decide)).mp g15
                    exact J117 i3c c3 (ob_s i2 m2 (Or.inr ⟨by omega, by omega⟩) m3) H _ ls hP hD hS (lv_sub hl [1, 2, 3, 4, 5, 6] rfl)
                  · have g15 := mt (nI_leI (a := x.tableRows (x.pile - 1)) (b := 0) (by omega) (by decide)).mpr g15
                    refine lv_aload_n hx hb d_M_operate_82 rfl (lv_at hl 6 rfl) ?_
                    refine lv_iload_n hx hb d_M_operate_83 rfl (lv_at hl 2 rfl) ?_
                    refine lv_iload_n hx hb d_M_operate_84 rfl (lv_at hl 4 rfl) ?_
                    refine lv_iload hx hb d_M_operate_85 (lv_at hl 1 rfl) ?_
                    refine lv_iload hx hb d_M_operate_87 (lv_at hl 0 rfl) ?_
                    have hPc := hP.sub (ws' := []) [] rfl
                    have hDc := hD.sub (ws' := []) [] (by decide) rfl
                    refine jnI (rnS (As := [.int (nI (x.pile - 2)), .int (nI r), .int (nI w)]) (rest := [.int sg, .ref h]) hx hb hml hown hE hK (hN _ _ hS) hPc hDc (k_cellAt l D dA H.size (x.pile - 2) r w) w971 w970 w972 w328 rfl rfl ⟨⟨by decide, by decide⟩, rfl⟩ ⟨(Nat.le_of_ble_eq_true rfl), (Nat.le_of_ble_eq_true rfl)⟩ rfl hl.1 rfl (Nat.le_of_ble_eq_true rfl) d_M_operate_89 ⟨(Nat.le_of_ble_eq_true rfl), (Nat.le_of_ble_eq_true rfl)⟩) hP hD hS hA [] [0, 1, 2, 3, 4, 5, 6, 7, 8, 9, 10, 11, 12, 13, 14, 15, 16, 17, 18, 19, 20, 21, 22, 23, 24, 25, 26, 27, 28, 29, 30, 31, 32, 33, 34, 35, 36, 37, 38] (wr := MW dA h ad (MS.s_isCell (MS.s_cells x c3) i3c)) rfl rfl (by decide) (by decide) (fun r16 u9 H locs hp9 hP hD hS => ?_)
                    have hP : va_P D vwCl (MW dA h ad (MS.s_isCell (MS.s_cells x c3) i3c)) H := hP
                    have hD : va_D A (MW dA h ad (MS.s_isCell (MS.s_cells x c3) i3c)) := hD
                    replace hp9 : nI (((x.pile - 2) * 256 + r) * 64 + w) = r16 := Eq.symm hp9
                    subst hp9
                    refine lv_iload_n hx hb d_M_operate_92 rfl (lv_at hl 4 rfl) ?_
                    refine lv_iload hx hb d_M_operate_93 (lv_at hl 1 rfl) ?_
                    refine lv_iload hx hb d_M_operate_95 (lv_at hl 0 rfl) ?_
                    have hPc := hP.sub (ws' := []) [] rfl
                    have hDc := hD.sub (ws' := []) [] (by decide) rfl
                    refine jnI (rnS (As := [.int (nI (x.pile - 2)), .int (nI r), .int (nI w)]) (rest := [.int (nI (((x.pile - 2) * 256 + r) * 64 + w)), .int sg, .ref h]) hx hb hml hown hE hK (hN _ _ hS) hPc hDc (k_cellAt l D dA H.size (x.pile - 2) r w) w971 w970 w972 w328 rfl rfl ⟨⟨by decide, by decide⟩, rfl⟩ ⟨(Nat.le_of_ble_eq_true rfl), (Nat.le_of_ble_eq_true rfl)⟩ rfl hl.1 rfl (Nat.le_of_ble_eq_true rfl) d_M_operate_97 ⟨(Nat.le_of_ble_eq_true rfl), (Nat.le_of_ble_eq_true rfl)⟩) hP hD hS hA [] [0, 1, 2, 3, 4, 5, 6, 7, 8, 9, 10, 11, 12, 13, 14, 15, 16, 17, 18, 19, 20, 21, 22, 23, 24, 25, 26, 27, 28, 29, 30, 31, 32, 33, 34, 35, 36, 37, 38] (wr := MW dA h ad (MS.s_isCell (MS.s_cells x c3) i3c)) rfl rfl (by decide) (by decide) (fun r18 u9 H locs hp9 hP hD hS => ?_)
                    have hP : va_P D vwCl (MW dA h ad (MS.s_isCell (MS.s_cells x c3) i3c)) H := hP
                    have hD : va_D A (MW dA h ad (MS.s_isCell (MS.s_cells x c3) i3c)) := hD
                    replace hp9 : nI (((x.pile - 2) * 256 + r) * 64 + w) = r18 := Eq.symm hp9
                    subst hp9
                    refine lv_iload hx hb d_M_operate_100 (lv_at hl 5 rfl) ?_
                    refine lv_iconst (v := 0) hx hb d_M_operate_102 (by decide) ?_
                    refine lv_iload hx hb d_M_operate_103 (lv_at hl 0 rfl) ?_
                    have hPc := hP.sub (ws' := []) [] rfl
                    have hDc := hD.sub (ws' := []) [] (by decide) rfl
                    refine jnI (rnS (As := [.int (nI (x.pile - 1)), .int 0, .int (nI w)]) (rest := [.int (nI (((x.pile - 2) * 256 + r) * 64 + w)), .int (nI (((x.pile - 2) * 256 + r) * 64 + w)), .int sg, .ref h]) hx hb hml hown hE hK (hN _ _ hS) hPc hDc (k_cellAt l D dA H.size (x.pile - 1) 0 w) w971 w970 w972 w328 rfl rfl ⟨⟨by decide, by decide⟩, rfl⟩ ⟨(Nat.le_of_ble_eq_true rfl), (Nat.le_of_ble_eq_true rfl)⟩ rfl hl.1 rfl (Nat.le_of_ble_eq_true rfl) d_M_operate_105 ⟨(Nat.le_of_ble_eq_true rfl), (Nat.le_of_ble_eq_true rfl)⟩) hP hD hS hA [] [0, 1, 2, 3, 4, 5, 6, 7, 8, 9, 10, 11, 12, 13, 14, 15, 16, 17, 18, 19, 20, 21, 22, 23, 24, 25, 26, 27, 28, 29, 30, 31, 32, 33, 34, 35, 36, 37, 38] (wr := MW dA h ad (MS.s_isCell (MS.s_cells x c3) i3c)) rfl rfl (by decide) (by decide) (fun r20 u9 H locs hp9 hP hD hS => ?_)
                    have hP : va_P D vwCl (MW dA h ad (MS.s_isCell (MS.s_cells x c3) i3c)) H := hP
                    have hD : va_D A (MW dA h ad (MS.s_isCell (MS.s_cells x c3) i3c)) := hD
                    replace hp9 : nI (((x.pile - 1) * 256 + 0) * 64 + w) = r20 := Eq.symm hp9
                    subst hp9
                    refine jfV (rnV (As := [.int sg, .int (nI (((x.pile - 2) * 256 + r) * 64 + w)), .int (nI (((x.pile - 2) * 256 + r) * 64 + w)), .int (nI (((x.pile - 1) * 256 + 0) * 64 + w))]) (rest := []) hx hb hml hown hE hK (hN _ _ hS) hP hD (k_join l D dA H.size h ad (MS.s_isCell (MS.s_cells x c3) i3c) sg (((x.pile - 2) * 256 + r) * 64 + w) (((x.pile - 2) * 256 + r) * 64 + w) (((x.pile - 1) * 256 + 0) * 64 + w) hsg (show (((x.pile - 2) * 256 + r) * 64 + w) < 327680 from by omega) (show (((x.pile - 2) * 256 + r) * 64 + w) < 327680 from by omega) (show (((x.pile - 1) * 256 + 0) * 64 + w) < 327680 from by omega)) (q0 := 0) rfl rfl w974 w973 w975 w976 w328 rfl rfl ⟨⟨by decide, by decide⟩, rfl⟩ ⟨(Nat.le_of_ble_eq_true rfl), (Nat.le_of_ble_eq_true rfl)⟩ rfl hl.1 rfl (Nat.le_of_ble_eq_true rfl) d_M_operate_108 ⟨(Nat.le_of_ble_eq_true rfl), (Nat.le_of_ble_eq_true rfl)⟩) hP hD hS hA (fun u23 H locs hp9 hP hD hS => ?_)
                    have hP : va_P D vwCl (MW dA h ad (MS.s_isCell (MS.s_cells x (va_up c3 (((x.pile - 2) * 256 + r) * 64 + w) (jnW sg (jnB sg (i3c (((x.pile - 2) * 256 + r) * 64 + w)) (i3c (((x.pile - 1) * 256 + 0) * 64 + w)) (c3 (((x.pile - 1) * 256 + 0) * 64 + w))) (c3 (((x.pile - 2) * 256 + r) * 64 + w)) (c3 (((x.pile - 1) * 256 + 0) * 64 + w))))) (va_up i3c (((x.pile - 2) * 256 + r) * 64 + w) (jnB sg (i3c (((x.pile - 2) * 256 + r) * 64 + w)) (i3c (((x.pile - 1) * 256 + 0) * 64 + w)) (c3 (((x.pile - 1) * 256 + 0) * 64 + w)))))) H := hP
                    have hD : va_D A (MW dA h ad (MS.s_isCell (MS.s_cells x (va_up c3 (((x.pile - 2) * 256 + r) * 64 + w) (jnW sg (jnB sg (i3c (((x.pile - 2) * 256 + r) * 64 + w)) (i3c (((x.pile - 1) * 256 + 0) * 64 + w)) (c3 (((x.pile - 1) * 256 + 0) * 64 + w))) (c3 (((x.pile - 2) * 256 + r) * 64 + w)) (c3 (((x.pile - 1) * 256 + 0) * 64 + w))))) (va_up i3c (((x.pile - 2) * 256 + r) * 64 + w) (jnB sg (i3c (((x.pile - 2) * 256 + r) * 64 + w)) (i3c (((x.pile - 1) * 256 + 0) * 64 + w)) (c3 (((x.pile - 1) * 256 + 0) * 64 + w)))))) := hD
                    refine lv_iinc (k := 0) (v := nI (w + 1)) hx hb d_M_operate_111 hl rfl (iincN (w) 1 1 (by decide)) (by decide) rfl (fun ls hl => ?_)
                    have hl : lv_has ls 7 [(6, .int (nI (w + 1))), (5, .int (nI r)), (1, .int sg), (2, .int (nI q7)), (3, .int (nI (x.pile - 2))), (4, .int (nI (x.pile - 1))), (0, .ref h)] := hl
                    refine lv_goto hx hb d_M_operate_114 (tgt := 63) rfl ?_
                    exact ih63 _ (by omega) (w + 1) (va_up i3c (((x.pile - 2) * 256 + r) * 64 + w) (jnB sg (i3c (((x.pile - 2) * 256 + r) * 64 + w)) (i3c (((x.pile - 1) * 256 + 0) * 64 + w)) (c3 (((x.pile - 1) * 256 + 0) * 64 + w)))) (va_up c3 (((x.pile - 2) * 256 + r) * 64 + w) (jnW sg (jnB sg (i3c (((x.pile - 2) * 256 + r) * 64 + w)) (i3c (((x.pile - 1) * 256 + 0) * 64 + w)) (c3 (((x.pile - 1) * 256 + 0) * 64 + w))) (c3 (((x.pile - 2) * 256 + r) * 64 + w)) (c3 (((x.pile - 1) * 256 + 0) * 64 + w)))) (by omega) (jrG_s m2) (Or.inr (by omega)) rfl H _ ls hP hD hS (lv_sub hl [0, 1, 2, 3, 4, 5, 6] rfl)
            exact L63 _ 0 i2c c2 (Nat.zero_le _) rfl (Or.inl rfl) rfl H _ ls hP hD hS (lv_sub hl [0, 1, 2, 3, 4, 5, 6] rfl)
      exact L49 _ 0 x.isCell x.cells (Nat.zero_le _) (by split <;> rfl) rfl H _ ls hP hD hS (lv_sub hl [0, 4, 5, 2, 1, 3] rfl)
  · have g5 := bI_n0 g5
    refine lv_aload_n hx hb d_M_operate_25 rfl (lv_at hl 2 rfl) ?_
    refine lv_iload_n hx hb d_M_operate_26 rfl (lv_at hl 3 rfl) ?_
    refine lv_iload_n hx hb d_M_operate_27 rfl (lv_at hl 1 rfl) ?_
    refine lv_iload hx hb d_M_operate_28 (lv_at hl 0 rfl) ?_
    refine jfV (rnV (As := [.int sg, .int (nI (x.pile - 2)), .int (nI (x.pile - 1))]) (rest := []) hx hb hml hown hE hK (hN _ _ hS) hP hD (k_meet l D dA H.size h ad x sg (x.pile - 2) (x.pile - 1) n9 i9 c9 rs9 v9 hsg (show (x.pile - 2) < (x.pile - 1) from by omega) (show (x.pile - 1) < 20 from by omega) ra0.2.1 (show x.windows ≤ 64 from by omega) (show x.tableRows (x.pile - 2) ≤ 256 from by omega) (show x.tableRows (x.pile - 1) ≤ 256 from by omega) ra0.2.2 (sm_rows g5 rb0.2.2) hme) (q0 := 0) rfl rfl w1011 w1010 w1012 w1013 w328 rfl rfl ⟨⟨by decide, by decide⟩, rfl⟩ ⟨(Nat.le_of_ble_eq_true rfl), (Nat.le_of_ble_eq_true rfl)⟩ rfl hl.1 rfl (Nat.le_of_ble_eq_true rfl) d_M_operate_30 ⟨(Nat.le_of_ble_eq_true rfl), (Nat.le_of_ble_eq_true rfl)⟩) hP hD hS hA (fun u25 H locs hp9 hP hD hS => ?_)
    have hP : va_P D vwCl (MW dA h ad (MS.s_valueLength (MS.s_isCell (MS.s_cells (MS.s_rowSeries (MS.s_tableRows x (va_up x.tableRows (x.pile - 2) n9)) rs9) c9) i9) v9)) H := hP
    have hD : va_D A (MW dA h ad (MS.s_valueLength (MS.s_isCell (MS.s_cells (MS.s_rowSeries (MS.s_tableRows x (va_up x.tableRows (x.pile - 2) n9)) rs9) c9) i9) v9)) := hD
    refine lv_goto hx hb d_M_operate_33 (tgt := 179) rfl ?_
    exact J179 (MS.s_valueLength (MS.s_isCell (MS.s_cells (MS.s_rowSeries (MS.s_tableRows x (va_up x.tableRows (x.pile - 2) n9)) rs9) c9) i9) v9) (by unfold MS.opM; rw [if_pos g5]; unfold MS.meS; rw [hme]) (by unfold MS.opB; rw [g5]; rfl) rfl rfl (by show va_up x.tableRows (x.pile - 2) _ (x.pile - 2) ≤ 256; rw [va_us]; omega) H _ ls hP hD hS (lv_sub hl [3, 4, 1, 0, 2] rfl)
