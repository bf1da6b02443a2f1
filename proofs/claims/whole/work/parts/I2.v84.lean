/-! Points in bulk. -/
def tmB (x : VS) (i : Nat) : Int64 := numB x.tape (i * 16) 8
def vlB (x : VS) (i : Nat) : Int64 := numB x.tape (i * 16 + 8) 8
/-- i points of the tape have come -/
def bkR (x : VS) (w : Nat) : Nat → VS → Prop
  | 0, z => z = VS.s_tapeLength x 0
  | i + 1, z => ∃ (y : VS) (ja pa : Nat → Nat), bkR x w i y ∧ y.may w (tmB x i) = true ∧ z = y.apF ja pa w (tmB x i) (vlB x i)
/-- what does not change, and the sizes -/
def bkI (x : VS) (i : Nat) (z : VS) : Prop := z.tape = x.tape ∧ z.tpN = x.tpN ∧ z.jlimit = x.jlimit ∧ z.jfill ≤ 126 ∧ z.jblock ≤ x.jblock + i ∧ z.jsize = x.jsize + i ∧ z.jN = capR x.jN x.jsize i ∧ z.jsize ≤ z.jN ∧ 0 < z.jN ∧ z.hsize = x.hsize + i ∧ z.hN = capR x.hN x.hsize i ∧ z.hsize ≤ z.hN ∧ 0 < z.hN
theorem jadF_b (x : VS) (ja : Nat → Nat) (kd w n : Nat) (a b : Int64) : (x.jadF ja kd w n a b).tape = x.tape ∧ (x.jadF ja kd w n a b).tpN = x.tpN ∧ (x.jadF ja kd w n a b).jlimit = x.jlimit ∧ (x.jadF ja kd w n a b).jfill = x.jfill + n ∧ (x.jadF ja kd w n a b).jblock = x.jblock ∧ (x.jadF ja kd w n a b).jsize = x.jsize + 1 ∧ (x.jadF ja kd w n a b).jN = x.jcap ∧ (x.jadF ja kd w n a b).hsize = x.hsize ∧ (x.jadF ja kd w n a b).hN = x.hN ∧ (x.jadF ja kd w n a b).nhor = x.nhor := by
  unfold VS.jadF VS.jcap
  split
  · exact ⟨rfl, rfl, rfl, rfl, rfl, rfl, rfl, rfl, rfl, rfl⟩
  · exact ⟨rfl, rfl, rfl, rfl, rfl, rfl, rfl, rfl, rfl, rfl⟩
theorem wrB_b (x : VS) (n : Nat) : (x.wrB n).tape = x.tape ∧ (x.wrB n).tpN = x.tpN ∧ (x.wrB n).jlimit = x.jlimit ∧ (x.wrB n).hsize = x.hsize ∧ (x.wrB n).hN = x.hN ∧ (x.wrB n).nhor = x.nhor ∧ ((x.wrB n).jfill = x.jfill ∧ x.jfill + n ≤ 126 ∧ (x.wrB n).jblock = x.jblock ∨ (x.wrB n).jfill = 0 ∧ (x.wrB n).jblock = x.jblock + 1) := by
  unfold VS.wrB VS.wjS
  split
  · next h => exact ⟨rfl, rfl, rfl, rfl, rfl, rfl, Or.inl ⟨rfl, h, rfl⟩⟩
  · split
    · exact ⟨rfl, rfl, rfl, rfl, rfl, rfl, Or.inr ⟨rfl, rfl⟩⟩
    · exact ⟨rfl, rfl, rfl, rfl, rfl, rfl, Or.inr ⟨rfl, rfl⟩⟩
theorem haF_b (x : VS) (pa : Nat → Nat) (w : Nat) (a b : Int64) : (x.haF pa w a b).tape = x.tape ∧ (x.haF pa w a b).tpN = x.tpN ∧ (x.haF pa w a b).jlimit = x.jlimit ∧ (x.haF pa w a b).jfill = x.jfill ∧ (x.haF pa w a b).jblock = x.jblock ∧ (x.haF pa w a b).jsize = x.jsize ∧ (x.haF pa w a b).jN = x.jN ∧ (x.haF pa w a b).hsize = x.hsize + 1 ∧ (x.haF pa w a b).hN = x.hcap := by
  unfold VS.haF VS.hcap
  split
  · exact ⟨rfl, rfl, rfl, rfl, rfl, rfl, rfl, rfl, rfl⟩
  · exact ⟨rfl, rfl, rfl, rfl, rfl, rfl, rfl, rfl, rfl⟩
theorem may_h {x : VS} {w : Nat} {a : Int64} (h : x.may w a = true) : ¬ a < x.nhor := by
  intro h2
  unfold VS.may at h
  rw [decide_eq_true h2] at h
  simp at h
/-- one more point -/
theorem apF_b (x : VS) (ja pa : Nat → Nat) (w : Nat) (a b : Int64) (hm : x.may w a = true) : (x.apF ja pa w a b).tape = x.tape ∧ (x.apF ja pa w a b).tpN = x.tpN ∧ (x.apF ja pa w a b).jlimit = x.jlimit ∧ (x.apF ja pa w a b).jfill ≤ 126 ∧ (x.apF ja pa w a b).jblock ≤ x.jblock + 1 ∧ (x.apF ja pa w a b).jsize = x.jsize + 1 ∧ (x.apF ja pa w a b).jN = x.jcap ∧ (x.apF ja pa w a b).hsize = x.hsize + 1 ∧ (x.apF ja pa w a b).hN = x.hcap := by
  obtain ⟨b1, b2, b3, b4, b5, b6, b7⟩ := wrB_b x 1
  obtain ⟨r1, r2, r3⟩ := wr_j x 1
  obtain ⟨a1, a2, a3, a4, a5, a6, a7, a8, a9, a10⟩ := jadF_b (x.wrB 1) ja 1 w 1 a b
  obtain ⟨y, ey⟩ : ∃ y, y = x.wrF ja 1 w 1 a b := ⟨_, rfl⟩
  have ey' : y = (x.wrB 1).jadF ja 1 w 1 a b := ey
  have e : x.apF ja pa w a b = (VS.s_nlast y (va_up y.nlast w a)).haF pa w a b := by
    unfold VS.apF VS.cmF
    rw [← ey, if_neg (show ¬ a < y.nhor by rw [ey', a10, b6]; exact may_h hm)]
  obtain ⟨c1, c2, c3, c4, c5, c6, c7, c8, c9⟩ := haF_b (VS.s_nlast y (va_up y.nlast w a)) pa w a b
  have hc : (VS.s_nlast y (va_up y.nlast w a)).hcap = x.hcap := by
    show (if y.hsize = y.hN then 2 * y.hsize else y.hN) = if x.hsize = x.hN then 2 * x.hsize else x.hN
    rw [ey', a8, a9, b4, b5]
  rw [e]
  refine ⟨c1.trans ?_, c2.trans ?_, c3.trans ?_, ?_, ?_, c6.trans ?_, c7.trans ?_, c8.trans ?_, c9.trans hc⟩
  · show y.tape = _; rw [ey', a1, b1]
  · show y.tpN = _; rw [ey', a2, b2]
  · show y.jlimit = _; rw [ey', a3, b3]
  · rw [c4]; show y.jfill ≤ 126; rw [ey', a4]; omega
  · rw [c5]; show y.jblock ≤ _; rw [ey', a5]; omega
  · show y.jsize = _; rw [ey', a6, r1]
  · show y.jN = _; rw [ey', a7, r3]
  · show y.hsize + 1 = _; rw [ey', a8, b4]
theorem cap_c (N s i k n : Nat) (h1 : k = s + i) (h2 : n = capR N s i) : (if k = n then 2 * k else n) = capR N s (i + 1) := by subst h1 h2; rfl
theorem bkI_s {x z : VS} {i : Nat} (h : bkI x i z) {ja pa : Nat → Nat} {w : Nat} {a b : Int64} (hm : z.may w a = true) : bkI x (i + 1) (z.apF ja pa w a b) ∧ z.jcap = capR x.jN x.jsize (i + 1) ∧ z.cmcap a = capR x.hN x.hsize (i + 1) := by
  obtain ⟨h1, h2, h3, h4, h5, h6, h7, h8, h9, h10, h11, h12, h13⟩ := h
  obtain ⟨a1, a2, a3, a4, a5, a6, a7, a8, a9⟩ := apF_b z ja pa w a b hm
  have e1 : z.jcap = capR x.jN x.jsize (i + 1) := cap_c _ _ _ _ _ h6 h7
  have e2 : z.hcap = capR x.hN x.hsize (i + 1) := cap_c _ _ _ _ _ h10 h11
  have e3 : z.cmcap a = z.hcap := if_neg (may_h hm)
  have l1 : z.jsize + 1 ≤ z.jcap ∧ 0 < z.jcap := by unfold VS.jcap; split <;> omega
  have l2 : z.hsize + 1 ≤ z.hcap ∧ 0 < z.hcap := by unfold VS.hcap; split <;> omega
  exact ⟨⟨a1.trans h1, a2.trans h2, a3.trans h3, a4, by omega, by omega, a7.trans e1, by omega, by omega, by omega, a9.trans e2, by omega, by omega⟩, e1, e3.trans e2⟩
theorem bk_i {x : VS} {w : Nat} (c1 : x.jfill ≤ 126) (c2 : x.jsize ≤ x.jN) (c3 : 0 < x.jN) (c4 : x.hsize ≤ x.hN) (c5 : 0 < x.hN) : ∀ {i : Nat} {z : VS}, bkR x w i z → bkI x i z
  | 0, z, h => by
    rw [show z = VS.s_tapeLength x 0 from h]
    exact ⟨rfl, rfl, rfl, c1, Nat.le_refl _, rfl, rfl, c2, c3, rfl, rfl, c4, c5⟩
  | i + 1, z, h => by
    obtain ⟨y, ja, pa, h1, h2, h3⟩ := h
    rw [h3]
    exact (bkI_s (bk_i c1 c2 c3 c4 c5 h1) h2).1
theorem d_V_bulk_9 : decode prog_1_method_33_code 9 = .ok (.aload_n 0, 1) := by decide +kernel
theorem d_V_bulk_10 : decode prog_1_method_33_code 10 = .ok (.getfield 71, 3) := by decide +kernel
theorem d_V_bulk_13 : decode prog_1_method_33_code 13 = .ok (.bipush 16, 2) := by decide +kernel
theorem d_V_bulk_15 : decode prog_1_method_33_code 15 = .ok (.idiv, 1) := by decide +kernel
theorem d_V_bulk_16 : decode prog_1_method_33_code 16 = .ok (.istore_n 2, 1) := by decide +kernel
theorem d_V_bulk_17 : decode prog_1_method_33_code 17 = .ok (.aload_n 0, 1) := by decide +kernel
theorem d_V_bulk_18 : decode prog_1_method_33_code 18 = .ok (.iconst 0, 1) := by decide +kernel
theorem d_V_bulk_19 : decode prog_1_method_33_code 19 = .ok (.putfield 71, 3) := by decide +kernel
theorem d_V_bulk_22 : decode prog_1_method_33_code 22 = .ok (.iconst 0, 1) := by decide +kernel
theorem d_V_bulk_23 : decode prog_1_method_33_code 23 = .ok (.istore_n 3, 1) := by decide +kernel
theorem d_V_bulk_24 : decode prog_1_method_33_code 24 = .ok (.iload_n 3, 1) := by decide +kernel
theorem d_V_bulk_25 : decode prog_1_method_33_code 25 = .ok (.iload_n 2, 1) := by decide +kernel
theorem d_V_bulk_26 : decode prog_1_method_33_code 26 = .ok (.if_icmp .ge 60, 3) := by decide +kernel
theorem d_V_bulk_86 : decode prog_1_method_33_code 86 = .ok (.iload_n 2, 1) := by decide +kernel
theorem d_V_bulk_87 : decode prog_1_method_33_code 87 = .ok (.ireturn, 1) := by decide +kernel
theorem d_V_bulk_29 : decode prog_1_method_33_code 29 = .ok (.aload_n 0, 1) := by decide +kernel
theorem d_V_bulk_30 : decode prog_1_method_33_code 30 = .ok (.iload_n 3, 1) := by decide +kernel
theorem d_V_bulk_31 : decode prog_1_method_33_code 31 = .ok (.bipush 16, 2) := by decide +kernel
theorem d_V_bulk_33 : decode prog_1_method_33_code 33 = .ok (.imul, 1) := by decide +kernel
theorem d_V_bulk_34 : decode prog_1_method_33_code 34 = .ok (.invokevirtual 274, 3) := by decide +kernel
theorem d_V_bulk_37 : decode prog_1_method_33_code 37 = .ok (.lstore 4, 2) := by decide +kernel
theorem d_V_bulk_39 : decode prog_1_method_33_code 39 = .ok (.aload_n 0, 1) := by decide +kernel
theorem d_V_bulk_40 : decode prog_1_method_33_code 40 = .ok (.iload_n 1, 1) := by decide +kernel
theorem d_V_bulk_41 : decode prog_1_method_33_code 41 = .ok (.lload 4, 2) := by decide +kernel
theorem d_V_bulk_43 : decode prog_1_method_33_code 43 = .ok (.invokevirtual 254, 3) := by decide +kernel
theorem d_V_bulk_46 : decode prog_1_method_33_code 46 = .ok (.ifCond .eq 14, 3) := by decide +kernel
theorem d_V_bulk_60 : decode prog_1_method_33_code 60 = .ok (.iload_n 3, 1) := by decide +kernel
theorem d_V_bulk_61 : decode prog_1_method_33_code 61 = .ok (.ireturn, 1) := by decide +kernel
theorem d_V_bulk_49 : decode prog_1_method_33_code 49 = .ok (.aload_n 0, 1) := by decide +kernel
theorem d_V_bulk_50 : decode prog_1_method_33_code 50 = .ok (.getfield 16, 3) := by decide +kernel
theorem d_V_bulk_53 : decode prog_1_method_33_code 53 = .ok (.iconst 1, 1) := by decide +kernel
theorem d_V_bulk_54 : decode prog_1_method_33_code 54 = .ok (.invokevirtual 238, 3) := by decide +kernel
theorem d_V_bulk_57 : decode prog_1_method_33_code 57 = .ok (.ifCond .ne 5, 3) := by decide +kernel
theorem d_V_bulk_62 : decode prog_1_method_33_code 62 = .ok (.aload_n 0, 1) := by decide +kernel
theorem d_V_bulk_63 : decode prog_1_method_33_code 63 = .ok (.iload_n 1, 1) := by decide +kernel
theorem d_V_bulk_64 : decode prog_1_method_33_code 64 = .ok (.lload 4, 2) := by decide +kernel
theorem d_V_bulk_66 : decode prog_1_method_33_code 66 = .ok (.aload_n 0, 1) := by decide +kernel
theorem d_V_bulk_67 : decode prog_1_method_33_code 67 = .ok (.iload_n 3, 1) := by decide +kernel
theorem d_V_bulk_68 : decode prog_1_method_33_code 68 = .ok (.bipush 16, 2) := by decide +kernel
theorem d_V_bulk_70 : decode prog_1_method_33_code 70 = .ok (.imul, 1) := by decide +kernel
theorem d_V_bulk_71 : decode prog_1_method_33_code 71 = .ok (.bipush 8, 2) := by decide +kernel
theorem d_V_bulk_73 : decode prog_1_method_33_code 73 = .ok (.iadd, 1) := by decide +kernel
theorem d_V_bulk_74 : decode prog_1_method_33_code 74 = .ok (.invokevirtual 274, 3) := by decide +kernel
theorem d_V_bulk_77 : decode prog_1_method_33_code 77 = .ok (.invokevirtual 258, 3) := by decide +kernel
theorem d_V_bulk_80 : decode prog_1_method_33_code 80 = .ok (.iinc 3 1, 3) := by decide +kernel
theorem d_V_bulk_83 : decode prog_1_method_33_code 83 = .ok (.goto (-59), 3) := by decide +kernel
theorem w1746 : Cond.methodLink "SeriesVault" 274 ⟨"SeriesVault", "longOnTape", "(I)J"⟩ ∈ aW := aw_of (tb_5 (List.mem_of_getElem? (i := 170) rfl)) rfl
theorem w1747 : Cond.code ⟨"SeriesVault", "longOnTape", "(I)J"⟩ prog_1_method_5_code 5 (some FieldType.long) ∈ aW := aw_of (tb_5 (List.mem_of_getElem? (i := 173) rfl)) rfl
theorem w1748 : Cond.instanceMethod ⟨"SeriesVault", "longOnTape", "(I)J"⟩ ∈ aW := aw_of (tb_5 (List.mem_of_getElem? (i := 172) rfl)) rfl
theorem w1749 : Cond.selects "SeriesVault" ⟨"SeriesVault", "longOnTape", "(I)J"⟩ ⟨"SeriesVault", "longOnTape", "(I)J"⟩ ∈ aW := aw_pr (List.mem_map.mpr ⟨_, pv_2 (List.mem_of_getElem? (i := 6) rfl), rfl⟩) rfl
set_option maxHeartbeats 4000000 in
set_option maxRecDepth 100000 in
theorem v_bulk (l : Launch) (D : va_G) (dA : Nat → ClassId) (sz : Nat) (h : Nat) (ad : Nat → Nat) (x : VS) (w : Nat) (k : Nat) (ho : x.powered = true) (hw1 : w < x.nser) (hw2 : x.nser ≤ 256) (htl : x.tapeLength ≤ x.tpN) (htp : x.tpN ≤ 131072) (hfl : x.jfill ≤ 126) (hbu : x.jblock + k + 1 < 2 ^ 31) (hlu : x.jlimit < 2 ^ 31) (hj1 : x.jsize ≤ x.jN) (hj2 : 0 < x.jN) (hj3 : capR x.jN x.jsize k ≤ 65536) (hh1 : x.hsize ≤ x.hN) (hh2 : 0 < x.hN) (hh3 : capR x.hN x.hsize k ≤ 32768) (hkn : k ≤ x.tapeLength / 16) (hgo : ∀ (i : Nat) (z : VS), i < k → bkR x w i z → z.may w (tmB x i) = true ∧ z.room 1 = true ∧ (z.jfill + 1 ≤ 126 ∨ z.jch = false ∨ ¬ z.cutLeft = 0)) (hst : k < x.tapeLength / 16 → ∀ z : VS, bkR x w k z → z.may w (tmB x k) = true → z.room 1 = false) : Met l ⟨"SeriesVault", "bulk", "(I)I"⟩ [Cond.code ⟨"SeriesVault", "bulk", "(I)I"⟩ prog_1_method_33_code 6 (some FieldType.int)] { frames := 6, cells := 6 * (capR x.jN x.jsize k - x.jN) + 3 * (capR x.hN x.hsize k - x.hN), slots := 12 * (capR x.jN x.jsize k - x.jN) + 6 * (capR x.hN x.hsize k - x.hN), locals := 161 } (pC D dA [.ref h, .int (nI w)] (VW dA h ad x) sz) (va_Qi (fun (r9 : Int32) (u9 : VS) => r9 = nI k ∧ bkR x w k u9) (fun (u9 : VS) t9 => bW D (va_A (VW dA h ad x) sz) (VW dA h ad u9) t9) (va_A (VW dA h ad x) sz)) (6 * (capR x.jN x.jsize k - x.jN) + 3 * (capR x.hN x.hsize k - x.hN)) (12 * (capR x.jN x.jsize k - x.jN) + 6 * (capR x.hN x.hsize k - x.hN)) (va_A (VW dA h ad x) sz) := by
  refine mkC (y := ⟨"SeriesVault", "bulk", "(I)I"⟩) (cc := prog_1_method_33_code) (maxL := 6) (av := [.ref h, .int (nI w)]) (ws := VW dA h ad x) (sz := sz) (Qc := fun A => va_Qi (fun (r9 : Int32) (u9 : VS) => r9 = nI k ∧ bkR x w k u9) (fun (u9 : VS) t9 => bW D A (VW dA h ad u9) t9) A) (by decide) (Nat.le_of_ble_eq_true rfl) ?_
  intro A p e s m below meth c ls hsz hB
  obtain ⟨hx, hb, hr, hml, hown, hin, hlk, hE, hK, hP, hD, hS, hA, hN, hl⟩ := hB
  have hown : s.vm.findClass "SeriesVault" = some m.cls := hown
  have hl : lv_has ls 6 [(0, .ref h), (1, .int (nI w))] := hl
  obtain ⟨H, hH⟩ : ∃ z, z = s.heap := ⟨_, rfl⟩
  have hP : va_P D vwCl (VW dA h ad x) H := by rw [hH]; exact hP
  have hS : va_S A s.heap H [] := by rw [hH]; exact hS
  rw [← hH]
  refine lv_aload_n hx hb d_V_bulk_0 rfl (lv_at hl 0 rfl) ?_
  refine jkV (wr := []) (rnV (As := []) (rest := []) hx hb hml hown hE hK (hN _ _ hS) hP hD (v_checkPower l D dA H.size h ad x ho) (q0 := 0) rfl rfl w278 w276 w279 w280 w277 rfl rfl ⟨⟨by decide, by decide⟩, rfl⟩ ⟨(Nat.le_of_ble_eq_true rfl), (Nat.le_of_ble_eq_true rfl)⟩ rfl hl.1 rfl (Nat.le_of_ble_eq_true rfl) d_V_bulk_1 ⟨(show 0 + 0 ≤ 6 * (capR x.jN x.jsize k - x.jN) + 3 * (capR x.hN x.hsize k - x.hN) by omega), (show 0 + 0 ≤ 12 * (capR x.jN x.jsize k - x.jN) + 6 * (capR x.hN x.hsize k - x.hN) by omega)⟩) hP hD hS hA (fun u2 H locs hp9 hP hD hS => ?_)
  have hP : va_P D vwCl (VW dA h ad x) H := hP
  have hD : va_D A (VW dA h ad x) := hD
  refine lv_aload_n hx hb d_V_bulk_4 rfl (lv_at hl 0 rfl) ?_
  refine lv_iload_n hx hb d_V_bulk_5 rfl (lv_at hl 1 rfl) ?_
  refine jkV (wr := []) (rnV (As := [.int (nI w)]) (rest := []) hx hb hml hown hE hK (hN _ _ hS) hP hD (v_checkSeries l D dA H.size h ad x w (show w < x.nser from by omega) (show x.nser ≤ 256 from by omega)) (q0 := 0) rfl rfl w300 w299 w301 w302 w277 rfl rfl ⟨⟨by decide, by decide⟩, rfl⟩ ⟨(Nat.le_of_ble_eq_true rfl), (Nat.le_of_ble_eq_true rfl)⟩ rfl hl.1 rfl (Nat.le_of_ble_eq_true rfl) d_V_bulk_6 ⟨(show 0 + 0 + 0 ≤ 6 * (capR x.jN x.jsize k - x.jN) + 3 * (capR x.hN x.hsize k - x.hN) by omega), (show 0 + 0 + 0 ≤ 12 * (capR x.jN x.jsize k - x.jN) + 6 * (capR x.hN x.hsize k - x.hN) by omega)⟩) hP hD hS hA (fun u4 H locs hp9 hP hD hS => ?_)
  have hP : va_P D vwCl (VW dA h ad x) H := hP
  have hD : va_D A (VW dA h ad x) := hD
  refine lv_aload_n hx hb d_V_bulk_9 rfl (lv_at hl 0 rfl) ?_
  refine gF (v := .int (nI x.tapeLength)) hx hb hown hE hK hP 0 rfl rfl layV 1 (by decide) w259 rfl d_V_bulk_10 ?_
  refine lv_bipush (v := 16) hx hb d_V_bulk_13 (by decide) ?_
  refine lv_idiv hx hb d_V_bulk_15 (by decide) (tpi (y := nI (x.tapeLength / 16)) (pk_div (a := x.tapeLength) (d := 16) (by omega) (by omega) (by omega)) ?_)
  refine lv_istore_n hx hb d_V_bulk_16 rfl hl (by decide) rfl (fun ls hl => ?_)
  have hl : lv_has ls 6 [(2, .int (nI (x.tapeLength / 16))), (0, .ref h), (1, .int (nI w))] := hl
  refine lv_aload_n hx hb d_V_bulk_17 rfl (lv_at hl 1 rfl) ?_
  refine lv_iconst (v := 0) hx hb d_V_bulk_18 (by decide) ?_
  refine pF (v := .int (nI 0)) hx hb hown hE hK hP hD hS 0 rfl rfl layV tyV tokV nmV 1 (by decide) w259 rfl rfl rfl (Nat.le_of_ble_eq_true rfl) d_V_bulk_19 (fun H locs hP hD hS => ?_)
  have hP : va_P D vwCl (VW dA h ad (VS.s_tapeLength x 0)) H := hP
  have hD : va_D A (VW dA h ad (VS.s_tapeLength x 0)) := hD
  refine lv_iconst (v := 0) hx hb d_V_bulk_22 (by decide) ?_
  refine lv_istore_n hx hb d_V_bulk_23 rfl hl (by decide) rfl (fun ls hl => ?_)
  have hl : lv_has ls 6 [(3, .int 0), (2, .int (nI (x.tapeLength / 16))), (0, .ref h), (1, .int (nI w))] := hl
  have L24 : ∀ (k9 : Nat) (i : Nat) (z : VS) (i1 : i ≤ k) (hR0 : bkR x w i z) (hk9 : x.tapeLength / 16 - i = k9), ∀ (H : Heap) (locs : List Loc) (ls : Array Slot) (hP : va_P D vwCl (VW dA h ad z) H) (hD : va_D A (VW dA h ad z)) (hS : va_S A s.heap H locs) (hl : lv_has ls 6 [(3, .int (nI i)), (2, .int (nI (x.tapeLength / 16))), (1, .int (nI w)), (0, .ref h)]), W p l e ({ frames := 6, cells := 6 * (capR x.jN x.jsize k - x.jN) + 3 * (capR x.hN x.hsize k - x.hN), slots := 12 * (capR x.jN x.jsize k - x.jN) + 6 * (capR x.hN x.hsize k - x.hN), locals := 161 } : Room) s m ([.ref h, .int (nI w)] : List Value).toArray below meth c H locs (6 * (z.jN - x.jN) + 3 * (z.hN - x.hN)) (12 * (z.jN - x.jN) + 6 * (z.hN - x.hN)) (MQ below (va_Qi (fun (r9 : Int32) (u9 : VS) => r9 = nI k ∧ bkR x w k u9) (fun (u9 : VS) t9 => bW D A (VW dA h ad u9) t9) A) ([.ref h, .int (nI w)] : List Value).toArray s (6 * (capR x.jN x.jsize k - x.jN) + 3 * (capR x.hN x.hsize k - x.hN)) (12 * (capR x.jN x.jsize k - x.jN) + 6 * (capR x.hN x.hsize k - x.hN)) A) (F0 m 24 ls []) := by
    intro k9
    induction k9 using Nat.strongRecOn with
    | ind k9 ih24 =>
      intro i z i1 hR0 hk9 H locs ls hP hD hS hl
      have hI := bk_i hfl hj1 hj2 hh1 hh2 hR0
      have hIc := hI
      obtain ⟨q1, q2, q3, q4, q5, q6, q7, q8, q9, q10, q11, q12, q13⟩ := hIc
      have cm0 : capR x.jN x.jsize 0 = x.jN := rfl
      have cm00 : capR x.hN x.hsize 0 = x.hN := rfl
      have cm1 := capR_m x.jN x.jsize i1
      have cm2 := capR_m x.hN x.hsize i1
      have cm5 := capR_m x.jN x.jsize (Nat.zero_le i)
      have cm6 := capR_m x.hN x.hsize (Nat.zero_le i)
      refine lv_iload_n hx hb d_V_bulk_24 rfl (lv_at hl 0 rfl) ?_
      refine lv_iload_n hx hb d_V_bulk_25 rfl (lv_at hl 1 rfl) ?_
      refine lv_icmp_ge hx hb d_V_bulk_26 (tgt := 86) rfl (fun g5 => ?_) (fun g5 => ?_)
      · have g5 := (nI_leI (a := x.tapeLength / 16) (b := i) (by omega) (by omega)).mp g5
        refine lv_iload_n hx hb d_V_bulk_86 rfl (lv_at hl 1 rfl) ?_
        exact rfI hx hb hr hlk hS z (by have e9 : i = k := (by rcases Nat.lt_or_ge i k with h9 | h9; (exfalso; omega); omega); exact ⟨by rw [show x.tapeLength / 16 = k by omega], by rw [← e9]; exact hR0⟩) hP hD (show 6 * (z.jN - x.jN) + 3 * (z.hN - x.hN) ≤ 6 * (capR x.jN x.jsize k - x.jN) + 3 * (capR x.hN x.hsize k - x.hN) by omega) (show 12 * (z.jN - x.jN) + 6 * (z.hN - x.hN) ≤ 12 * (capR x.jN x.jsize k - x.jN) + 6 * (capR x.hN x.hsize k - x.hN) by omega) d_V_bulk_87
      · have g5 := mt (nI_leI (a := x.tapeLength / 16) (b := i) (by omega) (by omega)).mpr g5
        refine lv_aload_n hx hb d_V_bulk_29 rfl (lv_at hl 3 rfl) ?_
        refine lv_iload_n hx hb d_V_bulk_30 rfl (lv_at hl 0 rfl) ?_
        refine lv_bipush (v := 16) hx hb d_V_bulk_31 (by decide) ?_
        refine lv_imul hx hb d_V_bulk_33 (tpi (y := nI (i * 16)) (pk_mul (i) (16)) ?_)
        refine jkL (wr := []) (rnV (As := [.int (nI (i * 16))]) (rest := []) hx hb hml hown hE hK (hN _ _ hS) hP hD (v_longOnTape l D dA H.size h ad z (i * 16) (show (i * 16) + 8 ≤ z.tpN from by omega) (show z.tpN ≤ 131072 from by omega)) (q0 := 0) rfl rfl w1747 w1746 w1748 w1749 w277 rfl rfl ⟨⟨by decide, by decide⟩, rfl⟩ ⟨(Nat.le_of_ble_eq_true rfl), (Nat.le_of_ble_eq_true rfl)⟩ rfl hl.1 rfl (Nat.le_of_ble_eq_true rfl) d_V_bulk_34 ⟨(show 6 * (z.jN - x.jN) + 3 * (z.hN - x.hN) + 0 ≤ 6 * (capR x.jN x.jsize k - x.jN) + 3 * (capR x.hN x.hsize k - x.hN) by omega), (show 12 * (z.jN - x.jN) + 6 * (z.hN - x.hN) + 0 ≤ 12 * (capR x.jN x.jsize k - x.jN) + 6 * (capR x.hN x.hsize k - x.hN) by omega)⟩) hP hD hS hA (fun r6 u7 H locs hp9 hP hD hS => ?_)
        have hP : va_P D vwCl (VW dA h ad z) H := hP
        have hD : va_D A (VW dA h ad z) := hD
        replace hp9 : numB z.tape (i * 16) 8 = r6 := Eq.symm hp9
        subst hp9
        refine tpl (y := tmB x i) (by unfold tmB; rw [q1]) ?_
        refine lv_lstore hx hb d_V_bulk_37 hl (by decide) rfl (fun ls hl => ?_)
        have hl : lv_has ls 6 [(4, .long (tmB x i)), (3, .int (nI i)), (2, .int (nI (x.tapeLength / 16))), (1, .int (nI w)), (0, .ref h)] := hl
        refine lv_aload_n hx hb d_V_bulk_39 rfl (lv_at hl 4 rfl) ?_
        refine lv_iload_n hx hb d_V_bulk_40 rfl (lv_at hl 3 rfl) ?_
        refine lv_lload hx hb d_V_bulk_41 (lv_at hl 0 rfl) ?_
        refine jkI (wr := []) (rnV (As := [.int (nI w), .long (tmB x i)]) (rest := []) hx hb hml hown hE hK (hN _ _ hS) hP hD (v_mayCome l D dA H.size h ad z w (tmB x i) (show w < 256 from by omega)) (q0 := 0) rfl rfl w1159 w1158 w1160 w1161 w277 rfl rfl ⟨⟨by decide, by decide⟩, rfl⟩ ⟨(Nat.le_of_ble_eq_true rfl), (Nat.le_of_ble_eq_true rfl)⟩ rfl hl.1 rfl (Nat.le_of_ble_eq_true rfl) d_V_bulk_43 ⟨(show 6 * (z.jN - x.jN) + 3 * (z.hN - x.hN) + 0 + 0 ≤ 6 * (capR x.jN x.jsize k - x.jN) + 3 * (capR x.hN x.hsize k - x.hN) by omega), (show 12 * (z.jN - x.jN) + 6 * (z.hN - x.hN) + 0 + 0 ≤ 12 * (capR x.jN x.jsize k - x.jN) + 6 * (capR x.hN x.hsize k - x.hN) by omega)⟩) hP hD hS hA (fun r8 u9 H locs hp9 hP hD hS => ?_)
        have hP : va_P D vwCl (VW dA h ad z) H := hP
        have hD : va_D A (VW dA h ad z) := hD
        replace hp9 : bI (z.may w (tmB x i)) = r8 := Eq.symm hp9
        subst hp9
        refine lv_if_eq hx hb d_V_bulk_46 (tgt := 60) rfl (fun g10 => ?_) (fun g10 => ?_)
        · have g10 := bI_0 g10
          refine lv_iload_n hx hb d_V_bulk_60 rfl (lv_at hl 1 rfl) ?_
          exact rfI hx hb hr hlk hS z (by have e9 : i = k := (by rcases Nat.lt_or_ge i k with h9 | h9; (exfalso; have h8 := (hgo i z h9 hR0).1; rw [g10] at h8; cases h8); omega); exact ⟨by rw [← e9], by rw [← e9]; exact hR0⟩) hP hD (show 6 * (z.jN - x.jN) + 3 * (z.hN - x.hN) + 0 + 0 ≤ 6 * (capR x.jN x.jsize k - x.jN) + 3 * (capR x.hN x.hsize k - x.hN) by omega) (show 12 * (z.jN - x.jN) + 6 * (z.hN - x.hN) + 0 + 0 ≤ 12 * (capR x.jN x.jsize k - x.jN) + 6 * (capR x.hN x.hsize k - x.hN) by omega) d_V_bulk_61
        · have g10 := bI_n0 g10
          refine lv_aload_n hx hb d_V_bulk_49 rfl (lv_at hl 4 rfl) ?_
          refine gF (v := .ref (ad 0)) hx hb hown hE hK hP 0 rfl rfl layV 8 (by decide) w312 rfl d_V_bulk_50 ?_
          refine lv_iconst (v := 1) hx hb d_V_bulk_53 (by decide) ?_
          refine jkI (wr := []) (rnV (As := [.int 1]) (rest := []) hx hb hml hown hE hK (hN _ _ hS) hP hD (v_jhasRoom l D dA H.size h ad z 1 (show z.jfill + 1 < 2 ^ 31 from by omega) (show z.jblock + 1 < 2 ^ 31 from by omega) (show z.jlimit < 2 ^ 31 from by omega)) (q0 := 2) rfl rfl w1163 w1162 w1164 w1165 w556 rfl rfl ⟨⟨by decide, by decide⟩, rfl⟩ ⟨(Nat.le_of_ble_eq_true rfl), (Nat.le_of_ble_eq_true rfl)⟩ rfl hl.1 rfl (Nat.le_of_ble_eq_true rfl) d_V_bulk_54 ⟨(show 6 * (z.jN - x.jN) + 3 * (z.hN - x.hN) + 0 + 0 + 0 ≤ 6 * (capR x.jN x.jsize k - x.jN) + 3 * (capR x.hN x.hsize k - x.hN) by omega), (show 12 * (z.jN - x.jN) + 6 * (z.hN - x.hN) + 0 + 0 + 0 ≤ 12 * (capR x.jN x.jsize k - x.jN) + 6 * (capR x.hN x.hsize k - x.hN) by omega)⟩) hP hD hS hA (fun r11 u12 H locs hp9 hP hD hS => ?_)
          have hP : va_P D vwCl (VW dA h ad z) H := hP
          have hD : va_D A (VW dA h ad z) := hD
          replace hp9 : bI (z.room 1) = r11 := Eq.symm hp9
          subst hp9
          refine lv_if_ne hx hb d_V_bulk_57 (tgt := 62) rfl (fun g13 => ?_) (fun g13 => ?_)
          · have g13 := bI_n0 g13
            have hmy : z.may w (tmB x i) = true := g10
            have hrm : z.room 1 = true := g13
            have hik : i < k := by rcases Nat.lt_or_ge i k with h9 | h9; exact h9; (exfalso; have e9 : k = i := (by omega); have h8 := hst (by omega) z (by rw [e9]; exact hR0) (by rw [e9]; exact hmy); rw [hrm] at h8; cases h8)
            have hc9 := (hgo i z hik hR0).2.2
            have cm1 := capR_m x.jN x.jsize (show i ≤ k by omega)
            have cm2 := capR_m x.hN x.hsize (show i ≤ k by omega)
            have cm3 := capR_m x.jN x.jsize (show i + 1 ≤ k by omega)
            have cm4 := capR_m x.hN x.hsize (show i + 1 ≤ k by omega)
            have hI2 := bkI_s (ja := fun _ => 0) (pa := fun _ => 0) (w := w) (a := tmB x i) (b := vlB x i) hI hmy
            have ej := hI2.2.1
            have eh := hI2.2.2
            have cs1 := capR_s x.jN x.jsize i
            have cs2 := capR_s x.hN x.hsize i
            refine lv_aload_n hx hb d_V_bulk_62 rfl (lv_at hl 4 rfl) ?_
            refine lv_iload_n hx hb d_V_bulk_63 rfl (lv_at hl 3 rfl) ?_
            refine lv_lload hx hb d_V_bulk_64 (lv_at hl 0 rfl) ?_
            refine lv_aload_n hx hb d_V_bulk_66 rfl (lv_at hl 4 rfl) ?_
            refine lv_iload_n hx hb d_V_bulk_67 rfl (lv_at hl 1 rfl) ?_
            refine lv_bipush (v := 16) hx hb d_V_bulk_68 (by decide) ?_
            refine lv_imul hx hb d_V_bulk_70 (tpi (y := nI (i * 16)) (pk_mul (i) (16)) ?_)
            refine lv_bipush (v := 8) hx hb d_V_bulk_71 (by decide) ?_
            refine lv_iadd hx hb d_V_bulk_73 (tpi (y := nI ((i * 16) + 8)) (nI_add (i * 16) (8)) ?_)
            refine jkL (wr := []) (rnV (As := [.int (nI ((i * 16) + 8))]) (rest := [.long (tmB x i), .int (nI w), .ref h]) hx hb hml hown hE hK (hN _ _ hS) hP hD (v_longOnTape l D dA H.size h ad z ((i * 16) + 8) (show ((i * 16) + 8) + 8 ≤ z.tpN from by omega) (show z.tpN ≤ 131072 from by omega)) (q0 := 0) rfl rfl w1747 w1746 w1748 w1749 w277 rfl rfl ⟨⟨by decide, by decide⟩, rfl⟩ ⟨(Nat.le_of_ble_eq_true rfl), (Nat.le_of_ble_eq_true rfl)⟩ rfl hl.1 rfl (Nat.le_of_ble_eq_true rfl) d_V_bulk_74 ⟨(show 6 * (z.jN - x.jN) + 3 * (z.hN - x.hN) + 0 + 0 + 0 + 0 ≤ 6 * (capR x.jN x.jsize k - x.jN) + 3 * (capR x.hN x.hsize k - x.hN) by omega), (show 12 * (z.jN - x.jN) + 6 * (z.hN - x.hN) + 0 + 0 + 0 + 0 ≤ 12 * (capR x.jN x.jsize k - x.jN) + 6 * (capR x.hN x.hsize k - x.hN) by omega)⟩) hP hD hS hA (fun r14 u15 H locs hp9 hP hD hS => ?_)
            have hP : va_P D vwCl (VW dA h ad z) H := hP
            have hD : va_D A (VW dA h ad z) := hD
            replace hp9 : numB z.tape ((i * 16) + 8) 8 = r14 := Eq.symm hp9
            subst hp9
            refine tpl (y := vlB x i) (by unfold vlB; rw [q1]) ?_
            refine jkV (wr := []) (rnV (As := [.int (nI w), .long (tmB x i), .long (vlB x i)]) (rest := []) hx hb hml hown hE hK (hN _ _ hS) hP hD (v_addPoint l D dA H.size h ad z w (tmB x i) (vlB x i) q8 q9 (show z.jN ≤ 65536 from by omega) (show z.jfill + 1 < 2 ^ 31 from by omega) hc9 (show w < 256 from by omega) q12 q13 (show z.hN ≤ 32768 from by omega)) (q0 := 0) rfl rfl w1166 w1167 w1168 w1169 w277 rfl rfl ⟨⟨by decide, by decide⟩, rfl⟩ ⟨(Nat.le_of_ble_eq_true rfl), (Nat.le_of_ble_eq_true rfl)⟩ rfl hl.1 rfl (Nat.le_of_ble_eq_true rfl) d_V_bulk_77 ⟨(show 6 * (z.jN - x.jN) + 3 * (z.hN - x.hN) + 0 + 0 + 0 + 0 + (6 * (z.jcap - z.jN) + 3 * (z.cmcap (tmB x i) - z.hN)) ≤ 6 * (capR x.jN x.jsize k - x.jN) + 3 * (capR x.hN x.hsize k - x.hN) by omega), (show 12 * (z.jN - x.jN) + 6 * (z.hN - x.hN) + 0 + 0 + 0 + 0 + (12 * (z.jcap - z.jN) + 6 * (z.cmcap (tmB x i) - z.hN)) ≤ 12 * (capR x.jN x.jsize k - x.jN) + 6 * (capR x.hN x.hsize k - x.hN) by omega)⟩) hP hD hS hA (fun u17 H locs hp9 hP hD hS => ?_)
            obtain ⟨y18, h9u⟩ : ∃ z9, z9 = u17 := ⟨_, rfl⟩
            subst h9u
            have hP : va_P D vwCl (VW dA h ad y18) H := hP
            have hD : va_D A (VW dA h ad y18) := hD
            have f_e_19 := hp9
            obtain ⟨ja, pa, e9⟩ := f_e_19
            have hR1 : bkR x w (i + 1) y18 := ⟨z, ja, pa, hR0, hmy, e9⟩
            have hI1 := bk_i hfl hj1 hj2 hh1 hh2 hR1
            obtain ⟨u1, u2, u3, u4, u5, u6, u7, u8, u9, u10, u11, u12, u13⟩ := hI1
            refine lv_iinc (k := 1) (v := nI (i + 1)) hx hb d_V_bulk_80 hl rfl (iincN (i) 1 1 (by decide)) (by decide) rfl (fun ls hl => ?_)
            have hl : lv_has ls 6 [(3, .int (nI (i + 1))), (4, .long (tmB x i)), (2, .int (nI (x.tapeLength / 16))), (1, .int (nI w)), (0, .ref h)] := hl
            refine lv_goto hx hb d_V_bulk_83 (tgt := 24) rfl ?_
            refine W.widen (k := 6 * (y18.jN - x.jN) + 3 * (y18.hN - x.hN)) (n := 12 * (y18.jN - x.jN) + 6 * (y18.hN - x.hN)) (show 6 * (z.jN - x.jN) + 3 * (z.hN - x.hN) + 0 + 0 + 0 + 0 + (6 * (z.jcap - z.jN) + 3 * (z.cmcap (tmB x i) - z.hN)) ≤ 6 * (y18.jN - x.jN) + 3 * (y18.hN - x.hN) from by omega) (show 12 * (z.jN - x.jN) + 6 * (z.hN - x.hN) + 0 + 0 + 0 + 0 + (12 * (z.jcap - z.jN) + 6 * (z.cmcap (tmB x i) - z.hN)) ≤ 12 * (y18.jN - x.jN) + 6 * (y18.hN - x.hN) from by omega) ?_
            exact ih24 _ (by omega) (i + 1) y18 (by omega) hR1 rfl H _ ls hP hD hS (lv_sub hl [0, 2, 3, 4] rfl)
          · have g13 := bI_0 g13
            refine lv_iload_n hx hb d_V_bulk_60 rfl (lv_at hl 1 rfl) ?_
            exact rfI hx hb hr hlk hS z (by have e9 : i = k := (by rcases Nat.lt_or_ge i k with h9 | h9; (exfalso; have h8 := (hgo i z h9 hR0).2.1; rw [g13] at h8; cases h8); omega); exact ⟨by rw [← e9], by rw [← e9]; exact hR0⟩) hP hD (show 6 * (z.jN - x.jN) + 3 * (z.hN - x.hN) + 0 + 0 + 0 ≤ 6 * (capR x.jN x.jsize k - x.jN) + 3 * (capR x.hN x.hsize k - x.hN) by omega) (show 12 * (z.jN - x.jN) + 6 * (z.hN - x.hN) + 0 + 0 + 0 ≤ 12 * (capR x.jN x.jsize k - x.jN) + 6 * (capR x.hN x.hsize k - x.hN) by omega) d_V_bulk_61
  refine W.widen (k := 6 * ((VS.s_tapeLength x 0).jN - x.jN) + 3 * ((VS.s_tapeLength x 0).hN - x.hN)) (n := 12 * ((VS.s_tapeLength x 0).jN - x.jN) + 6 * ((VS.s_tapeLength x 0).hN - x.hN)) (show 0 + 0 + 0 ≤ 6 * ((VS.s_tapeLength x 0).jN - x.jN) + 3 * ((VS.s_tapeLength x 0).hN - x.hN) from by omega) (show 0 + 0 + 0 ≤ 12 * ((VS.s_tapeLength x 0).jN - x.jN) + 6 * ((VS.s_tapeLength x 0).hN - x.hN) from by omega) ?_
  exact L24 _ 0 (VS.s_tapeLength x 0) (Nat.zero_le _) rfl rfl H _ ls hP hD hS (lv_sub hl [0, 1, 3, 2] rfl)
set_option maxHeartbeats 4000000 in
set_option maxRecDepth 100000 in
theorem v_bulk_1 (l : Launch) (htr : l.stackTraces = false) (D : va_G) (dA : Nat → ClassId) (sz : Nat) (h : Nat) (ad : Nat → Nat) (x : VS) (n : Int32) (ho : x.powered = false) : mX l ⟨"SeriesVault", "bulk", "(I)I"⟩ [Cond.code ⟨"SeriesVault", "bulk", "(I)I"⟩ prog_1_method_33_code 6 (some FieldType.int)] { frames := 7, cells := 1, slots := 6, locals := 101 } (pC D dA [.ref h, .int n] (VW dA h ad x) sz) "java/lang/IllegalStateException" (fun st9 t9 => va_F (va_A (VW dA h ad x) sz) st9 t9 ∧ bW D (va_A (VW dA h ad x) sz) (VW dA h ad x) t9) 1 6 (va_A (VW dA h ad x) sz) := by
  refine mkX (y := ⟨"SeriesVault", "bulk", "(I)I"⟩) (cc := prog_1_method_33_code) (maxL := 6) (av := [.ref h, .int n]) (ws := VW dA h ad x) (sz := sz) (B := fun A => (fun st9 t9 => va_F A st9 t9 ∧ bW D A (VW dA h ad x) t9)) (by decide) (Nat.le_of_ble_eq_true rfl) ?_
  intro A p e s m below meth c ls hsz hno hB
  obtain ⟨hx, hb, hr, hml, hown, hin, hlk, hE, hK, hP, hD, hS, hA, hN, hl⟩ := hB
  have hown : s.vm.findClass "SeriesVault" = some m.cls := hown
  have hl : lv_has ls 6 [(0, .ref h), (1, .int n)] := hl
  obtain ⟨H, hH⟩ : ∃ z, z = s.heap := ⟨_, rfl⟩
  have hP : va_P D vwCl (VW dA h ad x) H := by rw [hH]; exact hP
  have hS : va_S A s.heap H [] := by rw [hH]; exact hS
  rw [← hH]
  refine lv_aload_n hx hb d_V_bulk_0 rfl (lv_at hl 0 rfl) ?_
  refine xfV (w1 := VW dA h ad x) (As := []) (rest := []) hx hb hml hown hE hK (hN _ _ hS) (v_checkPower_x l htr D dA H.size h ad x ho) (q0 := 0) rfl rfl w278 w276 w279 w280 w277 rfl rfl ⟨⟨by decide, by decide⟩, rfl⟩ ⟨(Nat.le_of_ble_eq_true rfl), (Nat.le_of_ble_eq_true rfl)⟩ rfl hl.1 rfl (Nat.le_of_ble_eq_true rfl) d_V_bulk_1 ⟨(Nat.le_of_ble_eq_true rfl), (Nat.le_of_ble_eq_true rfl)⟩ hP hD hS hA (fun xa1 ce H locs hP hD hS hce hcv hcl => ?_)
  exact xOut hno hlk hce hcv hcl (fun t ht => xEndV hP hD hS t (by rw [ht]; exact Nat.le_refl _) (fun q _ => by rw [ht])) hS.2.2 (Nat.le_of_ble_eq_true rfl) (Nat.le_of_ble_eq_true rfl)
set_option maxHeartbeats 4000000 in
set_option maxRecDepth 100000 in
theorem v_bulk_2 (l : Launch) (htr : l.stackTraces = false) (D : va_G) (dA : Nat → ClassId) (sz : Nat) (h : Nat) (ad : Nat → Nat) (x : VS) (n : Int32) (ho : x.powered = true) (h0 : n < 0 ∨ nI x.nser ≤ n) : mX l ⟨"SeriesVault", "bulk", "(I)I"⟩ [Cond.code ⟨"SeriesVault", "bulk", "(I)I"⟩ prog_1_method_33_code 6 (some FieldType.int)] { frames := 7, cells := 1, slots := 6, locals := 102 } (pC D dA [.ref h, .int n] (VW dA h ad x) sz) "java/lang/IndexOutOfBoundsException" (fun st9 t9 => va_F (va_A (VW dA h ad x) sz) st9 t9 ∧ bW D (va_A (VW dA h ad x) sz) (VW dA h ad x) t9) 1 6 (va_A (VW dA h ad x) sz) := by
  refine mkX (y := ⟨"SeriesVault", "bulk", "(I)I"⟩) (cc := prog_1_method_33_code) (maxL := 6) (av := [.ref h, .int n]) (ws := VW dA h ad x) (sz := sz) (B := fun A => (fun st9 t9 => va_F A st9 t9 ∧ bW D A (VW dA h ad x) t9)) (by decide) (Nat.le_of_ble_eq_true rfl) ?_
  intro A p e s m below meth c ls hsz hno hB
  obtain ⟨hx, hb, hr, hml, hown, hin, hlk, hE, hK, hP, hD, hS, hA, hN, hl⟩ := hB
  have hown : s.vm.findClass "SeriesVault" = some m.cls := hown
  have hl : lv_has ls 6 [(0, .ref h), (1, .int n)] := hl
  obtain ⟨H, hH⟩ : ∃ z, z = s.heap := ⟨_, rfl⟩
  have hP : va_P D vwCl (VW dA h ad x) H := by rw [hH]; exact hP
  have hS : va_S A s.heap H [] := by rw [hH]; exact hS
  rw [← hH]
  refine lv_aload_n hx hb d_V_bulk_0 rfl (lv_at hl 0 rfl) ?_
  refine jfV (rnV (As := []) (rest := []) hx hb hml hown hE hK (hN _ _ hS) hP hD (v_checkPower l D dA H.size h ad x ho) (q0 := 0) rfl rfl w278 w276 w279 w280 w277 rfl rfl ⟨⟨by decide, by decide⟩, rfl⟩ ⟨(Nat.le_of_ble_eq_true rfl), (Nat.le_of_ble_eq_true rfl)⟩ rfl hl.1 rfl (Nat.le_of_ble_eq_true rfl) d_V_bulk_1 ⟨(Nat.le_of_ble_eq_true rfl), (Nat.le_of_ble_eq_true rfl)⟩) hP hD hS hA (fun u2 H locs hp9 hP hD hS => ?_)
  have hP : va_P D vwCl (VW dA h ad x) H := hP
  have hD : va_D A (VW dA h ad x) := hD
  refine lv_aload_n hx hb d_V_bulk_4 rfl (lv_at hl 0 rfl) ?_
  refine lv_iload_n hx hb d_V_bulk_5 rfl (lv_at hl 1 rfl) ?_
  refine xfV (w1 := VW dA h ad x) (As := [.int n]) (rest := []) hx hb hml hown hE hK (hN _ _ hS) (v_checkSeries_x l htr D dA H.size h ad x n h0) (q0 := 0) rfl rfl w300 w299 w301 w302 w277 rfl rfl ⟨⟨by decide, by decide⟩, rfl⟩ ⟨(Nat.le_of_ble_eq_true rfl), (Nat.le_of_ble_eq_true rfl)⟩ rfl hl.1 rfl (Nat.le_of_ble_eq_true rfl) d_V_bulk_6 ⟨(Nat.le_of_ble_eq_true rfl), (Nat.le_of_ble_eq_true rfl)⟩ hP hD hS hA (fun xa3 ce H locs hP hD hS hce hcv hcl => ?_)
  exact xOut hno hlk hce hcv hcl (fun t ht => xEndV hP hD hS t (by rw [ht]; exact Nat.le_refl _) (fun q _ => by rw [ht])) hS.2.2 (Nat.le_of_ble_eq_true rfl) (Nat.le_of_ble_eq_true rfl)
set_option maxHeartbeats 4000000 in
set_option maxRecDepth 100000 in
theorem v_bulk_i (l : Launch) (htr : l.stackTraces = false) (D : va_G) (dA : Nat → ClassId) (sz : Nat) (h : Nat) (ad : Nat → Nat) (x : VS) (w : Nat) (k : Nat) (ho : x.powered = true) (hw1 : w < x.nser) (hw2 : x.nser ≤ 256) (htl : x.tapeLength ≤ x.tpN) (htp : x.tpN ≤ 131072) (hfl : x.jfill ≤ 126) (hbu : x.jblock + k + 1 < 2 ^ 31) (hlu : x.jlimit < 2 ^ 31) (hj1 : x.jsize ≤ x.jN) (hj2 : 0 < x.jN) (hj3 : capR x.jN x.jsize k ≤ 65536) (hh1 : x.hsize ≤ x.hN) (hh2 : 0 < x.hN) (hh3 : capR x.hN x.hsize k ≤ 32768) (hkn : k ≤ x.tapeLength / 16) (hgo : ∀ (i : Nat) (z : VS), i < k → bkR x w i z → z.may w (tmB x i) = true ∧ z.room 1 = true ∧ (z.jfill + 1 ≤ 126 ∨ z.jch = false ∨ ¬ z.cutLeft = 0)) (hkn2 : k < x.tapeLength / 16) (hst : ∀ z : VS, bkR x w k z → z.may w (tmB x k) = true ∧ z.room 1 = true ∧ 126 < z.jfill + 1 ∧ z.jch = true ∧ z.cutLeft = 0) : mX l ⟨"SeriesVault", "bulk", "(I)I"⟩ [Cond.code ⟨"SeriesVault", "bulk", "(I)I"⟩ prog_1_method_33_code 6 (some FieldType.int)] { frames := 10, cells := 6 * (capR x.jN x.jsize k - x.jN) + 3 * (capR x.hN x.hsize k - x.hN) + 1, slots := 12 * (capR x.jN x.jsize k - x.jN) + 6 * (capR x.hN x.hsize k - x.hN) + 6, locals := 173 } (pC D dA [.ref h, .int (nI w)] (VW dA h ad x) sz) "java/lang/IllegalStateException" (fun st9 t9 => va_F (va_A (VW dA h ad x) sz) st9 t9 ∧ ∃ u9 : VS, ((∃ z : VS, bkR x w k z ∧ u9 = z.off1)) ∧ bW D (va_A (VW dA h ad x) sz) (VW dA h ad u9) t9) (6 * (capR x.jN x.jsize k - x.jN) + 3 * (capR x.hN x.hsize k - x.hN) + 1) (12 * (capR x.jN x.jsize k - x.jN) + 6 * (capR x.hN x.hsize k - x.hN) + 6) (va_A (VW dA h ad x) sz) := by
  refine mkX (y := ⟨"SeriesVault", "bulk", "(I)I"⟩) (cc := prog_1_method_33_code) (maxL := 6) (av := [.ref h, .int (nI w)]) (ws := VW dA h ad x) (sz := sz) (B := fun A => (fun st9 t9 => va_F A st9 t9 ∧ ∃ u9 : VS, ((∃ z : VS, bkR x w k z ∧ u9 = z.off1)) ∧ bW D A (VW dA h ad u9) t9)) (by decide) (Nat.le_of_ble_eq_true rfl) ?_
  intro A p e s m below meth c ls hsz hno hB
  obtain ⟨hx, hb, hr, hml, hown, hin, hlk, hE, hK, hP, hD, hS, hA, hN, hl⟩ := hB
  have hown : s.vm.findClass "SeriesVault" = some m.cls := hown
  have hl : lv_has ls 6 [(0, .ref h), (1, .int (nI w))] := hl
  obtain ⟨H, hH⟩ : ∃ z, z = s.heap := ⟨_, rfl⟩
  have hP : va_P D vwCl (VW dA h ad x) H := by rw [hH]; exact hP
  have hS : va_S A s.heap H [] := by rw [hH]; exact hS
  rw [← hH]
  refine lv_aload_n hx hb d_V_bulk_0 rfl (lv_at hl 0 rfl) ?_
  refine jkV (wr := []) (rnV (As := []) (rest := []) hx hb hml hown hE hK (hN _ _ hS) hP hD (v_checkPower l D dA H.size h ad x ho) (q0 := 0) rfl rfl w278 w276 w279 w280 w277 rfl rfl ⟨⟨by decide, by decide⟩, rfl⟩ ⟨(Nat.le_of_ble_eq_true rfl), (Nat.le_of_ble_eq_true rfl)⟩ rfl hl.1 rfl (Nat.le_of_ble_eq_true rfl) d_V_bulk_1 ⟨(show 0 + 0 ≤ 6 * (capR x.jN x.jsize k - x.jN) + 3 * (capR x.hN x.hsize k - x.hN) + 1 by omega), (show 0 + 0 ≤ 12 * (capR x.jN x.jsize k - x.jN) + 6 * (capR x.hN x.hsize k - x.hN) + 6 by omega)⟩) hP hD hS hA (fun u2 H locs hp9 hP hD hS => ?_)
  have hP : va_P D vwCl (VW dA h ad x) H := hP
  have hD : va_D A (VW dA h ad x) := hD
  refine lv_aload_n hx hb d_V_bulk_4 rfl (lv_at hl 0 rfl) ?_
  refine lv_iload_n hx hb d_V_bulk_5 rfl (lv_at hl 1 rfl) ?_
  refine jkV (wr := []) (rnV (As := [.int (nI w)]) (rest := []) hx hb hml hown hE hK (hN _ _ hS) hP hD (v_checkSeries l D dA H.size h ad x w (show w < x.nser from by omega) (show x.nser ≤ 256 from by omega)) (q0 := 0) rfl rfl w300 w299 w301 w302 w277 rfl rfl ⟨⟨by decide, by decide⟩, rfl⟩ ⟨(Nat.le_of_ble_eq_true rfl), (Nat.le_of_ble_eq_true rfl)⟩ rfl hl.1 rfl (Nat.le_of_ble_eq_true rfl) d_V_bulk_6 ⟨(show 0 + 0 + 0 ≤ 6 * (capR x.jN x.jsize k - x.jN) + 3 * (capR x.hN x.hsize k - x.hN) + 1 by omega), (show 0 + 0 + 0 ≤ 12 * (capR x.jN x.jsize k - x.jN) + 6 * (capR x.hN x.hsize k - x.hN) + 6 by omega)⟩) hP hD hS hA (fun u4 H locs hp9 hP hD hS => ?_)
  have hP : va_P D vwCl (VW dA h ad x) H := hP
  have hD : va_D A (VW dA h ad x) := hD
  refine lv_aload_n hx hb d_V_bulk_9 rfl (lv_at hl 0 rfl) ?_
  refine gF (v := .int (nI x.tapeLength)) hx hb hown hE hK hP 0 rfl rfl layV 1 (by decide) w259 rfl d_V_bulk_10 ?_
  refine lv_bipush (v := 16) hx hb d_V_bulk_13 (by decide) ?_
  refine lv_idiv hx hb d_V_bulk_15 (by decide) (tpi (y := nI (x.tapeLength / 16)) (pk_div (a := x.tapeLength) (d := 16) (by omega) (by omega) (by omega)) ?_)
  refine lv_istore_n hx hb d_V_bulk_16 rfl hl (by decide) rfl (fun ls hl => ?_)
  have hl : lv_has ls 6 [(2, .int (nI (x.tapeLength / 16))), (0, .ref h), (1, .int (nI w))] := hl
  refine lv_aload_n hx hb d_V_bulk_17 rfl (lv_at hl 1 rfl) ?_
  refine lv_iconst (v := 0) hx hb d_V_bulk_18 (by decide) ?_
  refine pF (v := .int (nI 0)) hx hb hown hE hK hP hD hS 0 rfl rfl layV tyV tokV nmV 1 (by decide) w259 rfl rfl rfl (Nat.le_of_ble_eq_true rfl) d_V_bulk_19 (fun H locs hP hD hS => ?_)
  have hP : va_P D vwCl (VW dA h ad (VS.s_tapeLength x 0)) H := hP
  have hD : va_D A (VW dA h ad (VS.s_tapeLength x 0)) := hD
  refine lv_iconst (v := 0) hx hb d_V_bulk_22 (by decide) ?_
  refine lv_istore_n hx hb d_V_bulk_23 rfl hl (by decide) rfl (fun ls hl => ?_)
  have hl : lv_has ls 6 [(3, .int 0), (2, .int (nI (x.tapeLength / 16))), (0, .ref h), (1, .int (nI w))] := hl
  have L24 : ∀ (k9 : Nat) (i : Nat) (z : VS) (i1 : i ≤ k) (hR0 : bkR x w i z) (hk9 : x.tapeLength / 16 - i = k9), ∀ (H : Heap) (locs : List Loc) (ls : Array Slot) (hP : va_P D vwCl (VW dA h ad z) H) (hD : va_D A (VW dA h ad z)) (hS : va_S A s.heap H locs) (hl : lv_has ls 6 [(3, .int (nI i)), (2, .int (nI (x.tapeLength / 16))), (1, .int (nI w)), (0, .ref h)]), W p l e ({ frames := 10, cells := 6 * (capR x.jN x.jsize k - x.jN) + 3 * (capR x.hN x.hsize k - x.hN) + 1, slots := 12 * (capR x.jN x.jsize k - x.jN) + 6 * (capR x.hN x.hsize k - x.hN) + 6, locals := 173 } : Room) s m ([.ref h, .int (nI w)] : List Value).toArray below meth c H locs (6 * (z.jN - x.jN) + 3 * (z.hN - x.hN)) (12 * (z.jN - x.jN) + 6 * (z.hN - x.hN)) (xQ below "java/lang/IllegalStateException" (fun st9 t9 => va_F A st9 t9 ∧ ∃ u9 : VS, ((∃ z : VS, bkR x w k z ∧ u9 = z.off1)) ∧ bW D A (VW dA h ad u9) t9) s (6 * (capR x.jN x.jsize k - x.jN) + 3 * (capR x.hN x.hsize k - x.hN) + 1) (12 * (capR x.jN x.jsize k - x.jN) + 6 * (capR x.hN x.hsize k - x.hN) + 6) A) (F0 m 24 ls []) := by
    intro k9
    induction k9 using Nat.strongRecOn with
    | ind k9 ih24 =>
      intro i z i1 hR0 hk9 H locs ls hP hD hS hl
      have hI := bk_i hfl hj1 hj2 hh1 hh2 hR0
      have hIc := hI
      obtain ⟨q1, q2, q3, q4, q5, q6, q7, q8, q9, q10, q11, q12, q13⟩ := hIc
      have cm0 : capR x.jN x.jsize 0 = x.jN := rfl
      have cm00 : capR x.hN x.hsize 0 = x.hN := rfl
      have cm1 := capR_m x.jN x.jsize i1
      have cm2 := capR_m x.hN x.hsize i1
      have cm5 := capR_m x.jN x.jsize (Nat.zero_le i)
      have cm6 := capR_m x.hN x.hsize (Nat.zero_le i)
      have hall : z.may w (tmB x i) = true ∧ z.room 1 = true := by rcases Nat.lt_or_ge i k with h9 | h9; exact ⟨(hgo i z h9 hR0).1, (hgo i z h9 hR0).2.1⟩; (have e9 : k = i := (by omega); rw [e9] at hst; exact ⟨(hst z hR0).1, (hst z hR0).2.1⟩)
      obtain ⟨hmy, hrm⟩ := hall
      have hI2 := bkI_s (ja := fun _ => 0) (pa := fun _ => 0) (w := w) (a := tmB x i) (b := vlB x i) hI hmy
      have ej := hI2.2.1
      have eh := hI2.2.2
      have cs1 := capR_s x.jN x.jsize i
      have cs2 := capR_s x.hN x.hsize i
      refine lv_iload_n hx hb d_V_bulk_24 rfl (lv_at hl 0 rfl) ?_
      refine lv_iload_n hx hb d_V_bulk_25 rfl (lv_at hl 1 rfl) ?_
      refine lv_icmp_ge hx hb d_V_bulk_26 (tgt := 86) rfl (fun g5 => ?_) (fun g5 => ?_)
      · have g5 := (nI_leI (a := x.tapeLength / 16) (b := i) (by omega) (by omega)).mp g5; exfalso; omega
      have g5 := mt (nI_leI (a := x.tapeLength / 16) (b := i) (by omega) (by omega)).mpr g5
      refine lv_aload_n hx hb d_V_bulk_29 rfl (lv_at hl 3 rfl) ?_
      refine lv_iload_n hx hb d_V_bulk_30 rfl (lv_at hl 0 rfl) ?_
      refine lv_bipush (v := 16) hx hb d_V_bulk_31 (by decide) ?_
      refine lv_imul hx hb d_V_bulk_33 (tpi (y := nI (i * 16)) (pk_mul (i) (16)) ?_)
      refine jkL (wr := []) (rnV (As := [.int (nI (i * 16))]) (rest := []) hx hb hml hown hE hK (hN _ _ hS) hP hD (v_longOnTape l D dA H.size h ad z (i * 16) (show (i * 16) + 8 ≤ z.tpN from by omega) (show z.tpN ≤ 131072 from by omega)) (q0 := 0) rfl rfl w1747 w1746 w1748 w1749 w277 rfl rfl ⟨⟨by decide, by decide⟩, rfl⟩ ⟨(Nat.le_of_ble_eq_true rfl), (Nat.le_of_ble_eq_true rfl)⟩ rfl hl.1 rfl (Nat.le_of_ble_eq_true rfl) d_V_bulk_34 ⟨(show 6 * (z.jN - x.jN) + 3 * (z.hN - x.hN) + 0 ≤ 6 * (capR x.jN x.jsize k - x.jN) + 3 * (capR x.hN x.hsize k - x.hN) + 1 by omega), (show 12 * (z.jN - x.jN) + 6 * (z.hN - x.hN) + 0 ≤ 12 * (capR x.jN x.jsize k - x.jN) + 6 * (capR x.hN x.hsize k - x.hN) + 6 by omega)⟩) hP hD hS hA (fun r6 u7 H locs hp9 hP hD hS => ?_)
      have hP : va_P D vwCl (VW dA h ad z) H := hP
      have hD : va_D A (VW dA h ad z) := hD
      replace hp9 : numB z.tape (i * 16) 8 = r6 := Eq.symm hp9
      subst hp9
      refine tpl (y := tmB x i) (by unfold tmB; rw [q1]) ?_
      refine lv_lstore hx hb d_V_bulk_37 hl (by decide) rfl (fun ls hl => ?_)
      have hl : lv_has ls 6 [(4, .long (tmB x i)), (3, .int (nI i)), (2, .int (nI (x.tapeLength / 16))), (1, .int (nI w)), (0, .ref h)] := hl
      refine lv_aload_n hx hb d_V_bulk_39 rfl (lv_at hl 4 rfl) ?_
      refine lv_iload_n hx hb d_V_bulk_40 rfl (lv_at hl 3 rfl) ?_
      refine lv_lload hx hb d_V_bulk_41 (lv_at hl 0 rfl) ?_
      refine jkI (wr := []) (rnV (As := [.int (nI w), .long (tmB x i)]) (rest := []) hx hb hml hown hE hK (hN _ _ hS) hP hD (v_mayCome l D dA H.size h ad z w (tmB x i) (show w < 256 from by omega)) (q0 := 0) rfl rfl w1159 w1158 w1160 w1161 w277 rfl rfl ⟨⟨by decide, by decide⟩, rfl⟩ ⟨(Nat.le_of_ble_eq_true rfl), (Nat.le_of_ble_eq_true rfl)⟩ rfl hl.1 rfl (Nat.le_of_ble_eq_true rfl) d_V_bulk_43 ⟨(show 6 * (z.jN - x.jN) + 3 * (z.hN - x.hN) + 0 + 0 ≤ 6 * (capR x.jN x.jsize k - x.jN) + 3 * (capR x.hN x.hsize k - x.hN) + 1 by omega), (show 12 * (z.jN - x.jN) + 6 * (z.hN - x.hN) + 0 + 0 ≤ 12 * (capR x.jN x.jsize k - x.jN) + 6 * (capR x.hN x.hsize k - x.hN) + 6 by omega)⟩) hP hD hS hA (fun r8 u9 H locs hp9 hP hD hS => ?_)
      have hP : va_P D vwCl (VW dA h ad z) H := hP
      have hD : va_D A (VW dA h ad z) := hD
      replace hp9 : bI (z.may w (tmB x i)) = r8 := Eq.symm hp9
      subst hp9
      refine lv_if_eq hx hb d_V_bulk_46 (tgt := 60) rfl (fun h9 => absurd h9 (by rw [hmy]; decide)) (fun _ => ?_)
      refine lv_aload_n hx hb d_V_bulk_49 rfl (lv_at hl 4 rfl) ?_
      refine gF (v := .ref (ad 0)) hx hb hown hE hK hP 0 rfl rfl layV 8 (by decide) w312 rfl d_V_bulk_50 ?_
      refine lv_iconst (v := 1) hx hb d_V_bulk_53 (by decide) ?_
      refine jkI (wr := []) (rnV (As := [.int 1]) (rest := []) hx hb hml hown hE hK (hN _ _ hS) hP hD (v_jhasRoom l D dA H.size h ad z 1 (show z.jfill + 1 < 2 ^ 31 from by omega) (show z.jblock + 1 < 2 ^ 31 from by omega) (show z.jlimit < 2 ^ 31 from by omega)) (q0 := 2) rfl rfl w1163 w1162 w1164 w1165 w556 rfl rfl ⟨⟨by decide, by decide⟩, rfl⟩ ⟨(Nat.le_of_ble_eq_true rfl), (Nat.le_of_ble_eq_true rfl)⟩ rfl hl.1 rfl (Nat.le_of_ble_eq_true rfl) d_V_bulk_54 ⟨(show 6 * (z.jN - x.jN) + 3 * (z.hN - x.hN) + 0 + 0 + 0 ≤ 6 * (capR x.jN x.jsize k - x.jN) + 3 * (capR x.hN x.hsize k - x.hN) + 1 by omega), (show 12 * (z.jN - x.jN) + 6 * (z.hN - x.hN) + 0 + 0 + 0 ≤ 12 * (capR x.jN x.jsize k - x.jN) + 6 * (capR x.hN x.hsize k - x.hN) + 6 by omega)⟩) hP hD hS hA (fun r10 u11 H locs hp9 hP hD hS => ?_)
      have hP : va_P D vwCl (VW dA h ad z) H := hP
      have hD : va_D A (VW dA h ad z) := hD
      replace hp9 : bI (z.room 1) = r10 := Eq.symm hp9
      subst hp9
      refine lv_if_ne hx hb d_V_bulk_57 (tgt := 62) rfl (fun _ => ?_) (fun h9 => absurd h9 (by rw [hrm]; decide))
      rcases (show i < k ∨ k = i by omega) with hik | heq
      · refine lv_aload_n hx hb d_V_bulk_62 rfl (lv_at hl 4 rfl) ?_
        have cm3 := capR_m x.jN x.jsize (show i + 1 ≤ k by omega)
        have cm4 := capR_m x.hN x.hsize (show i + 1 ≤ k by omega)
        refine lv_iload_n hx hb d_V_bulk_63 rfl (lv_at hl 3 rfl) ?_
        refine lv_lload hx hb d_V_bulk_64 (lv_at hl 0 rfl) ?_
        refine lv_aload_n hx hb d_V_bulk_66 rfl (lv_at hl 4 rfl) ?_
        refine lv_iload_n hx hb d_V_bulk_67 rfl (lv_at hl 1 rfl) ?_
        refine lv_bipush (v := 16) hx hb d_V_bulk_68 (by decide) ?_
        refine lv_imul hx hb d_V_bulk_70 (tpi (y := nI (i * 16)) (pk_mul (i) (16)) ?_)
        refine lv_bipush (v := 8) hx hb d_V_bulk_71 (by decide) ?_
        refine lv_iadd hx hb d_V_bulk_73 (tpi (y := nI ((i * 16) + 8)) (nI_add (i * 16) (8)) ?_)
        refine jkL (wr := []) (rnV (As := [.int (nI ((i * 16) + 8))]) (rest := [.long (tmB x i), .int (nI w), .ref h]) hx hb hml hown hE hK (hN _ _ hS) hP hD (v_longOnTape l D dA H.size h ad z ((i * 16) + 8) (show ((i * 16) + 8) + 8 ≤ z.tpN from by omega) (show z.tpN ≤ 131072 from by omega)) (q0 := 0) rfl rfl w1747 w1746 w1748 w1749 w277 rfl rfl ⟨⟨by decide, by decide⟩, rfl⟩ ⟨(Nat.le_of_ble_eq_true rfl), (Nat.le_of_ble_eq_true rfl)⟩ rfl hl.1 rfl (Nat.le_of_ble_eq_true rfl) d_V_bulk_74 ⟨(show 6 * (z.jN - x.jN) + 3 * (z.hN - x.hN) + 0 + 0 + 0 + 0 ≤ 6 * (capR x.jN x.jsize k - x.jN) + 3 * (capR x.hN x.hsize k - x.hN) + 1 by omega), (show 12 * (z.jN - x.jN) + 6 * (z.hN - x.hN) + 0 + 0 + 0 + 0 ≤ 12 * (capR x.jN x.jsize k - x.jN) + 6 * (capR x.hN x.hsize k - x.hN) + 6 by omega)⟩) hP hD hS hA (fun r12 u13 H locs hp9 hP hD hS => ?_)
        have hP : va_P D vwCl (VW dA h ad z) H := hP
        have hD : va_D A (VW dA h ad z) := hD
        replace hp9 : numB z.tape ((i * 16) + 8) 8 = r12 := Eq.symm hp9
        subst hp9
        refine tpl (y := vlB x i) (by unfold vlB; rw [q1]) ?_
        refine jkV (wr := []) (rnV (As := [.int (nI w), .long (tmB x i), .long (vlB x i)]) (rest := []) hx hb hml hown hE hK (hN _ _ hS) hP hD (v_addPoint l D dA H.size h ad z w (tmB x i) (vlB x i) q8 q9 (show z.jN ≤ 65536 from by omega) (show z.jfill + 1 < 2 ^ 31 from by omega) ((hgo i z hik hR0).2.2) (show w < 256 from by omega) q12 q13 (show z.hN ≤ 32768 from by omega)) (q0 := 0) rfl rfl w1166 w1167 w1168 w1169 w277 rfl rfl ⟨⟨by decide, by decide⟩, rfl⟩ ⟨(Nat.le_of_ble_eq_true rfl), (Nat.le_of_ble_eq_true rfl)⟩ rfl hl.1 rfl (Nat.le_of_ble_eq_true rfl) d_V_bulk_77 ⟨(show 6 * (z.jN - x.jN) + 3 * (z.hN - x.hN) + 0 + 0 + 0 + 0 + (6 * (z.jcap - z.jN) + 3 * (z.cmcap (tmB x i) - z.hN)) ≤ 6 * (capR x.jN x.jsize k - x.jN) + 3 * (capR x.hN x.hsize k - x.hN) + 1 by omega), (show 12 * (z.jN - x.jN) + 6 * (z.hN - x.hN) + 0 + 0 + 0 + 0 + (12 * (z.jcap - z.jN) + 6 * (z.cmcap (tmB x i) - z.hN)) ≤ 12 * (capR x.jN x.jsize k - x.jN) + 6 * (capR x.hN x.hsize k - x.hN) + 6 by omega)⟩) hP hD hS hA (fun u15 H locs hp9 hP hD hS => ?_)
        obtain ⟨y16, h9u⟩ : ∃ z9, z9 = u15 := ⟨_, rfl⟩
        subst h9u
        have hP : va_P D vwCl (VW dA h ad y16) H := hP
        have hD : va_D A (VW dA h ad y16) := hD
        have f_e_17 := hp9
        obtain ⟨ja, pa, e9⟩ := f_e_17
        have hR1 : bkR x w (i + 1) y16 := ⟨z, ja, pa, hR0, hmy, e9⟩
        have hI1 := bk_i hfl hj1 hj2 hh1 hh2 hR1
        obtain ⟨u1, u2, u3, u4, u5, u6, u7, u8, u9, u10, u11, u12, u13⟩ := hI1
        refine lv_iinc (k := 1) (v := nI (i + 1)) hx hb d_V_bulk_80 hl rfl (iincN (i) 1 1 (by decide)) (by decide) rfl (fun ls hl => ?_)
        have hl : lv_has ls 6 [(3, .int (nI (i + 1))), (4, .long (tmB x i)), (2, .int (nI (x.tapeLength / 16))), (1, .int (nI w)), (0, .ref h)] := hl
        refine lv_goto hx hb d_V_bulk_83 (tgt := 24) rfl ?_
        refine W.widen (k := 6 * (y16.jN - x.jN) + 3 * (y16.hN - x.hN)) (n := 12 * (y16.jN - x.jN) + 6 * (y16.hN - x.hN)) (show 6 * (z.jN - x.jN) + 3 * (z.hN - x.hN) + 0 + 0 + 0 + 0 + (6 * (z.jcap - z.jN) + 3 * (z.cmcap (tmB x i) - z.hN)) ≤ 6 * (y16.jN - x.jN) + 3 * (y16.hN - x.hN) from by omega) (show 12 * (z.jN - x.jN) + 6 * (z.hN - x.hN) + 0 + 0 + 0 + 0 + (12 * (z.jcap - z.jN) + 6 * (z.cmcap (tmB x i) - z.hN)) ≤ 12 * (y16.jN - x.jN) + 6 * (y16.hN - x.hN) from by omega) ?_
        exact ih24 _ (by omega) (i + 1) y16 (by omega) hR1 rfl H _ ls hP hD hS (lv_sub hl [0, 2, 3, 4] rfl)
      · refine lv_aload_n hx hb d_V_bulk_62 rfl (lv_at hl 4 rfl) ?_
        have hs9 := hst z (by rw [heq]; exact hR0)
        refine lv_iload_n hx hb d_V_bulk_63 rfl (lv_at hl 3 rfl) ?_
        refine lv_lload hx hb d_V_bulk_64 (lv_at hl 0 rfl) ?_
        refine lv_aload_n hx hb d_V_bulk_66 rfl (lv_at hl 4 rfl) ?_
        refine lv_iload_n hx hb d_V_bulk_67 rfl (lv_at hl 1 rfl) ?_
        refine lv_bipush (v := 16) hx hb d_V_bulk_68 (by decide) ?_
        refine lv_imul hx hb d_V_bulk_70 (tpi (y := nI (i * 16)) (pk_mul (i) (16)) ?_)
        refine lv_bipush (v := 8) hx hb d_V_bulk_71 (by decide) ?_
        refine lv_iadd hx hb d_V_bulk_73 (tpi (y := nI ((i * 16) + 8)) (nI_add (i * 16) (8)) ?_)
        refine jkL (wr := []) (rnV (As := [.int (nI ((i * 16) + 8))]) (rest := [.long (tmB x i), .int (nI w), .ref h]) hx hb hml hown hE hK (hN _ _ hS) hP hD (v_longOnTape l D dA H.size h ad z ((i * 16) + 8) (show ((i * 16) + 8) + 8 ≤ z.tpN from by omega) (show z.tpN ≤ 131072 from by omega)) (q0 := 0) rfl rfl w1747 w1746 w1748 w1749 w277 rfl rfl ⟨⟨by decide, by decide⟩, rfl⟩ ⟨(Nat.le_of_ble_eq_true rfl), (Nat.le_of_ble_eq_true rfl)⟩ rfl hl.1 rfl (Nat.le_of_ble_eq_true rfl) d_V_bulk_74 ⟨(show 6 * (z.jN - x.jN) + 3 * (z.hN - x.hN) + 0 + 0 + 0 + 0 ≤ 6 * (capR x.jN x.jsize k - x.jN) + 3 * (capR x.hN x.hsize k - x.hN) + 1 by omega), (show 12 * (z.jN - x.jN) + 6 * (z.hN - x.hN) + 0 + 0 + 0 + 0 ≤ 12 * (capR x.jN x.jsize k - x.jN) + 6 * (capR x.hN x.hsize k - x.hN) + 6 by omega)⟩) hP hD hS hA (fun r18 u19 H locs hp9 hP hD hS => ?_)
        have hP : va_P D vwCl (VW dA h ad z) H := hP
        have hD : va_D A (VW dA h ad z) := hD
        replace hp9 : numB z.tape ((i * 16) + 8) 8 = r18 := Eq.symm hp9
        subst hp9
        refine tpl (y := vlB x i) (by unfold vlB; rw [q1]) ?_
        refine xfV (w1 := VW dA h ad (VS.s_cutLeft (VS.s_powered z false) (-1))) (As := [.int (nI w), .long (tmB x i), .long (vlB x i)]) (rest := []) hx hb hml hown hE hK (hN _ _ hS) (v_addPoint_x l htr D dA H.size h ad z w (tmB x i) (vlB x i) (show z.jfill + 1 < 2 ^ 31 from by omega) hs9.2.2.1 hs9.2.2.2.1 hs9.2.2.2.2) (q0 := 0) rfl rfl w1166 w1167 w1168 w1169 w277 rfl rfl ⟨⟨by decide, by decide⟩, rfl⟩ ⟨(Nat.le_of_ble_eq_true rfl), (Nat.le_of_ble_eq_true rfl)⟩ rfl hl.1 rfl (Nat.le_of_ble_eq_true rfl) d_V_bulk_77 ⟨(show 6 * (z.jN - x.jN) + 3 * (z.hN - x.hN) + 0 + 0 + 0 + 0 + 1 ≤ 6 * (capR x.jN x.jsize k - x.jN) + 3 * (capR x.hN x.hsize k - x.hN) + 1 by omega), (show 12 * (z.jN - x.jN) + 6 * (z.hN - x.hN) + 0 + 0 + 0 + 0 + 6 ≤ 12 * (capR x.jN x.jsize k - x.jN) + 6 * (capR x.hN x.hsize k - x.hN) + 6 by omega)⟩ hP hD hS hA (fun xa20 ce H locs hP hD hS hce hcv hcl => ?_)
        have hP : va_P D vwCl (VW dA h ad (VS.s_cutLeft (VS.s_powered z false) (-1))) H := hP
        have hD : va_D A (VW dA h ad (VS.s_cutLeft (VS.s_powered z false) (-1))) := hD
        exact xOut hno hlk hce hcv hcl (fun t ht => xkE (VS.s_cutLeft (VS.s_powered z false) (-1)) ⟨z, by rw [heq]; exact hR0, rfl⟩ hP hD hS t (by rw [ht]; exact Nat.le_refl _) (fun q _ => by rw [ht])) hS.2.2 (show 6 * (z.jN - x.jN) + 3 * (z.hN - x.hN) + 0 + 0 + 0 + 0 + 1 ≤ 6 * (capR x.jN x.jsize k - x.jN) + 3 * (capR x.hN x.hsize k - x.hN) + 1 by omega) (show 12 * (z.jN - x.jN) + 6 * (z.hN - x.hN) + 0 + 0 + 0 + 0 + 6 ≤ 12 * (capR x.jN x.jsize k - x.jN) + 6 * (capR x.hN x.hsize k - x.hN) + 6 by omega)
  refine W.widen (k := 6 * ((VS.s_tapeLength x 0).jN - x.jN) + 3 * ((VS.s_tapeLength x 0).hN - x.hN)) (n := 12 * ((VS.s_tapeLength x 0).jN - x.jN) + 6 * ((VS.s_tapeLength x 0).hN - x.hN)) (show 0 + 0 + 0 ≤ 6 * ((VS.s_tapeLength x 0).jN - x.jN) + 3 * ((VS.s_tapeLength x 0).hN - x.hN) from by omega) (show 0 + 0 + 0 ≤ 12 * ((VS.s_tapeLength x 0).jN - x.jN) + 6 * ((VS.s_tapeLength x 0).hN - x.hN) from by omega) ?_
  exact L24 _ 0 (VS.s_tapeLength x 0) (Nat.zero_le _) rfl rfl H _ ls hP hD hS (lv_sub hl [0, 1, 3, 2] rfl)
