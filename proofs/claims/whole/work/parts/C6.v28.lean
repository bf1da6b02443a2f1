/-- only the journal differs, and what was written -/
def VS.jkS (x y : VS) : VS := VS.s_jch (VS.s_jfill (VS.s_jblock (VS.s_junits (VS.s_jkept (VS.s_jsize (VS.s_jS (VS.s_jF (VS.s_jB (VS.s_jU (VS.s_jO (VS.s_jK (VS.s_jN (VS.s_jA (VS.s_writes (VS.s_cutLeft x y.cutLeft) y.writes) y.jA) y.jN) y.jK) y.jO) y.jU) y.jB) y.jF) y.jS) y.jsize) y.jkept) y.junits) y.jblock) y.jfill) y.jch
def VS.jk (x y : VS) : Prop := y = x.jkS y
theorem wrF_jk (x : VS) (ja : Nat → Nat) (kd w n : Nat) (a b : Int64) : x.jk (x.wrF ja kd w n a b) := by
  unfold VS.jk VS.wrF VS.wrB VS.wjS VS.jadF
  repeat' split
  all_goals rfl
theorem wjS_jk (x : VS) : x.jk x.wjS := by
  unfold VS.jk VS.wjS
  split
  all_goals rfl
def VS.lg1 (x : VS) (w : Nat) (a b : Int64) : VS := VS.s_nsc (VS.s_nsT (VS.s_nsF (VS.s_nsO (VS.s_hsize (VS.s_hV (VS.s_hT (VS.s_hO x (tdT (x.hWn w a b) x.hO x.hsize)) (tdT (x.hWn w a b) x.hT x.hsize)) (tdT (x.hWn w a b) x.hV x.hsize)) (cnt x.hsize (x.hWn w a b))) (va_up x.nsO x.nsc w)) (va_up x.nsF x.nsc (maxL a x.nhor))) (va_up x.nsT x.nsc (minL b (x.nlast w)))) (x.nsc + 1)
set_option maxHeartbeats 4000000 in
set_option maxRecDepth 100000 in
theorem v_delete_1 (l : Launch) (htr : l.stackTraces = false) (D : va_G) (dA : Nat → ClassId) (sz : Nat) (h : Nat) (ad : Nat → Nat) (x : VS) (n : Int32) (a : Int64) (b : Int64) (ho : x.powered = false) : mX l ⟨"SeriesVault", "delete", "(IJJ)I"⟩ [Cond.code ⟨"SeriesVault", "delete", "(IJJ)I"⟩ prog_1_method_34_code 8 (some FieldType.int)] { frames := 7, cells := 1, slots := 6, locals := 101 } (pC D dA [.ref h, .int n, .long a, .long b] (VW dA h ad x) sz) "java/lang/IllegalStateException" (fun st9 t9 => va_F (va_A (VW dA h ad x) sz) st9 t9 ∧ bW D (va_A (VW dA h ad x) sz) (VW dA h ad x) t9) 1 6 (va_A (VW dA h ad x) sz) := by
  refine mkX (y := ⟨"SeriesVault", "delete", "(IJJ)I"⟩) (cc := prog_1_method_34_code) (maxL := 8) (av := [.ref h, .int n, .long a, .long b]) (ws := VW dA h ad x) (sz := sz) (B := fun A => (fun st9 t9 => va_F A st9 t9 ∧ bW D A (VW dA h ad x) t9)) (by decide) (Nat.le_of_ble_eq_true rfl) ?_
  intro A p e s m below meth c ls hsz hno hB
  obtain ⟨hx, hb, hr, hml, hown, hin, hlk, hE, hK, hP, hD, hS, hA, hN, hl⟩ := hB
  have hown : s.vm.findClass "SeriesVault" = some m.cls := hown
  have hl : lv_has ls 8 [(0, .ref h), (1, .int n), (2, .long a), (4, .long b)] := hl
  obtain ⟨H, hH⟩ : ∃ z, z = s.heap := ⟨_, rfl⟩
  have hP : va_P D vwCl (VW dA h ad x) H := by rw [hH]; exact hP
  have hS : va_S A s.heap H [] := by rw [hH]; exact hS
  rw [← hH]
  refine lv_aload_n hx hb d_V_delete_0 rfl (lv_at hl 0 rfl) ?_
  refine xfV (w1 := VW dA h ad x) (As := []) (rest := []) hx hb hml hown hE hK (hN _ _ hS) (v_checkPower_x l htr D dA H.size h ad x ho) (q0 := 0) rfl rfl w278 w276 w279 w280 w277 rfl rfl ⟨⟨by decide, by decide⟩, rfl⟩ ⟨(Nat.le_of_ble_eq_true rfl), (Nat.le_of_ble_eq_true rfl)⟩ rfl hl.1 rfl (Nat.le_of_ble_eq_true rfl) d_V_delete_1 ⟨(Nat.le_of_ble_eq_true rfl), (Nat.le_of_ble_eq_true rfl)⟩ hP hD hS hA (fun xa1 ce H locs hP hD hS hce hcv hcl => ?_)
  exact xOut hno hlk hce hcv hcl (fun t ht => xEndV hP hD hS t (by rw [ht]; exact Nat.le_refl _) (fun q _ => by rw [ht])) hS.2.2 (Nat.le_of_ble_eq_true rfl) (Nat.le_of_ble_eq_true rfl)
set_option maxHeartbeats 4000000 in
set_option maxRecDepth 100000 in
theorem v_delete_2 (l : Launch) (htr : l.stackTraces = false) (D : va_G) (dA : Nat → ClassId) (sz : Nat) (h : Nat) (ad : Nat → Nat) (x : VS) (n : Int32) (a : Int64) (b : Int64) (ho : x.powered = true) (h0 : n < 0 ∨ nI x.nser ≤ n) : mX l ⟨"SeriesVault", "delete", "(IJJ)I"⟩ [Cond.code ⟨"SeriesVault", "delete", "(IJJ)I"⟩ prog_1_method_34_code 8 (some FieldType.int)] { frames := 7, cells := 1, slots := 6, locals := 102 } (pC D dA [.ref h, .int n, .long a, .long b] (VW dA h ad x) sz) "java/lang/IndexOutOfBoundsException" (fun st9 t9 => va_F (va_A (VW dA h ad x) sz) st9 t9 ∧ bW D (va_A (VW dA h ad x) sz) (VW dA h ad x) t9) 1 6 (va_A (VW dA h ad x) sz) := by
  refine mkX (y := ⟨"SeriesVault", "delete", "(IJJ)I"⟩) (cc := prog_1_method_34_code) (maxL := 8) (av := [.ref h, .int n, .long a, .long b]) (ws := VW dA h ad x) (sz := sz) (B := fun A => (fun st9 t9 => va_F A st9 t9 ∧ bW D A (VW dA h ad x) t9)) (by decide) (Nat.le_of_ble_eq_true rfl) ?_
  intro A p e s m below meth c ls hsz hno hB
  obtain ⟨hx, hb, hr, hml, hown, hin, hlk, hE, hK, hP, hD, hS, hA, hN, hl⟩ := hB
  have hown : s.vm.findClass "SeriesVault" = some m.cls := hown
  have hl : lv_has ls 8 [(0, .ref h), (1, .int n), (2, .long a), (4, .long b)] := hl
  obtain ⟨H, hH⟩ : ∃ z, z = s.heap := ⟨_, rfl⟩
  have hP : va_P D vwCl (VW dA h ad x) H := by rw [hH]; exact hP
  have hS : va_S A s.heap H [] := by rw [hH]; exact hS
  rw [← hH]
  refine lv_aload_n hx hb d_V_delete_0 rfl (lv_at hl 0 rfl) ?_
  refine jfV (rnV (As := []) (rest := []) hx hb hml hown hE hK (hN _ _ hS) hP hD (v_checkPower l D dA H.size h ad x ho) (q0 := 0) rfl rfl w278 w276 w279 w280 w277 rfl rfl ⟨⟨by decide, by decide⟩, rfl⟩ ⟨(Nat.le_of_ble_eq_true rfl), (Nat.le_of_ble_eq_true rfl)⟩ rfl hl.1 rfl (Nat.le_of_ble_eq_true rfl) d_V_delete_1 ⟨(Nat.le_of_ble_eq_true rfl), (Nat.le_of_ble_eq_true rfl)⟩) hP hD hS hA (fun u2 H locs hp9 hP hD hS => ?_)
  have hP : va_P D vwCl (VW dA h ad x) H := hP
  have hD : va_D A (VW dA h ad x) := hD
  refine lv_aload_n hx hb d_V_delete_4 rfl (lv_at hl 0 rfl) ?_
  refine lv_iload_n hx hb d_V_delete_5 rfl (lv_at hl 1 rfl) ?_
  refine xfV (w1 := VW dA h ad x) (As := [.int n]) (rest := []) hx hb hml hown hE hK (hN _ _ hS) (v_checkSeries_x l htr D dA H.size h ad x n h0) (q0 := 0) rfl rfl w300 w299 w301 w302 w277 rfl rfl ⟨⟨by decide, by decide⟩, rfl⟩ ⟨(Nat.le_of_ble_eq_true rfl), (Nat.le_of_ble_eq_true rfl)⟩ rfl hl.1 rfl (Nat.le_of_ble_eq_true rfl) d_V_delete_6 ⟨(Nat.le_of_ble_eq_true rfl), (Nat.le_of_ble_eq_true rfl)⟩ hP hD hS hA (fun xa3 ce H locs hP hD hS hce hcv hcl => ?_)
  exact xOut hno hlk hce hcv hcl (fun t ht => xEndV hP hD hS t (by rw [ht]; exact Nat.le_refl _) (fun q _ => by rw [ht])) hS.2.2 (Nat.le_of_ble_eq_true rfl) (Nat.le_of_ble_eq_true rfl)
theorem d_V_delete_9 : decode prog_1_method_34_code 9 = .ok (.lload_n 2, 1) := by decide +kernel
theorem d_V_delete_10 : decode prog_1_method_34_code 10 = .ok (.lload 4, 2) := by decide +kernel
theorem d_V_delete_12 : decode prog_1_method_34_code 12 = .ok (.lcmp, 1) := by decide +kernel
theorem d_V_delete_13 : decode prog_1_method_34_code 13 = .ok (.ifCond .le 11, 3) := by decide +kernel
theorem d_V_delete_16 : decode prog_1_method_34_code 16 = .ok (.new 89, 3) := by decide +kernel
theorem d_V_delete_19 : decode prog_1_method_34_code 19 = .ok (.dup, 1) := by decide +kernel
theorem d_V_delete_20 : decode prog_1_method_34_code 20 = .ok (.invokespecial 91, 3) := by decide +kernel
theorem d_V_delete_23 : decode prog_1_method_34_code 23 = .ok (.athrow, 1) := by decide +kernel
set_option maxHeartbeats 4000000 in
set_option maxRecDepth 100000 in
theorem v_delete_3 (l : Launch) (htr : l.stackTraces = false) (D : va_G) (dA : Nat → ClassId) (sz : Nat) (h : Nat) (ad : Nat → Nat) (x : VS) (w : Nat) (a : Int64) (b : Int64) (ho : x.powered = true) (hw1 : w < x.nser) (hw2 : x.nser ≤ 256) (hab : b < a) : mX l ⟨"SeriesVault", "delete", "(IJJ)I"⟩ [Cond.code ⟨"SeriesVault", "delete", "(IJJ)I"⟩ prog_1_method_34_code 8 (some FieldType.int)] { frames := 6, cells := 1, slots := 6, locals := 81 } (pC D dA [.ref h, .int (nI w), .long a, .long b] (VW dA h ad x) sz) "java/lang/IllegalArgumentException" (fun st9 t9 => va_F (va_A (VW dA h ad x) sz) st9 t9 ∧ bW D (va_A (VW dA h ad x) sz) (VW dA h ad x) t9) 1 6 (va_A (VW dA h ad x) sz) := by
  refine mkX (y := ⟨"SeriesVault", "delete", "(IJJ)I"⟩) (cc := prog_1_method_34_code) (maxL := 8) (av := [.ref h, .int (nI w), .long a, .long b]) (ws := VW dA h ad x) (sz := sz) (B := fun A => (fun st9 t9 => va_F A st9 t9 ∧ bW D A (VW dA h ad x) t9)) (by decide) (Nat.le_of_ble_eq_true rfl) ?_
  intro A p e s m below meth c ls hsz hno hB
  obtain ⟨hx, hb, hr, hml, hown, hin, hlk, hE, hK, hP, hD, hS, hA, hN, hl⟩ := hB
  have hown : s.vm.findClass "SeriesVault" = some m.cls := hown
  have hl : lv_has ls 8 [(0, .ref h), (1, .int (nI w)), (2, .long a), (4, .long b)] := hl
  obtain ⟨H, hH⟩ : ∃ z, z = s.heap := ⟨_, rfl⟩
  have hP : va_P D vwCl (VW dA h ad x) H := by rw [hH]; exact hP
  have hS : va_S A s.heap H [] := by rw [hH]; exact hS
  rw [← hH]
  refine lv_aload_n hx hb d_V_delete_0 rfl (lv_at hl 0 rfl) ?_
  refine jfV (rnV (As := []) (rest := []) hx hb hml hown hE hK (hN _ _ hS) hP hD (v_checkPower l D dA H.size h ad x ho) (q0 := 0) rfl rfl w278 w276 w279 w280 w277 rfl rfl ⟨⟨by decide, by decide⟩, rfl⟩ ⟨(Nat.le_of_ble_eq_true rfl), (Nat.le_of_ble_eq_true rfl)⟩ rfl hl.1 rfl (Nat.le_of_ble_eq_true rfl) d_V_delete_1 ⟨(Nat.le_of_ble_eq_true rfl), (Nat.le_of_ble_eq_true rfl)⟩) hP hD hS hA (fun u2 H locs hp9 hP hD hS => ?_)
  have hP : va_P D vwCl (VW dA h ad x) H := hP
  have hD : va_D A (VW dA h ad x) := hD
  refine lv_aload_n hx hb d_V_delete_4 rfl (lv_at hl 0 rfl) ?_
  refine lv_iload_n hx hb d_V_delete_5 rfl (lv_at hl 1 rfl) ?_
  refine jfV (rnV (As := [.int (nI w)]) (rest := []) hx hb hml hown hE hK (hN _ _ hS) hP hD (v_checkSeries l D dA H.size h ad x w (show w < x.nser from by omega) (show x.nser ≤ 256 from by omega)) (q0 := 0) rfl rfl w300 w299 w301 w302 w277 rfl rfl ⟨⟨by decide, by decide⟩, rfl⟩ ⟨(Nat.le_of_ble_eq_true rfl), (Nat.le_of_ble_eq_true rfl)⟩ rfl hl.1 rfl (Nat.le_of_ble_eq_true rfl) d_V_delete_6 ⟨(Nat.le_of_ble_eq_true rfl), (Nat.le_of_ble_eq_true rfl)⟩) hP hD hS hA (fun u4 H locs hp9 hP hD hS => ?_)
  have hP : va_P D vwCl (VW dA h ad x) H := hP
  have hD : va_D A (VW dA h ad x) := hD
  refine lv_lload_n hx hb d_V_delete_9 rfl (lv_at hl 2 rfl) ?_
  refine lv_lload hx hb d_V_delete_10 (lv_at hl 3 rfl) ?_
  refine W.lcmp hx hb d_V_delete_12 ?_
  refine lv_if_le hx hb d_V_delete_13 (tgt := 24) rfl (fun h9 => absurd h9 (mt (lg_cmp_le _ _).mp (Int64.not_le.mpr hab))) (fun _ => ?_)
  exact xNew (E := "java/lang/IllegalArgumentException") (names := ["java/lang/RuntimeException", "java/lang/Exception"]) hx hb htr hown (by decide) (by decide) hE w273 w274 (fun U hU => at_V_IAE hU) (hN _ _ hS) (hl.1.trans hml.symm) d_V_delete_16 d_V_delete_19 d_V_delete_20 d_V_delete_23 hno (by decide) (Nat.le_of_ble_eq_true rfl) (Nat.le_of_ble_eq_true rfl) (Nat.le_of_ble_eq_true rfl) hlk (fun t h1 h2 => xEndV hP hD hS t h1 h2) hS.2.2 (Nat.le_of_ble_eq_true rfl) (Nat.le_of_ble_eq_true rfl)
theorem d_V_delete_24 : decode prog_1_method_34_code 24 = .ok (.aload_n 0, 1) := by decide +kernel
theorem d_V_delete_25 : decode prog_1_method_34_code 25 = .ok (.getfield 33, 3) := by decide +kernel
theorem d_V_delete_28 : decode prog_1_method_34_code 28 = .ok (.iload_n 1, 1) := by decide +kernel
theorem d_V_delete_29 : decode prog_1_method_34_code 29 = .ok (.lload_n 2, 1) := by decide +kernel
theorem d_V_delete_30 : decode prog_1_method_34_code 30 = .ok (.lload 4, 2) := by decide +kernel
theorem d_V_delete_32 : decode prog_1_method_34_code 32 = .ok (.invokevirtual 278, 3) := by decide +kernel
theorem d_V_delete_35 : decode prog_1_method_34_code 35 = .ok (.istore 6, 2) := by decide +kernel
theorem d_V_delete_37 : decode prog_1_method_34_code 37 = .ok (.iload 6, 2) := by decide +kernel
theorem d_V_delete_39 : decode prog_1_method_34_code 39 = .ok (.aload_n 0, 1) := by decide +kernel
theorem d_V_delete_40 : decode prog_1_method_34_code 40 = .ok (.getfield 23, 3) := by decide +kernel
theorem d_V_delete_43 : decode prog_1_method_34_code 43 = .ok (.iload_n 1, 1) := by decide +kernel
theorem d_V_delete_44 : decode prog_1_method_34_code 44 = .ok (.lload_n 2, 1) := by decide +kernel
theorem d_V_delete_45 : decode prog_1_method_34_code 45 = .ok (.lload 4, 2) := by decide +kernel
theorem d_V_delete_47 : decode prog_1_method_34_code 47 = .ok (.invokevirtual 282, 3) := by decide +kernel
theorem d_V_delete_50 : decode prog_1_method_34_code 50 = .ok (.iadd, 1) := by decide +kernel
theorem d_V_delete_51 : decode prog_1_method_34_code 51 = .ok (.istore 7, 2) := by decide +kernel
theorem d_V_delete_53 : decode prog_1_method_34_code 53 = .ok (.iload 7, 2) := by decide +kernel
theorem d_V_delete_55 : decode prog_1_method_34_code 55 = .ok (.ifCond .ne 5, 3) := by decide +kernel
theorem d_V_delete_58 : decode prog_1_method_34_code 58 = .ok (.iconst 0, 1) := by decide +kernel
theorem d_V_delete_59 : decode prog_1_method_34_code 59 = .ok (.ireturn, 1) := by decide +kernel
theorem w1355 : Cond.methodLink "SeriesVault" 282 ⟨"SeriesVault$Points", "countWithin", "(IJJ)I"⟩ ∈ aW := aw_of (tb_5 (List.mem_of_getElem? (i := 197) rfl)) rfl
theorem w1356 : Cond.code ⟨"SeriesVault$Points", "countWithin", "(IJJ)I"⟩ prog_5_method_6_code 8 (some FieldType.int) ∈ aW := aw_of (tb_5 (List.mem_of_getElem? (i := 200) rfl)) rfl
theorem w1357 : Cond.instanceMethod ⟨"SeriesVault$Points", "countWithin", "(IJJ)I"⟩ ∈ aW := aw_of (tb_5 (List.mem_of_getElem? (i := 198) rfl)) rfl
theorem w1358 : Cond.selects "SeriesVault$Points" ⟨"SeriesVault$Points", "countWithin", "(IJJ)I"⟩ ⟨"SeriesVault$Points", "countWithin", "(IJJ)I"⟩ ∈ aW := aw_of (tb_5 (List.mem_of_getElem? (i := 199) rfl)) rfl
set_option maxHeartbeats 4000000 in
set_option maxRecDepth 100000 in
theorem v_delete_0 (l : Launch) (D : va_G) (dA : Nat → ClassId) (sz : Nat) (h : Nat) (ad : Nat → Nat) (x : VS) (PS : Nat → PT) (w : Nat) (a : Int64) (b : Int64) (ho : x.powered = true) (hw1 : w < x.nser) (hw2 : x.nser ≤ 256) (hab : a ≤ b) (hps : psOk dA x.nP x.npc x.pl PS) (hpn : x.npc ≤ 32) (h1 : x.nsc ≤ 64) (h7 : ∀ q : Nat, q < x.nsc → x.nsO q < 2 ^ 31) (h0 : x.hsize ≤ x.hN) (h9 : x.hN ≤ 65536) (hh7 : ∀ q : Nat, q < x.hsize → x.hO q < 2 ^ 31) (hz : sumN x.npc (x.soN PS w a b) + cnt x.hsize (x.hW w a b) = 0) : Met l ⟨"SeriesVault", "delete", "(IJJ)I"⟩ [Cond.code ⟨"SeriesVault", "delete", "(IJJ)I"⟩ prog_1_method_34_code 8 (some FieldType.int)] { frames := 5, cells := 0, slots := 0, locals := 103 } (pC D dA [.ref h, .int (nI w), .long a, .long b] (VW dA h ad x) sz) (va_Qi (fun (r9 : Int32) (u9 : Unit) => r9 = 0) (fun (u9 : Unit) t9 => bW D (va_A (VW dA h ad x) sz) (VW dA h ad x) t9) (va_A (VW dA h ad x) sz)) 0 0 (va_A (VW dA h ad x) sz) := by
  refine mkC (y := ⟨"SeriesVault", "delete", "(IJJ)I"⟩) (cc := prog_1_method_34_code) (maxL := 8) (av := [.ref h, .int (nI w), .long a, .long b]) (ws := VW dA h ad x) (sz := sz) (Qc := fun A => va_Qi (fun (r9 : Int32) (u9 : Unit) => r9 = 0) (fun (u9 : Unit) t9 => bW D A (VW dA h ad x) t9) A) (by decide) (Nat.le_of_ble_eq_true rfl) ?_
  intro A p e s m below meth c ls hsz hB
  obtain ⟨hx, hb, hr, hml, hown, hin, hlk, hE, hK, hP, hD, hS, hA, hN, hl⟩ := hB
  have hown : s.vm.findClass "SeriesVault" = some m.cls := hown
  have hl : lv_has ls 8 [(0, .ref h), (1, .int (nI w)), (2, .long a), (4, .long b)] := hl
  obtain ⟨H, hH⟩ : ∃ z, z = s.heap := ⟨_, rfl⟩
  have hP : va_P D vwCl (VW dA h ad x) H := by rw [hH]; exact hP
  have hS : va_S A s.heap H [] := by rw [hH]; exact hS
  rw [← hH]
  refine lv_aload_n hx hb d_V_delete_0 rfl (lv_at hl 0 rfl) ?_
  refine jfV (rnV (As := []) (rest := []) hx hb hml hown hE hK (hN _ _ hS) hP hD (v_checkPower l D dA H.size h ad x ho) (q0 := 0) rfl rfl w278 w276 w279 w280 w277 rfl rfl ⟨⟨by decide, by decide⟩, rfl⟩ ⟨(Nat.le_of_ble_eq_true rfl), (Nat.le_of_ble_eq_true rfl)⟩ rfl hl.1 rfl (Nat.le_of_ble_eq_true rfl) d_V_delete_1 ⟨(Nat.le_of_ble_eq_true rfl), (Nat.le_of_ble_eq_true rfl)⟩) hP hD hS hA (fun u2 H locs hp9 hP hD hS => ?_)
  have hP : va_P D vwCl (VW dA h ad x) H := hP
  have hD : va_D A (VW dA h ad x) := hD
  refine lv_aload_n hx hb d_V_delete_4 rfl (lv_at hl 0 rfl) ?_
  refine lv_iload_n hx hb d_V_delete_5 rfl (lv_at hl 1 rfl) ?_
  refine jfV (rnV (As := [.int (nI w)]) (rest := []) hx hb hml hown hE hK (hN _ _ hS) hP hD (v_checkSeries l D dA H.size h ad x w (show w < x.nser from by omega) (show x.nser ≤ 256 from by omega)) (q0 := 0) rfl rfl w300 w299 w301 w302 w277 rfl rfl ⟨⟨by decide, by decide⟩, rfl⟩ ⟨(Nat.le_of_ble_eq_true rfl), (Nat.le_of_ble_eq_true rfl)⟩ rfl hl.1 rfl (Nat.le_of_ble_eq_true rfl) d_V_delete_6 ⟨(Nat.le_of_ble_eq_true rfl), (Nat.le_of_ble_eq_true rfl)⟩) hP hD hS hA (fun u4 H locs hp9 hP hD hS => ?_)
  have hP : va_P D vwCl (VW dA h ad x) H := hP
  have hD : va_D A (VW dA h ad x) := hD
  refine lv_lload_n hx hb d_V_delete_9 rfl (lv_at hl 2 rfl) ?_
  refine lv_lload hx hb d_V_delete_10 (lv_at hl 3 rfl) ?_
  refine W.lcmp hx hb d_V_delete_12 ?_
  refine lv_if_le hx hb d_V_delete_13 (tgt := 24) rfl (fun _ => ?_) (fun h9 => absurd ((lg_cmp_le _ _).mpr hab) h9)
  refine lv_aload_n hx hb d_V_delete_24 rfl (lv_at hl 0 rfl) ?_
  refine gF (v := .ref (ad 3)) hx hb hown hE hK hP 0 rfl rfl layV 11 (by decide) w297 rfl d_V_delete_25 ?_
  refine lv_iload_n hx hb d_V_delete_28 rfl (lv_at hl 1 rfl) ?_
  refine lv_lload_n hx hb d_V_delete_29 rfl (lv_at hl 2 rfl) ?_
  refine lv_lload hx hb d_V_delete_30 (lv_at hl 3 rfl) ?_
  refine jfI (rnV (As := [.int (nI w), .long a, .long b]) (rest := []) hx hb hml hown hE hK (hN _ _ hS) hP hD (v_countSeen l D dA H.size h ad x PS w a b hps (show x.npc ≤ 32 from by omega) (show x.nsc ≤ 64 from by omega) h7 (show w < 256 from by omega)) (q0 := 17) rfl rfl w1336 w1335 w1337 w1338 w583 rfl rfl ⟨⟨by decide, by decide⟩, rfl⟩ ⟨(Nat.le_of_ble_eq_true rfl), (Nat.le_of_ble_eq_true rfl)⟩ rfl hl.1 rfl (Nat.le_of_ble_eq_true rfl) d_V_delete_32 ⟨(Nat.le_of_ble_eq_true rfl), (Nat.le_of_ble_eq_true rfl)⟩) hP hD hS hA (fun r5 u6 H locs hp9 hP hD hS => ?_)
  have hP : va_P D vwCl (VW dA h ad x) H := hP
  have hD : va_D A (VW dA h ad x) := hD
  replace hp9 : nI (sumN x.npc (x.soN PS w a b)) = r5 := Eq.symm hp9
  subst hp9
  refine lv_istore hx hb d_V_delete_35 hl (by decide) rfl (fun ls hl => ?_)
  have hl : lv_has ls 8 [(6, .int (nI (sumN x.npc (x.soN PS w a b)))), (0, .ref h), (1, .int (nI w)), (2, .long a), (4, .long b)] := hl
  refine lv_iload hx hb d_V_delete_37 (lv_at hl 0 rfl) ?_
  refine lv_aload_n hx hb d_V_delete_39 rfl (lv_at hl 1 rfl) ?_
  refine gF (v := .ref (ad 1)) hx hb hown hE hK hP 0 rfl rfl layV 9 (by decide) w576 rfl d_V_delete_40 ?_
  refine lv_iload_n hx hb d_V_delete_43 rfl (lv_at hl 2 rfl) ?_
  refine lv_lload_n hx hb d_V_delete_44 rfl (lv_at hl 3 rfl) ?_
  refine lv_lload hx hb d_V_delete_45 (lv_at hl 4 rfl) ?_
  refine jfI (rnV (As := [.int (nI w), .long a, .long b]) (rest := [.int (nI (sumN x.npc (x.soN PS w a b)))]) hx hb hml hown hE hK (hN _ _ hS) hP hD (v_countWithin l D dA H.size h ad x w a b (show x.hsize ≤ x.hN from by omega) (show x.hN ≤ 65536 from by omega) (show w < 2 ^ 31 from by omega) hh7) (q0 := 9) rfl rfl w1356 w1355 w1357 w1358 w578 rfl rfl ⟨⟨by decide, by decide⟩, rfl⟩ ⟨(Nat.le_of_ble_eq_true rfl), (Nat.le_of_ble_eq_true rfl)⟩ rfl hl.1 rfl (Nat.le_of_ble_eq_true rfl) d_V_delete_47 ⟨(Nat.le_of_ble_eq_true rfl), (Nat.le_of_ble_eq_true rfl)⟩) hP hD hS hA (fun r7 u8 H locs hp9 hP hD hS => ?_)
  have hP : va_P D vwCl (VW dA h ad x) H := hP
  have hD : va_D A (VW dA h ad x) := hD
  replace hp9 : nI (cnt x.hsize (x.hW w a b)) = r7 := Eq.symm hp9
  subst hp9
  refine lv_iadd hx hb d_V_delete_50 (tpi (y := nI ((sumN x.npc (x.soN PS w a b)) + (cnt x.hsize (x.hW w a b)))) (nI_add (sumN x.npc (x.soN PS w a b)) (cnt x.hsize (x.hW w a b))) ?_)
  refine lv_istore hx hb d_V_delete_51 hl (by decide) rfl (fun ls hl => ?_)
  have hl : lv_has ls 8 [(7, .int (nI ((sumN x.npc (x.soN PS w a b)) + (cnt x.hsize (x.hW w a b))))), (6, .int (nI (sumN x.npc (x.soN PS w a b)))), (0, .ref h), (1, .int (nI w)), (2, .long a), (4, .long b)] := hl
  have so := so_le (w := w) (a := a) (b := b) hps hpn
  have sw := cnt_le x.hsize (x.hW w a b)
  refine lv_iload hx hb d_V_delete_53 (lv_at hl 0 rfl) ?_
  refine lv_if_ne hx hb d_V_delete_55 (tgt := 60) rfl (fun g9 => ?_) (fun g9 => ?_)
  · have g9 := mt (nI_eq (a := (sumN x.npc (x.soN PS w a b)) + (cnt x.hsize (x.hW w a b))) (b := 0) (by omega) (by decide)).mpr g9; exfalso; omega
  have g9 := (nI_eq (a := (sumN x.npc (x.soN PS w a b)) + (cnt x.hsize (x.hW w a b))) (b := 0) (by omega) (by decide)).mp g9
  refine lv_iconst (v := 0) hx hb d_V_delete_58 (by decide) ?_
  exact rfI hx hb hr hlk hS () rfl hP hD (Nat.le_of_ble_eq_true rfl) (Nat.le_of_ble_eq_true rfl) d_V_delete_59
theorem d_V_delete_60 : decode prog_1_method_34_code 60 = .ok (.iload 6, 2) := by decide +kernel
theorem d_V_delete_62 : decode prog_1_method_34_code 62 = .ok (.ifCond .le 15, 3) := by decide +kernel
theorem d_V_delete_77 : decode prog_1_method_34_code 77 = .ok (.aload_n 0, 1) := by decide +kernel
theorem d_V_delete_78 : decode prog_1_method_34_code 78 = .ok (.getfield 16, 3) := by decide +kernel
theorem d_V_delete_81 : decode prog_1_method_34_code 81 = .ok (.iconst 1, 1) := by decide +kernel
theorem d_V_delete_82 : decode prog_1_method_34_code 82 = .ok (.invokevirtual 238, 3) := by decide +kernel
theorem d_V_delete_85 : decode prog_1_method_34_code 85 = .ok (.ifCond .ne 11, 3) := by decide +kernel
theorem d_V_delete_88 : decode prog_1_method_34_code 88 = .ok (.new 76, 3) := by decide +kernel
theorem d_V_delete_91 : decode prog_1_method_34_code 91 = .ok (.dup, 1) := by decide +kernel
theorem d_V_delete_92 : decode prog_1_method_34_code 92 = .ok (.invokespecial 78, 3) := by decide +kernel
theorem d_V_delete_95 : decode prog_1_method_34_code 95 = .ok (.athrow, 1) := by decide +kernel
theorem d_V_delete_65 : decode prog_1_method_34_code 65 = .ok (.aload_n 0, 1) := by decide +kernel
theorem d_V_delete_66 : decode prog_1_method_34_code 66 = .ok (.getfield 33, 3) := by decide +kernel
theorem d_V_delete_69 : decode prog_1_method_34_code 69 = .ok (.getfield 285, 3) := by decide +kernel
theorem d_V_delete_72 : decode prog_1_method_34_code 72 = .ok (.bipush 64, 2) := by decide +kernel
theorem d_V_delete_74 : decode prog_1_method_34_code 74 = .ok (.if_icmp .ge 14, 3) := by decide +kernel
set_option maxHeartbeats 4000000 in
set_option maxRecDepth 100000 in
theorem v_delete_4 (l : Launch) (htr : l.stackTraces = false) (D : va_G) (dA : Nat → ClassId) (sz : Nat) (h : Nat) (ad : Nat → Nat) (x : VS) (PS : Nat → PT) (w : Nat) (a : Int64) (b : Int64) (ho : x.powered = true) (hw1 : w < x.nser) (hw2 : x.nser ≤ 256) (hab : a ≤ b) (hps : psOk dA x.nP x.npc x.pl PS) (hpn : x.npc ≤ 32) (h1 : x.nsc ≤ 64) (h7 : ∀ q : Nat, q < x.nsc → x.nsO q < 2 ^ 31) (h0 : x.hsize ≤ x.hN) (h9 : x.hN ≤ 65536) (hh7 : ∀ q : Nat, q < x.hsize → x.hO q < 2 ^ 31) (hbu : x.jblock + 1 < 2 ^ 31) (hlu : x.jlimit < 2 ^ 31) (hfl : x.jfill ≤ 126) (hz : 0 < sumN x.npc (x.soN PS w a b) + cnt x.hsize (x.hW w a b)) (hu : (0 < sumN x.npc (x.soN PS w a b) ∧ 64 ≤ x.nsc) ∨ x.room 1 = false) : mX l ⟨"SeriesVault", "delete", "(IJJ)I"⟩ [Cond.code ⟨"SeriesVault", "delete", "(IJJ)I"⟩ prog_1_method_34_code 8 (some FieldType.int)] { frames := 6, cells := 1, slots := 6, locals := 103 } (pC D dA [.ref h, .int (nI w), .long a, .long b] (VW dA h ad x) sz) "java/lang/UnsupportedOperationException" (fun st9 t9 => va_F (va_A (VW dA h ad x) sz) st9 t9 ∧ bW D (va_A (VW dA h ad x) sz) (VW dA h ad x) t9) 1 6 (va_A (VW dA h ad x) sz) := by
  refine mkX (y := ⟨"SeriesVault", "delete", "(IJJ)I"⟩) (cc := prog_1_method_34_code) (maxL := 8) (av := [.ref h, .int (nI w), .long a, .long b]) (ws := VW dA h ad x) (sz := sz) (B := fun A => (fun st9 t9 => va_F A st9 t9 ∧ bW D A (VW dA h ad x) t9)) (by decide) (Nat.le_of_ble_eq_true rfl) ?_
  intro A p e s m below meth c ls hsz hno hB
  obtain ⟨hx, hb, hr, hml, hown, hin, hlk, hE, hK, hP, hD, hS, hA, hN, hl⟩ := hB
  have hown : s.vm.findClass "SeriesVault" = some m.cls := hown
  have hl : lv_has ls 8 [(0, .ref h), (1, .int (nI w)), (2, .long a), (4, .long b)] := hl
  obtain ⟨H, hH⟩ : ∃ z, z = s.heap := ⟨_, rfl⟩
  have hP : va_P D vwCl (VW dA h ad x) H := by rw [hH]; exact hP
  have hS : va_S A s.heap H [] := by rw [hH]; exact hS
  rw [← hH]
  refine lv_aload_n hx hb d_V_delete_0 rfl (lv_at hl 0 rfl) ?_
  refine jfV (rnV (As := []) (rest := []) hx hb hml hown hE hK (hN _ _ hS) hP hD (v_checkPower l D dA H.size h ad x ho) (q0 := 0) rfl rfl w278 w276 w279 w280 w277 rfl rfl ⟨⟨by decide, by decide⟩, rfl⟩ ⟨(Nat.le_of_ble_eq_true rfl), (Nat.le_of_ble_eq_true rfl)⟩ rfl hl.1 rfl (Nat.le_of_ble_eq_true rfl) d_V_delete_1 ⟨(Nat.le_of_ble_eq_true rfl), (Nat.le_of_ble_eq_true rfl)⟩) hP hD hS hA (fun u2 H locs hp9 hP hD hS => ?_)
  have hP : va_P D vwCl (VW dA h ad x) H := hP
  have hD : va_D A (VW dA h ad x) := hD
  refine lv_aload_n hx hb d_V_delete_4 rfl (lv_at hl 0 rfl) ?_
  refine lv_iload_n hx hb d_V_delete_5 rfl (lv_at hl 1 rfl) ?_
  refine jfV (rnV (As := [.int (nI w)]) (rest := []) hx hb hml hown hE hK (hN _ _ hS) hP hD (v_checkSeries l D dA H.size h ad x w (show w < x.nser from by omega) (show x.nser ≤ 256 from by omega)) (q0 := 0) rfl rfl w300 w299 w301 w302 w277 rfl rfl ⟨⟨by decide, by decide⟩, rfl⟩ ⟨(Nat.le_of_ble_eq_true rfl), (Nat.le_of_ble_eq_true rfl)⟩ rfl hl.1 rfl (Nat.le_of_ble_eq_true rfl) d_V_delete_6 ⟨(Nat.le_of_ble_eq_true rfl), (Nat.le_of_ble_eq_true rfl)⟩) hP hD hS hA (fun u4 H locs hp9 hP hD hS => ?_)
  have hP : va_P D vwCl (VW dA h ad x) H := hP
  have hD : va_D A (VW dA h ad x) := hD
  refine lv_lload_n hx hb d_V_delete_9 rfl (lv_at hl 2 rfl) ?_
  refine lv_lload hx hb d_V_delete_10 (lv_at hl 3 rfl) ?_
  refine W.lcmp hx hb d_V_delete_12 ?_
  refine lv_if_le hx hb d_V_delete_13 (tgt := 24) rfl (fun _ => ?_) (fun h9 => absurd ((lg_cmp_le _ _).mpr hab) h9)
  refine lv_aload_n hx hb d_V_delete_24 rfl (lv_at hl 0 rfl) ?_
  refine gF (v := .ref (ad 3)) hx hb hown hE hK hP 0 rfl rfl layV 11 (by decide) w297 rfl d_V_delete_25 ?_
  refine lv_iload_n hx hb d_V_delete_28 rfl (lv_at hl 1 rfl) ?_
  refine lv_lload_n hx hb d_V_delete_29 rfl (lv_at hl 2 rfl) ?_
  refine lv_lload hx hb d_V_delete_30 (lv_at hl 3 rfl) ?_
  refine jfI (rnV (As := [.int (nI w), .long a, .long b]) (rest := []) hx hb hml hown hE hK (hN _ _ hS) hP hD (v_countSeen l D dA H.size h ad x PS w a b hps (show x.npc ≤ 32 from by omega) (show x.nsc ≤ 64 from by omega) h7 (show w < 256 from by omega)) (q0 := 17) rfl rfl w1336 w1335 w1337 w1338 w583 rfl rfl ⟨⟨by decide, by decide⟩, rfl⟩ ⟨(Nat.le_of_ble_eq_true rfl), (Nat.le_of_ble_eq_true rfl)⟩ rfl hl.1 rfl (Nat.le_of_ble_eq_true rfl) d_V_delete_32 ⟨(Nat.le_of_ble_eq_true rfl), (Nat.le_of_ble_eq_true rfl)⟩) hP hD hS hA (fun r5 u6 H locs hp9 hP hD hS => ?_)
  have hP : va_P D vwCl (VW dA h ad x) H := hP
  have hD : va_D A (VW dA h ad x) := hD
  replace hp9 : nI (sumN x.npc (x.soN PS w a b)) = r5 := Eq.symm hp9
  subst hp9
  refine lv_istore hx hb d_V_delete_35 hl (by decide) rfl (fun ls hl => ?_)
  have hl : lv_has ls 8 [(6, .int (nI (sumN x.npc (x.soN PS w a b)))), (0, .ref h), (1, .int (nI w)), (2, .long a), (4, .long b)] := hl
  refine lv_iload hx hb d_V_delete_37 (lv_at hl 0 rfl) ?_
  refine lv_aload_n hx hb d_V_delete_39 rfl (lv_at hl 1 rfl) ?_
  refine gF (v := .ref (ad 1)) hx hb hown hE hK hP 0 rfl rfl layV 9 (by decide) w576 rfl d_V_delete_40 ?_
  refine lv_iload_n hx hb d_V_delete_43 rfl (lv_at hl 2 rfl) ?_
  refine lv_lload_n hx hb d_V_delete_44 rfl (lv_at hl 3 rfl) ?_
  refine lv_lload hx hb d_V_delete_45 (lv_at hl 4 rfl) ?_
  refine jfI (rnV (As := [.int (nI w), .long a, .long b]) (rest := [.int (nI (sumN x.npc (x.soN PS w a b)))]) hx hb hml hown hE hK (hN _ _ hS) hP hD (v_countWithin l D dA H.size h ad x w a b (show x.hsize ≤ x.hN from by omega) (show x.hN ≤ 65536 from by omega) (show w < 2 ^ 31 from by omega) hh7) (q0 := 9) rfl rfl w1356 w1355 w1357 w1358 w578 rfl rfl ⟨⟨by decide, by decide⟩, rfl⟩ ⟨(Nat.le_of_ble_eq_true rfl), (Nat.le_of_ble_eq_true rfl)⟩ rfl hl.1 rfl (Nat.le_of_ble_eq_true rfl) d_V_delete_47 ⟨(Nat.le_of_ble_eq_true rfl), (Nat.le_of_ble_eq_true rfl)⟩) hP hD hS hA (fun r7 u8 H locs hp9 hP hD hS => ?_)
  have hP : va_P D vwCl (VW dA h ad x) H := hP
  have hD : va_D A (VW dA h ad x) := hD
  replace hp9 : nI (cnt x.hsize (x.hW w a b)) = r7 := Eq.symm hp9
  subst hp9
  refine lv_iadd hx hb d_V_delete_50 (tpi (y := nI ((sumN x.npc (x.soN PS w a b)) + (cnt x.hsize (x.hW w a b)))) (nI_add (sumN x.npc (x.soN PS w a b)) (cnt x.hsize (x.hW w a b))) ?_)
  refine lv_istore hx hb d_V_delete_51 hl (by decide) rfl (fun ls hl => ?_)
  have hl : lv_has ls 8 [(7, .int (nI ((sumN x.npc (x.soN PS w a b)) + (cnt x.hsize (x.hW w a b))))), (6, .int (nI (sumN x.npc (x.soN PS w a b)))), (0, .ref h), (1, .int (nI w)), (2, .long a), (4, .long b)] := hl
  have so := so_le (w := w) (a := a) (b := b) hps hpn
  have sw := cnt_le x.hsize (x.hW w a b)
  refine lv_iload hx hb d_V_delete_53 (lv_at hl 0 rfl) ?_
  refine lv_if_ne hx hb d_V_delete_55 (tgt := 60) rfl (fun g9 => ?_) (fun g9 => ?_)
  rotate_left
  · have g9 := (nI_eq (a := (sumN x.npc (x.soN PS w a b)) + (cnt x.hsize (x.hW w a b))) (b := 0) (by omega) (by decide)).mp g9; exfalso; omega
  have g9 := mt (nI_eq (a := (sumN x.npc (x.soN PS w a b)) + (cnt x.hsize (x.hW w a b))) (b := 0) (by omega) (by decide)).mpr g9
  refine lv_iload hx hb d_V_delete_60 (lv_at hl 1 rfl) ?_
  refine lv_if_le hx hb d_V_delete_62 (tgt := 77) rfl (fun g10 => ?_) (fun g10 => ?_)
  · have g10 := (nI_leI (a := sumN x.npc (x.soN PS w a b)) (b := 0) (by omega) (by decide)).mp g10
    refine lv_aload_n hx hb d_V_delete_77 rfl (lv_at hl 2 rfl) ?_
    refine gF (v := .ref (ad 0)) hx hb hown hE hK hP 0 rfl rfl layV 8 (by decide) w312 rfl d_V_delete_78 ?_
    refine lv_iconst (v := 1) hx hb d_V_delete_81 (by decide) ?_
    refine jfI (rnV (As := [.int 1]) (rest := []) hx hb hml hown hE hK (hN _ _ hS) hP hD (v_jhasRoom l D dA H.size h ad x 1 (show x.jfill + 1 < 2 ^ 31 from by omega) (show x.jblock + 1 < 2 ^ 31 from by omega) (show x.jlimit < 2 ^ 31 from by omega)) (q0 := 2) rfl rfl w1163 w1162 w1164 w1165 w556 rfl rfl ⟨⟨by decide, by decide⟩, rfl⟩ ⟨(Nat.le_of_ble_eq_true rfl), (Nat.le_of_ble_eq_true rfl)⟩ rfl hl.1 rfl (Nat.le_of_ble_eq_true rfl) d_V_delete_82 ⟨(Nat.le_of_ble_eq_true rfl), (Nat.le_of_ble_eq_true rfl)⟩) hP hD hS hA (fun r11 u12 H locs hp9 hP hD hS => ?_)
    have hP : va_P D vwCl (VW dA h ad x) H := hP
    have hD : va_D A (VW dA h ad x) := hD
    replace hp9 : bI (x.room 1) = r11 := Eq.symm hp9
    subst hp9
    refine lv_if_ne hx hb d_V_delete_85 (tgt := 96) rfl (fun h9 => absurd (by rw [hu.resolve_left (fun z => by have := g10; omega)]; decide) h9) (fun _ => ?_)
    exact xNew (E := "java/lang/UnsupportedOperationException") (names := ["java/lang/RuntimeException", "java/lang/Exception"]) hx hb htr hown (by decide) (by decide) hE w1156 w1157 (fun U hU => at_V_UOE hU) (hN _ _ hS) (hl.1.trans hml.symm) d_V_delete_88 d_V_delete_91 d_V_delete_92 d_V_delete_95 hno (by decide) (Nat.le_of_ble_eq_true rfl) (Nat.le_of_ble_eq_true rfl) (Nat.le_of_ble_eq_true rfl) hlk (fun t h1 h2 => xEndV hP hD hS t h1 h2) hS.2.2 (Nat.le_of_ble_eq_true rfl) (Nat.le_of_ble_eq_true rfl)
  · have g10 := mt (nI_leI (a := sumN x.npc (x.soN PS w a b)) (b := 0) (by omega) (by decide)).mpr g10
    refine lv_aload_n hx hb d_V_delete_65 rfl (lv_at hl 2 rfl) ?_
    refine gF (v := .ref (ad 3)) hx hb hown hE hK hP 0 rfl rfl layV 11 (by decide) w297 rfl d_V_delete_66 ?_
    refine gFN (v := .int (nI x.nsc)) hx hb hown hE hK hP 17 rfl rfl layH 6 (by decide) w642 rfl d_V_delete_69 ?_
    refine lv_bipush (v := 64) hx hb d_V_delete_72 (by decide) ?_
    refine lv_icmp_ge hx hb d_V_delete_74 (tgt := 88) rfl (fun g13 => ?_) (fun g13 => ?_)
    · have g13 := (nI_leI (a := 64) (b := x.nsc) (by omega) (by omega)).mp g13
      exact xNew (E := "java/lang/UnsupportedOperationException") (names := ["java/lang/RuntimeException", "java/lang/Exception"]) hx hb htr hown (by decide) (by decide) hE w1156 w1157 (fun U hU => at_V_UOE hU) (hN _ _ hS) (hl.1.trans hml.symm) d_V_delete_88 d_V_delete_91 d_V_delete_92 d_V_delete_95 hno (by decide) (Nat.le_of_ble_eq_true rfl) (Nat.le_of_ble_eq_true rfl) (Nat.le_of_ble_eq_true rfl) hlk (fun t h1 h2 => xEndV hP hD hS t h1 h2) hS.2.2 (Nat.le_of_ble_eq_true rfl) (Nat.le_of_ble_eq_true rfl)
    · have g13 := mt (nI_leI (a := 64) (b := x.nsc) (by omega) (by omega)).mpr g13
      refine lv_aload_n hx hb d_V_delete_77 rfl (lv_at hl 2 rfl) ?_
      refine gF (v := .ref (ad 0)) hx hb hown hE hK hP 0 rfl rfl layV 8 (by decide) w312 rfl d_V_delete_78 ?_
      refine lv_iconst (v := 1) hx hb d_V_delete_81 (by decide) ?_
      refine jfI (rnV (As := [.int 1]) (rest := []) hx hb hml hown hE hK (hN _ _ hS) hP hD (v_jhasRoom l D dA H.size h ad x 1 (show x.jfill + 1 < 2 ^ 31 from by omega) (show x.jblock + 1 < 2 ^ 31 from by omega) (show x.jlimit < 2 ^ 31 from by omega)) (q0 := 2) rfl rfl w1163 w1162 w1164 w1165 w556 rfl rfl ⟨⟨by decide, by decide⟩, rfl⟩ ⟨(Nat.le_of_ble_eq_true rfl), (Nat.le_of_ble_eq_true rfl)⟩ rfl hl.1 rfl (Nat.le_of_ble_eq_true rfl) d_V_delete_82 ⟨(Nat.le_of_ble_eq_true rfl), (Nat.le_of_ble_eq_true rfl)⟩) hP hD hS hA (fun r14 u15 H locs hp9 hP hD hS => ?_)
      have hP : va_P D vwCl (VW dA h ad x) H := hP
      have hD : va_D A (VW dA h ad x) := hD
      replace hp9 : bI (x.room 1) = r14 := Eq.symm hp9
      subst hp9
      refine lv_if_ne hx hb d_V_delete_85 (tgt := 96) rfl (fun h9 => absurd (by rw [hu.resolve_left (fun z => by have := g13; omega)]; decide) h9) (fun _ => ?_)
      exact xNew (E := "java/lang/UnsupportedOperationException") (names := ["java/lang/RuntimeException", "java/lang/Exception"]) hx hb htr hown (by decide) (by decide) hE w1156 w1157 (fun U hU => at_V_UOE hU) (hN _ _ hS) (hl.1.trans hml.symm) d_V_delete_88 d_V_delete_91 d_V_delete_92 d_V_delete_95 hno (by decide) (Nat.le_of_ble_eq_true rfl) (Nat.le_of_ble_eq_true rfl) (Nat.le_of_ble_eq_true rfl) hlk (fun t h1 h2 => xEndV hP hD hS t h1 h2) hS.2.2 (Nat.le_of_ble_eq_true rfl) (Nat.le_of_ble_eq_true rfl)
theorem d_V_delete_96 : decode prog_1_method_34_code 96 = .ok (.aload_n 0, 1) := by decide +kernel
theorem d_V_delete_97 : decode prog_1_method_34_code 97 = .ok (.iconst 2, 1) := by decide +kernel
theorem d_V_delete_98 : decode prog_1_method_34_code 98 = .ok (.iload_n 1, 1) := by decide +kernel
theorem d_V_delete_99 : decode prog_1_method_34_code 99 = .ok (.iconst 1, 1) := by decide +kernel
theorem d_V_delete_100 : decode prog_1_method_34_code 100 = .ok (.lload_n 2, 1) := by decide +kernel
theorem d_V_delete_101 : decode prog_1_method_34_code 101 = .ok (.lload 4, 2) := by decide +kernel
theorem d_V_delete_103 : decode prog_1_method_34_code 103 = .ok (.invokevirtual 241, 3) := by decide +kernel
set_option maxHeartbeats 4000000 in
set_option maxRecDepth 100000 in
theorem v_delete_5 (l : Launch) (htr : l.stackTraces = false) (D : va_G) (dA : Nat → ClassId) (sz : Nat) (h : Nat) (ad : Nat → Nat) (x : VS) (PS : Nat → PT) (w : Nat) (a : Int64) (b : Int64) (ho : x.powered = true) (hw1 : w < x.nser) (hw2 : x.nser ≤ 256) (hab : a ≤ b) (hps : psOk dA x.nP x.npc x.pl PS) (hpn : x.npc ≤ 32) (h1 : x.nsc ≤ 64) (h7 : ∀ q : Nat, q < x.nsc → x.nsO q < 2 ^ 31) (h0 : x.hsize ≤ x.hN) (h9 : x.hN ≤ 65536) (hh7 : ∀ q : Nat, q < x.hsize → x.hO q < 2 ^ 31) (hbu : x.jblock + 1 < 2 ^ 31) (hlu : x.jlimit < 2 ^ 31) (hfl : x.jfill ≤ 126) (hz : 0 < sumN x.npc (x.soN PS w a b) + cnt x.hsize (x.hW w a b)) (hs : sumN x.npc (x.soN PS w a b) = 0 ∨ x.nsc < 64) (hro : x.room 1 = true) (c1 : 126 < x.jfill + 1) (hc2 : x.jch = true) (hc : x.cutLeft = 0) : mX l ⟨"SeriesVault", "delete", "(IJJ)I"⟩ [Cond.code ⟨"SeriesVault", "delete", "(IJJ)I"⟩ prog_1_method_34_code 8 (some FieldType.int)] { frames := 9, cells := 1, slots := 6, locals := 148 } (pC D dA [.ref h, .int (nI w), .long a, .long b] (VW dA h ad x) sz) "java/lang/IllegalStateException" (fun st9 t9 => va_F (va_A (VW dA h ad x) sz) st9 t9 ∧ bW D (va_A (VW dA h ad x) sz) (VW dA h ad (VS.s_cutLeft (VS.s_powered x false) (-1))) t9) 1 6 (va_A (VW dA h ad x) sz) := by
  refine mkX (y := ⟨"SeriesVault", "delete", "(IJJ)I"⟩) (cc := prog_1_method_34_code) (maxL := 8) (av := [.ref h, .int (nI w), .long a, .long b]) (ws := VW dA h ad x) (sz := sz) (B := fun A => (fun st9 t9 => va_F A st9 t9 ∧ bW D A (VW dA h ad (VS.s_cutLeft (VS.s_powered x false) (-1))) t9)) (by decide) (Nat.le_of_ble_eq_true rfl) ?_
  intro A p e s m below meth c ls hsz hno hB
  obtain ⟨hx, hb, hr, hml, hown, hin, hlk, hE, hK, hP, hD, hS, hA, hN, hl⟩ := hB
  have hown : s.vm.findClass "SeriesVault" = some m.cls := hown
  have hl : lv_has ls 8 [(0, .ref h), (1, .int (nI w)), (2, .long a), (4, .long b)] := hl
  obtain ⟨H, hH⟩ : ∃ z, z = s.heap := ⟨_, rfl⟩
  have hP : va_P D vwCl (VW dA h ad x) H := by rw [hH]; exact hP
  have hS : va_S A s.heap H [] := by rw [hH]; exact hS
  rw [← hH]
  refine lv_aload_n hx hb d_V_delete_0 rfl (lv_at hl 0 rfl) ?_
  refine jfV (rnV (As := []) (rest := []) hx hb hml hown hE hK (hN _ _ hS) hP hD (v_checkPower l D dA H.size h ad x ho) (q0 := 0) rfl rfl w278 w276 w279 w280 w277 rfl rfl ⟨⟨by decide, by decide⟩, rfl⟩ ⟨(Nat.le_of_ble_eq_true rfl), (Nat.le_of_ble_eq_true rfl)⟩ rfl hl.1 rfl (Nat.le_of_ble_eq_true rfl) d_V_delete_1 ⟨(Nat.le_of_ble_eq_true rfl), (Nat.le_of_ble_eq_true rfl)⟩) hP hD hS hA (fun u2 H locs hp9 hP hD hS => ?_)
  have hP : va_P D vwCl (VW dA h ad x) H := hP
  have hD : va_D A (VW dA h ad x) := hD
  refine lv_aload_n hx hb d_V_delete_4 rfl (lv_at hl 0 rfl) ?_
  refine lv_iload_n hx hb d_V_delete_5 rfl (lv_at hl 1 rfl) ?_
  refine jfV (rnV (As := [.int (nI w)]) (rest := []) hx hb hml hown hE hK (hN _ _ hS) hP hD (v_checkSeries l D dA H.size h ad x w (show w < x.nser from by omega) (show x.nser ≤ 256 from by omega)) (q0 := 0) rfl rfl w300 w299 w301 w302 w277 rfl rfl ⟨⟨by decide, by decide⟩, rfl⟩ ⟨(Nat.le_of_ble_eq_true rfl), (Nat.le_of_ble_eq_true rfl)⟩ rfl hl.1 rfl (Nat.le_of_ble_eq_true rfl) d_V_delete_6 ⟨(Nat.le_of_ble_eq_true rfl), (Nat.le_of_ble_eq_true rfl)⟩) hP hD hS hA (fun u4 H locs hp9 hP hD hS => ?_)
  have hP : va_P D vwCl (VW dA h ad x) H := hP
  have hD : va_D A (VW dA h ad x) := hD
  refine lv_lload_n hx hb d_V_delete_9 rfl (lv_at hl 2 rfl) ?_
  refine lv_lload hx hb d_V_delete_10 (lv_at hl 3 rfl) ?_
  refine W.lcmp hx hb d_V_delete_12 ?_
  refine lv_if_le hx hb d_V_delete_13 (tgt := 24) rfl (fun _ => ?_) (fun h9 => absurd ((lg_cmp_le _ _).mpr hab) h9)
  refine lv_aload_n hx hb d_V_delete_24 rfl (lv_at hl 0 rfl) ?_
  refine gF (v := .ref (ad 3)) hx hb hown hE hK hP 0 rfl rfl layV 11 (by decide) w297 rfl d_V_delete_25 ?_
  refine lv_iload_n hx hb d_V_delete_28 rfl (lv_at hl 1 rfl) ?_
  refine lv_lload_n hx hb d_V_delete_29 rfl (lv_at hl 2 rfl) ?_
  refine lv_lload hx hb d_V_delete_30 (lv_at hl 3 rfl) ?_
  refine jfI (rnV (As := [.int (nI w), .long a, .long b]) (rest := []) hx hb hml hown hE hK (hN _ _ hS) hP hD (v_countSeen l D dA H.size h ad x PS w a b hps (show x.npc ≤ 32 from by omega) (show x.nsc ≤ 64 from by omega) h7 (show w < 256 from by omega)) (q0 := 17) rfl rfl w1336 w1335 w1337 w1338 w583 rfl rfl ⟨⟨by decide, by decide⟩, rfl⟩ ⟨(Nat.le_of_ble_eq_true rfl), (Nat.le_of_ble_eq_true rfl)⟩ rfl hl.1 rfl (Nat.le_of_ble_eq_true rfl) d_V_delete_32 ⟨(Nat.le_of_ble_eq_true rfl), (Nat.le_of_ble_eq_true rfl)⟩) hP hD hS hA (fun r5 u6 H locs hp9 hP hD hS => ?_)
  have hP : va_P D vwCl (VW dA h ad x) H := hP
  have hD : va_D A (VW dA h ad x) := hD
  replace hp9 : nI (sumN x.npc (x.soN PS w a b)) = r5 := Eq.symm hp9
  subst hp9
  refine lv_istore hx hb d_V_delete_35 hl (by decide) rfl (fun ls hl => ?_)
  have hl : lv_has ls 8 [(6, .int (nI (sumN x.npc (x.soN PS w a b)))), (0, .ref h), (1, .int (nI w)), (2, .long a), (4, .long b)] := hl
  refine lv_iload hx hb d_V_delete_37 (lv_at hl 0 rfl) ?_
  refine lv_aload_n hx hb d_V_delete_39 rfl (lv_at hl 1 rfl) ?_
  refine gF (v := .ref (ad 1)) hx hb hown hE hK hP 0 rfl rfl layV 9 (by decide) w576 rfl d_V_delete_40 ?_
  refine lv_iload_n hx hb d_V_delete_43 rfl (lv_at hl 2 rfl) ?_
  refine lv_lload_n hx hb d_V_delete_44 rfl (lv_at hl 3 rfl) ?_
  refine lv_lload hx hb d_V_delete_45 (lv_at hl 4 rfl) ?_
  refine jfI (rnV (As := [.int (nI w), .long a, .long b]) (rest := [.int (nI (sumN x.npc (x.soN PS w a b)))]) hx hb hml hown hE hK (hN _ _ hS) hP hD (v_countWithin l D dA H.size h ad x w a b (show x.hsize ≤ x.hN from by omega) (show x.hN ≤ 65536 from by omega) (show w < 2 ^ 31 from by omega) hh7) (q0 := 9) rfl rfl w1356 w1355 w1357 w1358 w578 rfl rfl ⟨⟨by decide, by decide⟩, rfl⟩ ⟨(Nat.le_of_ble_eq_true rfl), (Nat.le_of_ble_eq_true rfl)⟩ rfl hl.1 rfl (Nat.le_of_ble_eq_true rfl) d_V_delete_47 ⟨(Nat.le_of_ble_eq_true rfl), (Nat.le_of_ble_eq_true rfl)⟩) hP hD hS hA (fun r7 u8 H locs hp9 hP hD hS => ?_)
  have hP : va_P D vwCl (VW dA h ad x) H := hP
  have hD : va_D A (VW dA h ad x) := hD
  replace hp9 : nI (cnt x.hsize (x.hW w a b)) = r7 := Eq.symm hp9
  subst hp9
  refine lv_iadd hx hb d_V_delete_50 (tpi (y := nI ((sumN x.npc (x.soN PS w a b)) + (cnt x.hsize (x.hW w a b)))) (nI_add (sumN x.npc (x.soN PS w a b)) (cnt x.hsize (x.hW w a b))) ?_)
  refine lv_istore hx hb d_V_delete_51 hl (by decide) rfl (fun ls hl => ?_)
  have hl : lv_has ls 8 [(7, .int (nI ((sumN x.npc (x.soN PS w a b)) + (cnt x.hsize (x.hW w a b))))), (6, .int (nI (sumN x.npc (x.soN PS w a b)))), (0, .ref h), (1, .int (nI w)), (2, .long a), (4, .long b)] := hl
  have so := so_le (w := w) (a := a) (b := b) hps hpn
  have sw := cnt_le x.hsize (x.hW w a b)
  refine lv_iload hx hb d_V_delete_53 (lv_at hl 0 rfl) ?_
  refine lv_if_ne hx hb d_V_delete_55 (tgt := 60) rfl (fun g9 => ?_) (fun g9 => ?_)
  rotate_left
  · have g9 := (nI_eq (a := (sumN x.npc (x.soN PS w a b)) + (cnt x.hsize (x.hW w a b))) (b := 0) (by omega) (by decide)).mp g9; exfalso; omega
  have g9 := mt (nI_eq (a := (sumN x.npc (x.soN PS w a b)) + (cnt x.hsize (x.hW w a b))) (b := 0) (by omega) (by decide)).mpr g9
  refine lv_iload hx hb d_V_delete_60 (lv_at hl 1 rfl) ?_
  refine lv_if_le hx hb d_V_delete_62 (tgt := 77) rfl (fun g10 => ?_) (fun g10 => ?_)
  · have g10 := (nI_leI (a := sumN x.npc (x.soN PS w a b)) (b := 0) (by omega) (by decide)).mp g10
    refine lv_aload_n hx hb d_V_delete_77 rfl (lv_at hl 2 rfl) ?_
    refine gF (v := .ref (ad 0)) hx hb hown hE hK hP 0 rfl rfl layV 8 (by decide) w312 rfl d_V_delete_78 ?_
    refine lv_iconst (v := 1) hx hb d_V_delete_81 (by decide) ?_
    refine jfI (rnV (As := [.int 1]) (rest := []) hx hb hml hown hE hK (hN _ _ hS) hP hD (v_jhasRoom l D dA H.size h ad x 1 (show x.jfill + 1 < 2 ^ 31 from by omega) (show x.jblock + 1 < 2 ^ 31 from by omega) (show x.jlimit < 2 ^ 31 from by omega)) (q0 := 2) rfl rfl w1163 w1162 w1164 w1165 w556 rfl rfl ⟨⟨by decide, by decide⟩, rfl⟩ ⟨(Nat.le_of_ble_eq_true rfl), (Nat.le_of_ble_eq_true rfl)⟩ rfl hl.1 rfl (Nat.le_of_ble_eq_true rfl) d_V_delete_82 ⟨(Nat.le_of_ble_eq_true rfl), (Nat.le_of_ble_eq_true rfl)⟩) hP hD hS hA (fun r11 u12 H locs hp9 hP hD hS => ?_)
    have hP : va_P D vwCl (VW dA h ad x) H := hP
    have hD : va_D A (VW dA h ad x) := hD
    replace hp9 : bI (x.room 1) = r11 := Eq.symm hp9
    subst hp9
    refine lv_if_ne hx hb d_V_delete_85 (tgt := 96) rfl (fun _ => ?_) (fun h9 => absurd h9 (by rw [hro]; decide))
    refine lv_aload_n hx hb d_V_delete_96 rfl (lv_at hl 2 rfl) ?_
    refine lv_iconst (v := 2) hx hb d_V_delete_97 (by decide) ?_
    refine lv_iload_n hx hb d_V_delete_98 rfl (lv_at hl 3 rfl) ?_
    refine lv_iconst (v := 1) hx hb d_V_delete_99 (by decide) ?_
    refine lv_lload_n hx hb d_V_delete_100 rfl (lv_at hl 4 rfl) ?_
    refine lv_lload hx hb d_V_delete_101 (lv_at hl 5 rfl) ?_
    refine xfV (w1 := VW dA h ad (VS.s_cutLeft (VS.s_powered x false) (-1))) (As := [.int 2, .int (nI w), .int 1, .long a, .long b]) (rest := []) hx hb hml hown hE hK (hN _ _ hS) (v_writeRecord_x l htr D dA H.size h ad x 2 w 1 a b (show x.jfill + 1 < 2 ^ 31 from by omega) (show 126 < x.jfill + 1 from by omega) hc2 hc) (q0 := 0) rfl rfl w1133 w1132 w1134 w1135 w277 rfl rfl ⟨⟨by decide, by decide⟩, rfl⟩ ⟨(Nat.le_of_ble_eq_true rfl), (Nat.le_of_ble_eq_true rfl)⟩ rfl hl.1 rfl (Nat.le_of_ble_eq_true rfl) d_V_delete_103 ⟨(Nat.le_of_ble_eq_true rfl), (Nat.le_of_ble_eq_true rfl)⟩ hP hD hS hA (fun xa13 ce H locs hP hD hS hce hcv hcl => ?_)
    exact xOut hno hlk hce hcv hcl (fun t ht => xEndV hP hD hS t (by rw [ht]; exact Nat.le_refl _) (fun q _ => by rw [ht])) hS.2.2 (Nat.le_of_ble_eq_true rfl) (Nat.le_of_ble_eq_true rfl)
  · have g10 := mt (nI_leI (a := sumN x.npc (x.soN PS w a b)) (b := 0) (by omega) (by decide)).mpr g10
    refine lv_aload_n hx hb d_V_delete_65 rfl (lv_at hl 2 rfl) ?_
    refine gF (v := .ref (ad 3)) hx hb hown hE hK hP 0 rfl rfl layV 11 (by decide) w297 rfl d_V_delete_66 ?_
    refine gFN (v := .int (nI x.nsc)) hx hb hown hE hK hP 17 rfl rfl layH 6 (by decide) w642 rfl d_V_delete_69 ?_
    refine lv_bipush (v := 64) hx hb d_V_delete_72 (by decide) ?_
    refine lv_icmp_ge hx hb d_V_delete_74 (tgt := 88) rfl (fun g14 => ?_) (fun g14 => ?_)
    · have g14 := (nI_leI (a := 64) (b := x.nsc) (by omega) (by omega)).mp g14; exfalso; omega
    have g14 := mt (nI_leI (a := 64) (b := x.nsc) (by omega) (by omega)).mpr g14
    refine lv_aload_n hx hb d_V_delete_77 rfl (lv_at hl 2 rfl) ?_
    refine gF (v := .ref (ad 0)) hx hb hown hE hK hP 0 rfl rfl layV 8 (by decide) w312 rfl d_V_delete_78 ?_
    refine lv_iconst (v := 1) hx hb d_V_delete_81 (by decide) ?_
    refine jfI (rnV (As := [.int 1]) (rest := []) hx hb hml hown hE hK (hN _ _ hS) hP hD (v_jhasRoom l D dA H.size h ad x 1 (show x.jfill + 1 < 2 ^ 31 from by omega) (show x.jblock + 1 < 2 ^ 31 from by omega) (show x.jlimit < 2 ^ 31 from by omega)) (q0 := 2) rfl rfl w1163 w1162 w1164 w1165 w556 rfl rfl ⟨⟨by decide, by decide⟩, rfl⟩ ⟨(Nat.le_of_ble_eq_true rfl), (Nat.le_of_ble_eq_true rfl)⟩ rfl hl.1 rfl (Nat.le_of_ble_eq_true rfl) d_V_delete_82 ⟨(Nat.le_of_ble_eq_true rfl), (Nat.le_of_ble_eq_true rfl)⟩) hP hD hS hA (fun r15 u16 H locs hp9 hP hD hS => ?_)
    have hP : va_P D vwCl (VW dA h ad x) H := hP
    have hD : va_D A (VW dA h ad x) := hD
    replace hp9 : bI (x.room 1) = r15 := Eq.symm hp9
    subst hp9
    refine lv_if_ne hx hb d_V_delete_85 (tgt := 96) rfl (fun _ => ?_) (fun h9 => absurd h9 (by rw [hro]; decide))
    refine lv_aload_n hx hb d_V_delete_96 rfl (lv_at hl 2 rfl) ?_
    refine lv_iconst (v := 2) hx hb d_V_delete_97 (by decide) ?_
    refine lv_iload_n hx hb d_V_delete_98 rfl (lv_at hl 3 rfl) ?_
    refine lv_iconst (v := 1) hx hb d_V_delete_99 (by decide) ?_
    refine lv_lload_n hx hb d_V_delete_100 rfl (lv_at hl 4 rfl) ?_
    refine lv_lload hx hb d_V_delete_101 (lv_at hl 5 rfl) ?_
    refine xfV (w1 := VW dA h ad (VS.s_cutLeft (VS.s_powered x false) (-1))) (As := [.int 2, .int (nI w), .int 1, .long a, .long b]) (rest := []) hx hb hml hown hE hK (hN _ _ hS) (v_writeRecord_x l htr D dA H.size h ad x 2 w 1 a b (show x.jfill + 1 < 2 ^ 31 from by omega) (show 126 < x.jfill + 1 from by omega) hc2 hc) (q0 := 0) rfl rfl w1133 w1132 w1134 w1135 w277 rfl rfl ⟨⟨by decide, by decide⟩, rfl⟩ ⟨(Nat.le_of_ble_eq_true rfl), (Nat.le_of_ble_eq_true rfl)⟩ rfl hl.1 rfl (Nat.le_of_ble_eq_true rfl) d_V_delete_103 ⟨(Nat.le_of_ble_eq_true rfl), (Nat.le_of_ble_eq_true rfl)⟩ hP hD hS hA (fun xa17 ce H locs hP hD hS hce hcv hcl => ?_)
    exact xOut hno hlk hce hcv hcl (fun t ht => xEndV hP hD hS t (by rw [ht]; exact Nat.le_refl _) (fun q _ => by rw [ht])) hS.2.2 (Nat.le_of_ble_eq_true rfl) (Nat.le_of_ble_eq_true rfl)
theorem d_V_delete_106 : decode prog_1_method_34_code 106 = .ok (.aload_n 0, 1) := by decide +kernel
theorem d_V_delete_107 : decode prog_1_method_34_code 107 = .ok (.iload_n 1, 1) := by decide +kernel
theorem d_V_delete_108 : decode prog_1_method_34_code 108 = .ok (.lload_n 2, 1) := by decide +kernel
theorem d_V_delete_109 : decode prog_1_method_34_code 109 = .ok (.lload 4, 2) := by decide +kernel
theorem d_V_delete_111 : decode prog_1_method_34_code 111 = .ok (.invokevirtual 180, 3) := by decide +kernel
theorem d_V_delete_114 : decode prog_1_method_34_code 114 = .ok (.iload 7, 2) := by decide +kernel
theorem d_V_delete_116 : decode prog_1_method_34_code 116 = .ok (.ireturn, 1) := by decide +kernel
theorem w1359 : Cond.methodLink "SeriesVault" 180 ⟨"SeriesVault", "letGo", "(IJJ)V"⟩ ∈ aW := aw_of (tb_5 (List.mem_of_getElem? (i := 205) rfl)) rfl
theorem w1360 : Cond.code ⟨"SeriesVault", "letGo", "(IJJ)V"⟩ prog_1_method_35_code 6 none ∈ aW := aw_of (tb_5 (List.mem_of_getElem? (i := 208) rfl)) rfl
theorem w1361 : Cond.instanceMethod ⟨"SeriesVault", "letGo", "(IJJ)V"⟩ ∈ aW := aw_of (tb_5 (List.mem_of_getElem? (i := 207) rfl)) rfl
theorem w1362 : Cond.selects "SeriesVault" ⟨"SeriesVault", "letGo", "(IJJ)V"⟩ ⟨"SeriesVault", "letGo", "(IJJ)V"⟩ ∈ aW := aw_pr (List.mem_map.mpr ⟨_, pv_2 (List.mem_of_getElem? (i := 10) rfl), rfl⟩) rfl
set_option maxHeartbeats 4000000 in
set_option maxRecDepth 100000 in
theorem v_delete_60 (l : Launch) (D : va_G) (dA : Nat → ClassId) (sz : Nat) (h : Nat) (ad : Nat → Nat) (x : VS) (PS : Nat → PT) (w : Nat) (a : Int64) (b : Int64) (ho : x.powered = true) (hw1 : w < x.nser) (hw2 : x.nser ≤ 256) (hab : a ≤ b) (hps : psOk dA x.nP x.npc x.pl PS) (hpn : x.npc ≤ 32) (h1 : x.nsc ≤ 64) (h7 : ∀ q : Nat, q < x.nsc → x.nsO q < 2 ^ 31) (h0 : x.hsize ≤ x.hN) (h9 : x.hN ≤ 65536) (hh7 : ∀ q : Nat, q < x.hsize → x.hO q < 2 ^ 31) (hbu : x.jblock + 1 < 2 ^ 31) (hlu : x.jlimit < 2 ^ 31) (hfl : x.jfill ≤ 126) (hs1 : x.jsize ≤ x.jN) (hs2 : 0 < x.jN) (hs3 : x.jN ≤ 65536) (hz : 0 < sumN x.npc (x.soN PS w a b) + cnt x.hsize (x.hW w a b)) (hs : sumN x.npc (x.soN PS w a b) = 0) (hro : x.room 1 = true) (hcr : x.jfill + 1 ≤ 126 ∨ x.jch = false ∨ ¬ x.cutLeft = 0) : Met l ⟨"SeriesVault", "delete", "(IJJ)I"⟩ [Cond.code ⟨"SeriesVault", "delete", "(IJJ)I"⟩ prog_1_method_34_code 8 (some FieldType.int)] { frames := 6, cells := 6 * (x.jcap - x.jN), slots := 12 * (x.jcap - x.jN), locals := 136 } (pC D dA [.ref h, .int (nI w), .long a, .long b] (VW dA h ad x) sz) (va_Qi (fun (r9 : Int32) (u9 : VS) => r9 = nI (sumN x.npc (x.soN PS w a b) + cnt x.hsize (x.hW w a b)) ∧ ∃ ja : Nat → Nat, u9 = (x.wrF ja 2 w 1 a b).dwS w a b) (fun (u9 : VS) t9 => bW D (va_A (VW dA h ad x) sz) (VW dA h ad u9) t9) (va_A (VW dA h ad x) sz)) (6 * (x.jcap - x.jN)) (12 * (x.jcap - x.jN)) (va_A (VW dA h ad x) sz) := by
  refine mkC (y := ⟨"SeriesVault", "delete", "(IJJ)I"⟩) (cc := prog_1_method_34_code) (maxL := 8) (av := [.ref h, .int (nI w), .long a, .long b]) (ws := VW dA h ad x) (sz := sz) (Qc := fun A => va_Qi (fun (r9 : Int32) (u9 : VS) => r9 = nI (sumN x.npc (x.soN PS w a b) + cnt x.hsize (x.hW w a b)) ∧ ∃ ja : Nat → Nat, u9 = (x.wrF ja 2 w 1 a b).dwS w a b) (fun (u9 : VS) t9 => bW D A (VW dA h ad u9) t9) A) (by decide) (Nat.le_of_ble_eq_true rfl) ?_
  intro A p e s m below meth c ls hsz hB
  obtain ⟨hx, hb, hr, hml, hown, hin, hlk, hE, hK, hP, hD, hS, hA, hN, hl⟩ := hB
  have hown : s.vm.findClass "SeriesVault" = some m.cls := hown
  have hl : lv_has ls 8 [(0, .ref h), (1, .int (nI w)), (2, .long a), (4, .long b)] := hl
  obtain ⟨H, hH⟩ : ∃ z, z = s.heap := ⟨_, rfl⟩
  have hP : va_P D vwCl (VW dA h ad x) H := by rw [hH]; exact hP
  have hS : va_S A s.heap H [] := by rw [hH]; exact hS
  rw [← hH]
  refine lv_aload_n hx hb d_V_delete_0 rfl (lv_at hl 0 rfl) ?_
  refine jfV (rnV (As := []) (rest := []) hx hb hml hown hE hK (hN _ _ hS) hP hD (v_checkPower l D dA H.size h ad x ho) (q0 := 0) rfl rfl w278 w276 w279 w280 w277 rfl rfl ⟨⟨by decide, by decide⟩, rfl⟩ ⟨(Nat.le_of_ble_eq_true rfl), (Nat.le_of_ble_eq_true rfl)⟩ rfl hl.1 rfl (Nat.le_of_ble_eq_true rfl) d_V_delete_1 ⟨(show 0 + 0 ≤ 6 * (x.jcap - x.jN) by omega), (show 0 + 0 ≤ 12 * (x.jcap - x.jN) by omega)⟩) hP hD hS hA (fun u2 H locs hp9 hP hD hS => ?_)
  have hP : va_P D vwCl (VW dA h ad x) H := hP
  have hD : va_D A (VW dA h ad x) := hD
  refine lv_aload_n hx hb d_V_delete_4 rfl (lv_at hl 0 rfl) ?_
  refine lv_iload_n hx hb d_V_delete_5 rfl (lv_at hl 1 rfl) ?_
  refine jfV (rnV (As := [.int (nI w)]) (rest := []) hx hb hml hown hE hK (hN _ _ hS) hP hD (v_checkSeries l D dA H.size h ad x w (show w < x.nser from by omega) (show x.nser ≤ 256 from by omega)) (q0 := 0) rfl rfl w300 w299 w301 w302 w277 rfl rfl ⟨⟨by decide, by decide⟩, rfl⟩ ⟨(Nat.le_of_ble_eq_true rfl), (Nat.le_of_ble_eq_true rfl)⟩ rfl hl.1 rfl (Nat.le_of_ble_eq_true rfl) d_V_delete_6 ⟨(show 0 + 0 + 0 ≤ 6 * (x.jcap - x.jN) by omega), (show 0 + 0 + 0 ≤ 12 * (x.jcap - x.jN) by omega)⟩) hP hD hS hA (fun u4 H locs hp9 hP hD hS => ?_)
  have hP : va_P D vwCl (VW dA h ad x) H := hP
  have hD : va_D A (VW dA h ad x) := hD
  refine lv_lload_n hx hb d_V_delete_9 rfl (lv_at hl 2 rfl) ?_
  refine lv_lload hx hb d_V_delete_10 (lv_at hl 3 rfl) ?_
  refine W.lcmp hx hb d_V_delete_12 ?_
  refine lv_if_le hx hb d_V_delete_13 (tgt := 24) rfl (fun _ => ?_) (fun h9 => absurd ((lg_cmp_le _ _).mpr hab) h9)
  refine lv_aload_n hx hb d_V_delete_24 rfl (lv_at hl 0 rfl) ?_
  refine gF (v := .ref (ad 3)) hx hb hown hE hK hP 0 rfl rfl layV 11 (by decide) w297 rfl d_V_delete_25 ?_
  refine lv_iload_n hx hb d_V_delete_28 rfl (lv_at hl 1 rfl) ?_
  refine lv_lload_n hx hb d_V_delete_29 rfl (lv_at hl 2 rfl) ?_
  refine lv_lload hx hb d_V_delete_30 (lv_at hl 3 rfl) ?_
  refine jfI (rnV (As := [.int (nI w), .long a, .long b]) (rest := []) hx hb hml hown hE hK (hN _ _ hS) hP hD (v_countSeen l D dA H.size h ad x PS w a b hps (show x.npc ≤ 32 from by omega) (show x.nsc ≤ 64 from by omega) h7 (show w < 256 from by omega)) (q0 := 17) rfl rfl w1336 w1335 w1337 w1338 w583 rfl rfl ⟨⟨by decide, by decide⟩, rfl⟩ ⟨(Nat.le_of_ble_eq_true rfl), (Nat.le_of_ble_eq_true rfl)⟩ rfl hl.1 rfl (Nat.le_of_ble_eq_true rfl) d_V_delete_32 ⟨(show 0 + 0 + 0 + 0 ≤ 6 * (x.jcap - x.jN) by omega), (show 0 + 0 + 0 + 0 ≤ 12 * (x.jcap - x.jN) by omega)⟩) hP hD hS hA (fun r5 u6 H locs hp9 hP hD hS => ?_)
  have hP : va_P D vwCl (VW dA h ad x) H := hP
  have hD : va_D A (VW dA h ad x) := hD
  replace hp9 : nI (sumN x.npc (x.soN PS w a b)) = r5 := Eq.symm hp9
  subst hp9
  refine lv_istore hx hb d_V_delete_35 hl (by decide) rfl (fun ls hl => ?_)
  have hl : lv_has ls 8 [(6, .int (nI (sumN x.npc (x.soN PS w a b)))), (0, .ref h), (1, .int (nI w)), (2, .long a), (4, .long b)] := hl
  refine lv_iload hx hb d_V_delete_37 (lv_at hl 0 rfl) ?_
  refine lv_aload_n hx hb d_V_delete_39 rfl (lv_at hl 1 rfl) ?_
  refine gF (v := .ref (ad 1)) hx hb hown hE hK hP 0 rfl rfl layV 9 (by decide) w576 rfl d_V_delete_40 ?_
  refine lv_iload_n hx hb d_V_delete_43 rfl (lv_at hl 2 rfl) ?_
  refine lv_lload_n hx hb d_V_delete_44 rfl (lv_at hl 3 rfl) ?_
  refine lv_lload hx hb d_V_delete_45 (lv_at hl 4 rfl) ?_
  refine jfI (rnV (As := [.int (nI w), .long a, .long b]) (rest := [.int (nI (sumN x.npc (x.soN PS w a b)))]) hx hb hml hown hE hK (hN _ _ hS) hP hD (v_countWithin l D dA H.size h ad x w a b (show x.hsize ≤ x.hN from by omega) (show x.hN ≤ 65536 from by omega) (show w < 2 ^ 31 from by omega) hh7) (q0 := 9) rfl rfl w1356 w1355 w1357 w1358 w578 rfl rfl ⟨⟨by decide, by decide⟩, rfl⟩ ⟨(Nat.le_of_ble_eq_true rfl), (Nat.le_of_ble_eq_true rfl)⟩ rfl hl.1 rfl (Nat.le_of_ble_eq_true rfl) d_V_delete_47 ⟨(show 0 + 0 + 0 + 0 + 0 ≤ 6 * (x.jcap - x.jN) by omega), (show 0 + 0 + 0 + 0 + 0 ≤ 12 * (x.jcap - x.jN) by omega)⟩) hP hD hS hA (fun r7 u8 H locs hp9 hP hD hS => ?_)
  have hP : va_P D vwCl (VW dA h ad x) H := hP
  have hD : va_D A (VW dA h ad x) := hD
  replace hp9 : nI (cnt x.hsize (x.hW w a b)) = r7 := Eq.symm hp9
  subst hp9
  refine lv_iadd hx hb d_V_delete_50 (tpi (y := nI ((sumN x.npc (x.soN PS w a b)) + (cnt x.hsize (x.hW w a b)))) (nI_add (sumN x.npc (x.soN PS w a b)) (cnt x.hsize (x.hW w a b))) ?_)
  refine lv_istore hx hb d_V_delete_51 hl (by decide) rfl (fun ls hl => ?_)
  have hl : lv_has ls 8 [(7, .int (nI ((sumN x.npc (x.soN PS w a b)) + (cnt x.hsize (x.hW w a b))))), (6, .int (nI (sumN x.npc (x.soN PS w a b)))), (0, .ref h), (1, .int (nI w)), (2, .long a), (4, .long b)] := hl
  have so := so_le (w := w) (a := a) (b := b) hps hpn
  have sw := cnt_le x.hsize (x.hW w a b)
  refine lv_iload hx hb d_V_delete_53 (lv_at hl 0 rfl) ?_
  refine lv_if_ne hx hb d_V_delete_55 (tgt := 60) rfl (fun g9 => ?_) (fun g9 => ?_)
  rotate_left
  · have g9 := (nI_eq (a := (sumN x.npc (x.soN PS w a b)) + (cnt x.hsize (x.hW w a b))) (b := 0) (by omega) (by decide)).mp g9; exfalso; omega
  have g9 := mt (nI_eq (a := (sumN x.npc (x.soN PS w a b)) + (cnt x.hsize (x.hW w a b))) (b := 0) (by omega) (by decide)).mpr g9
  refine lv_iload hx hb d_V_delete_60 (lv_at hl 1 rfl) ?_
  refine lv_if_le hx hb d_V_delete_62 (tgt := 77) rfl (fun g10 => ?_) (fun g10 => ?_)
  · have g10 := (nI_leI (a := sumN x.npc (x.soN PS w a b)) (b := 0) (by omega) (by decide)).mp g10
    refine lv_aload_n hx hb d_V_delete_77 rfl (lv_at hl 2 rfl) ?_
    refine gF (v := .ref (ad 0)) hx hb hown hE hK hP 0 rfl rfl layV 8 (by decide) w312 rfl d_V_delete_78 ?_
    refine lv_iconst (v := 1) hx hb d_V_delete_81 (by decide) ?_
    refine jfI (rnV (As := [.int 1]) (rest := []) hx hb hml hown hE hK (hN _ _ hS) hP hD (v_jhasRoom l D dA H.size h ad x 1 (show x.jfill + 1 < 2 ^ 31 from by omega) (show x.jblock + 1 < 2 ^ 31 from by omega) (show x.jlimit < 2 ^ 31 from by omega)) (q0 := 2) rfl rfl w1163 w1162 w1164 w1165 w556 rfl rfl ⟨⟨by decide, by decide⟩, rfl⟩ ⟨(Nat.le_of_ble_eq_true rfl), (Nat.le_of_ble_eq_true rfl)⟩ rfl hl.1 rfl (Nat.le_of_ble_eq_true rfl) d_V_delete_82 ⟨(show 0 + 0 + 0 + 0 + 0 + 0 ≤ 6 * (x.jcap - x.jN) by omega), (show 0 + 0 + 0 + 0 + 0 + 0 ≤ 12 * (x.jcap - x.jN) by omega)⟩) hP hD hS hA (fun r11 u12 H locs hp9 hP hD hS => ?_)
    have hP : va_P D vwCl (VW dA h ad x) H := hP
    have hD : va_D A (VW dA h ad x) := hD
    replace hp9 : bI (x.room 1) = r11 := Eq.symm hp9
    subst hp9
    refine lv_if_ne hx hb d_V_delete_85 (tgt := 96) rfl (fun _ => ?_) (fun h9 => absurd h9 (by rw [hro]; decide))
    refine lv_aload_n hx hb d_V_delete_96 rfl (lv_at hl 2 rfl) ?_
    refine lv_iconst (v := 2) hx hb d_V_delete_97 (by decide) ?_
    refine lv_iload_n hx hb d_V_delete_98 rfl (lv_at hl 3 rfl) ?_
    refine lv_iconst (v := 1) hx hb d_V_delete_99 (by decide) ?_
    refine lv_lload_n hx hb d_V_delete_100 rfl (lv_at hl 4 rfl) ?_
    refine lv_lload hx hb d_V_delete_101 (lv_at hl 5 rfl) ?_
    refine jfV (rnV (As := [.int 2, .int (nI w), .int 1, .long a, .long b]) (rest := []) hx hb hml hown hE hK (hN _ _ hS) hP hD (v_writeRecord l D dA H.size h ad x 2 w 1 a b (show x.jsize ≤ x.jN from by omega) (show 0 < x.jN from by omega) (show x.jN ≤ 65536 from by omega) (show x.jfill + 1 < 2 ^ 31 from by omega) hcr) (q0 := 0) rfl rfl w1133 w1132 w1134 w1135 w277 rfl rfl ⟨⟨by decide, by decide⟩, rfl⟩ ⟨(Nat.le_of_ble_eq_true rfl), (Nat.le_of_ble_eq_true rfl)⟩ rfl hl.1 rfl (Nat.le_of_ble_eq_true rfl) d_V_delete_103 ⟨(show 0 + 0 + 0 + 0 + 0 + 0 + (6 * (x.jcap - x.jN)) ≤ 6 * (x.jcap - x.jN) by omega), (show 0 + 0 + 0 + 0 + 0 + 0 + (12 * (x.jcap - x.jN)) ≤ 12 * (x.jcap - x.jN) by omega)⟩) hP hD hS hA (fun u14 H locs hp9 hP hD hS => ?_)
    obtain ⟨y15, h9u⟩ : ∃ z9, z9 = u14 := ⟨_, rfl⟩
    subst h9u
    have hP : va_P D vwCl (VW dA h ad y15) H := hP
    have hD : va_D A (VW dA h ad y15) := hD
    have f_e_16 := hp9
    obtain ⟨ja, eja⟩ := f_e_16
    have hjk : y15 = x.jkS y15 := by rw [eja]; exact wrF_jk x ja 2 w 1 a b
    have q_nP : y15.nP = x.nP := (congrArg VS.nP hjk).trans (rfl : (x.jkS y15).nP = x.nP)
    have q_npc : y15.npc = x.npc := (congrArg VS.npc hjk).trans (rfl : (x.jkS y15).npc = x.npc)
    have q_pl : y15.pl = x.pl := (congrArg VS.pl hjk).trans (rfl : (x.jkS y15).pl = x.pl)
    have q_nsc : y15.nsc = x.nsc := (congrArg VS.nsc hjk).trans (rfl : (x.jkS y15).nsc = x.nsc)
    have q_nsO : y15.nsO = x.nsO := (congrArg VS.nsO hjk).trans (rfl : (x.jkS y15).nsO = x.nsO)
    have q_hsize : y15.hsize = x.hsize := (congrArg VS.hsize hjk).trans (rfl : (x.jkS y15).hsize = x.hsize)
    have q_hN : y15.hN = x.hN := (congrArg VS.hN hjk).trans (rfl : (x.jkS y15).hN = x.hN)
    have q_hO : y15.hO = x.hO := (congrArg VS.hO hjk).trans (rfl : (x.jkS y15).hO = x.hO)
    have q_soN : y15.soN = x.soN := (congrArg VS.soN hjk).trans (rfl : (x.jkS y15).soN = x.soN)
    refine lv_aload_n hx hb d_V_delete_106 rfl (lv_at hl 2 rfl) ?_
    refine lv_iload_n hx hb d_V_delete_107 rfl (lv_at hl 3 rfl) ?_
    refine lv_lload_n hx hb d_V_delete_108 rfl (lv_at hl 4 rfl) ?_
    refine lv_lload hx hb d_V_delete_109 (lv_at hl 5 rfl) ?_
    refine jfV (rnV (As := [.int (nI w), .long a, .long b]) (rest := []) hx hb hml hown hE hK (hN _ _ hS) hP hD (v_letGo_0 l D dA H.size h ad y15 PS w a b (by rw [q_nP, q_npc, q_pl]; exact hps) (by rw [q_npc]; exact hpn) (by rw [q_nsc]; exact h1) (by rw [q_nsc, q_nsO]; exact h7) (by rw [q_hsize, q_hN]; exact h0) (by rw [q_hN]; exact h9) (show w < 256 from by omega) (by rw [q_hsize, q_hO]; exact hh7) (by rw [q_npc, q_soN]; exact hs)) (q0 := 0) rfl rfl w1360 w1359 w1361 w1362 w277 rfl rfl ⟨⟨by decide, by decide⟩, rfl⟩ ⟨(Nat.le_of_ble_eq_true rfl), (Nat.le_of_ble_eq_true rfl)⟩ rfl hl.1 rfl (Nat.le_of_ble_eq_true rfl) d_V_delete_111 ⟨(show 0 + 0 + 0 + 0 + 0 + 0 + (6 * (x.jcap - x.jN)) + 0 ≤ 6 * (x.jcap - x.jN) by omega), (show 0 + 0 + 0 + 0 + 0 + 0 + (12 * (x.jcap - x.jN)) + 0 ≤ 12 * (x.jcap - x.jN) by omega)⟩) hP hD hS hA (fun u18 H locs hp9 hP hD hS => ?_)
    have hP : va_P D vwCl (VW dA h ad (VS.s_hsize (VS.s_hV (VS.s_hT (VS.s_hO y15 (tdT (y15.hWn w a b) y15.hO y15.hsize)) (tdT (y15.hWn w a b) y15.hT y15.hsize)) (tdT (y15.hWn w a b) y15.hV y15.hsize)) (cnt y15.hsize (y15.hWn w a b)))) H := hP
    have hD : va_D A (VW dA h ad (VS.s_hsize (VS.s_hV (VS.s_hT (VS.s_hO y15 (tdT (y15.hWn w a b) y15.hO y15.hsize)) (tdT (y15.hWn w a b) y15.hT y15.hsize)) (tdT (y15.hWn w a b) y15.hV y15.hsize)) (cnt y15.hsize (y15.hWn w a b)))) := hD
    refine lv_iload hx hb d_V_delete_114 (lv_at hl 0 rfl) ?_
    exact rfI hx hb hr hlk hS (VS.s_hsize (VS.s_hV (VS.s_hT (VS.s_hO y15 (tdT (y15.hWn w a b) y15.hO y15.hsize)) (tdT (y15.hWn w a b) y15.hT y15.hsize)) (tdT (y15.hWn w a b) y15.hV y15.hsize)) (cnt y15.hsize (y15.hWn w a b))) ⟨rfl, ja, by rw [← eja]; rfl⟩ hP hD (show 0 + 0 + 0 + 0 + 0 + 0 + (6 * (x.jcap - x.jN)) + 0 ≤ 6 * (x.jcap - x.jN) by omega) (show 0 + 0 + 0 + 0 + 0 + 0 + (12 * (x.jcap - x.jN)) + 0 ≤ 12 * (x.jcap - x.jN) by omega) d_V_delete_116
  · have g10 := mt (nI_leI (a := sumN x.npc (x.soN PS w a b)) (b := 0) (by omega) (by decide)).mpr g10
    refine lv_aload_n hx hb d_V_delete_65 rfl (lv_at hl 2 rfl) ?_
    refine gF (v := .ref (ad 3)) hx hb hown hE hK hP 0 rfl rfl layV 11 (by decide) w297 rfl d_V_delete_66 ?_
    refine gFN (v := .int (nI x.nsc)) hx hb hown hE hK hP 17 rfl rfl layH 6 (by decide) w642 rfl d_V_delete_69 ?_
    refine lv_bipush (v := 64) hx hb d_V_delete_72 (by decide) ?_
    refine lv_icmp_ge hx hb d_V_delete_74 (tgt := 88) rfl (fun g19 => ?_) (fun g19 => ?_)
    · have g19 := (nI_leI (a := 64) (b := x.nsc) (by omega) (by omega)).mp g19; exfalso; omega
    have g19 := mt (nI_leI (a := 64) (b := x.nsc) (by omega) (by omega)).mpr g19
    refine lv_aload_n hx hb d_V_delete_77 rfl (lv_at hl 2 rfl) ?_
    refine gF (v := .ref (ad 0)) hx hb hown hE hK hP 0 rfl rfl layV 8 (by decide) w312 rfl d_V_delete_78 ?_
    refine lv_iconst (v := 1) hx hb d_V_delete_81 (by decide) ?_
    refine jfI (rnV (As := [.int 1]) (rest := []) hx hb hml hown hE hK (hN _ _ hS) hP hD (v_jhasRoom l D dA H.size h ad x 1 (show x.jfill + 1 < 2 ^ 31 from by omega) (show x.jblock + 1 < 2 ^ 31 from by omega) (show x.jlimit < 2 ^ 31 from by omega)) (q0 := 2) rfl rfl w1163 w1162 w1164 w1165 w556 rfl rfl ⟨⟨by decide, by decide⟩, rfl⟩ ⟨(Nat.le_of_ble_eq_true rfl), (Nat.le_of_ble_eq_true rfl)⟩ rfl hl.1 rfl (Nat.le_of_ble_eq_true rfl) d_V_delete_82 ⟨(show 0 + 0 + 0 + 0 + 0 + 0 ≤ 6 * (x.jcap - x.jN) by omega), (show 0 + 0 + 0 + 0 + 0 + 0 ≤ 12 * (x.jcap - x.jN) by omega)⟩) hP hD hS hA (fun r20 u21 H locs hp9 hP hD hS => ?_)
    have hP : va_P D vwCl (VW dA h ad x) H := hP
    have hD : va_D A (VW dA h ad x) := hD
    replace hp9 : bI (x.room 1) = r20 := Eq.symm hp9
    subst hp9
    refine lv_if_ne hx hb d_V_delete_85 (tgt := 96) rfl (fun _ => ?_) (fun h9 => absurd h9 (by rw [hro]; decide))
    refine lv_aload_n hx hb d_V_delete_96 rfl (lv_at hl 2 rfl) ?_
    refine lv_iconst (v := 2) hx hb d_V_delete_97 (by decide) ?_
    refine lv_iload_n hx hb d_V_delete_98 rfl (lv_at hl 3 rfl) ?_
    refine lv_iconst (v := 1) hx hb d_V_delete_99 (by decide) ?_
    refine lv_lload_n hx hb d_V_delete_100 rfl (lv_at hl 4 rfl) ?_
    refine lv_lload hx hb d_V_delete_101 (lv_at hl 5 rfl) ?_
    refine jfV (rnV (As := [.int 2, .int (nI w), .int 1, .long a, .long b]) (rest := []) hx hb hml hown hE hK (hN _ _ hS) hP hD (v_writeRecord l D dA H.size h ad x 2 w 1 a b (show x.jsize ≤ x.jN from by omega) (show 0 < x.jN from by omega) (show x.jN ≤ 65536 from by omega) (show x.jfill + 1 < 2 ^ 31 from by omega) hcr) (q0 := 0) rfl rfl w1133 w1132 w1134 w1135 w277 rfl rfl ⟨⟨by decide, by decide⟩, rfl⟩ ⟨(Nat.le_of_ble_eq_true rfl), (Nat.le_of_ble_eq_true rfl)⟩ rfl hl.1 rfl (Nat.le_of_ble_eq_true rfl) d_V_delete_103 ⟨(show 0 + 0 + 0 + 0 + 0 + 0 + (6 * (x.jcap - x.jN)) ≤ 6 * (x.jcap - x.jN) by omega), (show 0 + 0 + 0 + 0 + 0 + 0 + (12 * (x.jcap - x.jN)) ≤ 12 * (x.jcap - x.jN) by omega)⟩) hP hD hS hA (fun u23 H locs hp9 hP hD hS => ?_)
    obtain ⟨y24, h9u⟩ : ∃ z9, z9 = u23 := ⟨_, rfl⟩
    subst h9u
    have hP : va_P D vwCl (VW dA h ad y24) H := hP
    have hD : va_D A (VW dA h ad y24) := hD
    have f_e_25 := hp9
    obtain ⟨ja, eja⟩ := f_e_25
    have hjk : y24 = x.jkS y24 := by rw [eja]; exact wrF_jk x ja 2 w 1 a b
    have q_nP : y24.nP = x.nP := (congrArg VS.nP hjk).trans (rfl : (x.jkS y24).nP = x.nP)
    have q_npc : y24.npc = x.npc := (congrArg VS.npc hjk).trans (rfl : (x.jkS y24).npc = x.npc)
    have q_pl : y24.pl = x.pl := (congrArg VS.pl hjk).trans (rfl : (x.jkS y24).pl = x.pl)
    have q_nsc : y24.nsc = x.nsc := (congrArg VS.nsc hjk).trans (rfl : (x.jkS y24).nsc = x.nsc)
    have q_nsO : y24.nsO = x.nsO := (congrArg VS.nsO hjk).trans (rfl : (x.jkS y24).nsO = x.nsO)
    have q_hsize : y24.hsize = x.hsize := (congrArg VS.hsize hjk).trans (rfl : (x.jkS y24).hsize = x.hsize)
    have q_hN : y24.hN = x.hN := (congrArg VS.hN hjk).trans (rfl : (x.jkS y24).hN = x.hN)
    have q_hO : y24.hO = x.hO := (congrArg VS.hO hjk).trans (rfl : (x.jkS y24).hO = x.hO)
    have q_soN : y24.soN = x.soN := (congrArg VS.soN hjk).trans (rfl : (x.jkS y24).soN = x.soN)
    refine lv_aload_n hx hb d_V_delete_106 rfl (lv_at hl 2 rfl) ?_
    refine lv_iload_n hx hb d_V_delete_107 rfl (lv_at hl 3 rfl) ?_
    refine lv_lload_n hx hb d_V_delete_108 rfl (lv_at hl 4 rfl) ?_
    refine lv_lload hx hb d_V_delete_109 (lv_at hl 5 rfl) ?_
    refine jfV (rnV (As := [.int (nI w), .long a, .long b]) (rest := []) hx hb hml hown hE hK (hN _ _ hS) hP hD (v_letGo_0 l D dA H.size h ad y24 PS w a b (by rw [q_nP, q_npc, q_pl]; exact hps) (by rw [q_npc]; exact hpn) (by rw [q_nsc]; exact h1) (by rw [q_nsc, q_nsO]; exact h7) (by rw [q_hsize, q_hN]; exact h0) (by rw [q_hN]; exact h9) (show w < 256 from by omega) (by rw [q_hsize, q_hO]; exact hh7) (by rw [q_npc, q_soN]; exact hs)) (q0 := 0) rfl rfl w1360 w1359 w1361 w1362 w277 rfl rfl ⟨⟨by decide, by decide⟩, rfl⟩ ⟨(Nat.le_of_ble_eq_true rfl), (Nat.le_of_ble_eq_true rfl)⟩ rfl hl.1 rfl (Nat.le_of_ble_eq_true rfl) d_V_delete_111 ⟨(show 0 + 0 + 0 + 0 + 0 + 0 + (6 * (x.jcap - x.jN)) + 0 ≤ 6 * (x.jcap - x.jN) by omega), (show 0 + 0 + 0 + 0 + 0 + 0 + (12 * (x.jcap - x.jN)) + 0 ≤ 12 * (x.jcap - x.jN) by omega)⟩) hP hD hS hA (fun u27 H locs hp9 hP hD hS => ?_)
    have hP : va_P D vwCl (VW dA h ad (VS.s_hsize (VS.s_hV (VS.s_hT (VS.s_hO y24 (tdT (y24.hWn w a b) y24.hO y24.hsize)) (tdT (y24.hWn w a b) y24.hT y24.hsize)) (tdT (y24.hWn w a b) y24.hV y24.hsize)) (cnt y24.hsize (y24.hWn w a b)))) H := hP
    have hD : va_D A (VW dA h ad (VS.s_hsize (VS.s_hV (VS.s_hT (VS.s_hO y24 (tdT (y24.hWn w a b) y24.hO y24.hsize)) (tdT (y24.hWn w a b) y24.hT y24.hsize)) (tdT (y24.hWn w a b) y24.hV y24.hsize)) (cnt y24.hsize (y24.hWn w a b)))) := hD
    refine lv_iload hx hb d_V_delete_114 (lv_at hl 0 rfl) ?_
    exact rfI hx hb hr hlk hS (VS.s_hsize (VS.s_hV (VS.s_hT (VS.s_hO y24 (tdT (y24.hWn w a b) y24.hO y24.hsize)) (tdT (y24.hWn w a b) y24.hT y24.hsize)) (tdT (y24.hWn w a b) y24.hV y24.hsize)) (cnt y24.hsize (y24.hWn w a b))) ⟨rfl, ja, by rw [← eja]; rfl⟩ hP hD (show 0 + 0 + 0 + 0 + 0 + 0 + (6 * (x.jcap - x.jN)) + 0 ≤ 6 * (x.jcap - x.jN) by omega) (show 0 + 0 + 0 + 0 + 0 + 0 + (12 * (x.jcap - x.jN)) + 0 ≤ 12 * (x.jcap - x.jN) by omega) d_V_delete_116
set_option maxHeartbeats 4000000 in
set_option maxRecDepth 100000 in
theorem v_delete_61 (l : Launch) (D : va_G) (dA : Nat → ClassId) (sz : Nat) (h : Nat) (ad : Nat → Nat) (x : VS) (PS : Nat → PT) (w : Nat) (a : Int64) (b : Int64) (ho : x.powered = true) (hw1 : w < x.nser) (hw2 : x.nser ≤ 256) (hab : a ≤ b) (hps : psOk dA x.nP x.npc x.pl PS) (hpn : x.npc ≤ 32) (h1 : x.nsc ≤ 64) (h7 : ∀ q : Nat, q < x.nsc → x.nsO q < 2 ^ 31) (h0 : x.hsize ≤ x.hN) (h9 : x.hN ≤ 65536) (hh7 : ∀ q : Nat, q < x.hsize → x.hO q < 2 ^ 31) (hbu : x.jblock + 1 < 2 ^ 31) (hlu : x.jlimit < 2 ^ 31) (hfl : x.jfill ≤ 126) (hs1 : x.jsize ≤ x.jN) (hs2 : 0 < x.jN) (hs3 : x.jN ≤ 65536) (hz : 0 < sumN x.npc (x.soN PS w a b) + cnt x.hsize (x.hW w a b)) (hs : 0 < sumN x.npc (x.soN PS w a b)) (hs2 : x.nsc < 64) (hro : x.room 1 = true) (hcr : x.jfill + 1 ≤ 126 ∨ x.jch = false ∨ ¬ x.cutLeft = 0) : Met l ⟨"SeriesVault", "delete", "(IJJ)I"⟩ [Cond.code ⟨"SeriesVault", "delete", "(IJJ)I"⟩ prog_1_method_34_code 8 (some FieldType.int)] { frames := 6, cells := 6 * (x.jcap - x.jN), slots := 12 * (x.jcap - x.jN), locals := 136 } (pC D dA [.ref h, .int (nI w), .long a, .long b] (VW dA h ad x) sz) (va_Qi (fun (r9 : Int32) (u9 : VS) => r9 = nI (sumN x.npc (x.soN PS w a b) + cnt x.hsize (x.hW w a b)) ∧ ∃ ja : Nat → Nat, u9 = (x.wrF ja 2 w 1 a b).lg1 w a b) (fun (u9 : VS) t9 => bW D (va_A (VW dA h ad x) sz) (VW dA h ad u9) t9) (va_A (VW dA h ad x) sz)) (6 * (x.jcap - x.jN)) (12 * (x.jcap - x.jN)) (va_A (VW dA h ad x) sz) := by
  refine mkC (y := ⟨"SeriesVault", "delete", "(IJJ)I"⟩) (cc := prog_1_method_34_code) (maxL := 8) (av := [.ref h, .int (nI w), .long a, .long b]) (ws := VW dA h ad x) (sz := sz) (Qc := fun A => va_Qi (fun (r9 : Int32) (u9 : VS) => r9 = nI (sumN x.npc (x.soN PS w a b) + cnt x.hsize (x.hW w a b)) ∧ ∃ ja : Nat → Nat, u9 = (x.wrF ja 2 w 1 a b).lg1 w a b) (fun (u9 : VS) t9 => bW D A (VW dA h ad u9) t9) A) (by decide) (Nat.le_of_ble_eq_true rfl) ?_
  intro A p e s m below meth c ls hsz hB
  obtain ⟨hx, hb, hr, hml, hown, hin, hlk, hE, hK, hP, hD, hS, hA, hN, hl⟩ := hB
  have hown : s.vm.findClass "SeriesVault" = some m.cls := hown
  have hl : lv_has ls 8 [(0, .ref h), (1, .int (nI w)), (2, .long a), (4, .long b)] := hl
  obtain ⟨H, hH⟩ : ∃ z, z = s.heap := ⟨_, rfl⟩
  have hP : va_P D vwCl (VW dA h ad x) H := by rw [hH]; exact hP
  have hS : va_S A s.heap H [] := by rw [hH]; exact hS
  rw [← hH]
  refine lv_aload_n hx hb d_V_delete_0 rfl (lv_at hl 0 rfl) ?_
  refine jfV (rnV (As := []) (rest := []) hx hb hml hown hE hK (hN _ _ hS) hP hD (v_checkPower l D dA H.size h ad x ho) (q0 := 0) rfl rfl w278 w276 w279 w280 w277 rfl rfl ⟨⟨by decide, by decide⟩, rfl⟩ ⟨(Nat.le_of_ble_eq_true rfl), (Nat.le_of_ble_eq_true rfl)⟩ rfl hl.1 rfl (Nat.le_of_ble_eq_true rfl) d_V_delete_1 ⟨(show 0 + 0 ≤ 6 * (x.jcap - x.jN) by omega), (show 0 + 0 ≤ 12 * (x.jcap - x.jN) by omega)⟩) hP hD hS hA (fun u2 H locs hp9 hP hD hS => ?_)
  have hP : va_P D vwCl (VW dA h ad x) H := hP
  have hD : va_D A (VW dA h ad x) := hD
  refine lv_aload_n hx hb d_V_delete_4 rfl (lv_at hl 0 rfl) ?_
  refine lv_iload_n hx hb d_V_delete_5 rfl (lv_at hl 1 rfl) ?_
  refine jfV (rnV (As := [.int (nI w)]) (rest := []) hx hb hml hown hE hK (hN _ _ hS) hP hD (v_checkSeries l D dA H.size h ad x w (show w < x.nser from by omega) (show x.nser ≤ 256 from by omega)) (q0 := 0) rfl rfl w300 w299 w301 w302 w277 rfl rfl ⟨⟨by decide, by decide⟩, rfl⟩ ⟨(Nat.le_of_ble_eq_true rfl), (Nat.le_of_ble_eq_true rfl)⟩ rfl hl.1 rfl (Nat.le_of_ble_eq_true rfl) d_V_delete_6 ⟨(show 0 + 0 + 0 ≤ 6 * (x.jcap - x.jN) by omega), (show 0 + 0 + 0 ≤ 12 * (x.jcap - x.jN) by omega)⟩) hP hD hS hA (fun u4 H locs hp9 hP hD hS => ?_)
  have hP : va_P D vwCl (VW dA h ad x) H := hP
  have hD : va_D A (VW dA h ad x) := hD
  refine lv_lload_n hx hb d_V_delete_9 rfl (lv_at hl 2 rfl) ?_
  refine lv_lload hx hb d_V_delete_10 (lv_at hl 3 rfl) ?_
  refine W.lcmp hx hb d_V_delete_12 ?_
  refine lv_if_le hx hb d_V_delete_13 (tgt := 24) rfl (fun _ => ?_) (fun h9 => absurd ((lg_cmp_le _ _).mpr hab) h9)
  refine lv_aload_n hx hb d_V_delete_24 rfl (lv_at hl 0 rfl) ?_
  refine gF (v := .ref (ad 3)) hx hb hown hE hK hP 0 rfl rfl layV 11 (by decide) w297 rfl d_V_delete_25 ?_
  refine lv_iload_n hx hb d_V_delete_28 rfl (lv_at hl 1 rfl) ?_
  refine lv_lload_n hx hb d_V_delete_29 rfl (lv_at hl 2 rfl) ?_
  refine lv_lload hx hb d_V_delete_30 (lv_at hl 3 rfl) ?_
  refine jfI (rnV (As := [.int (nI w), .long a, .long b]) (rest := []) hx hb hml hown hE hK (hN _ _ hS) hP hD (v_countSeen l D dA H.size h ad x PS w a b hps (show x.npc ≤ 32 from by omega) (show x.nsc ≤ 64 from by omega) h7 (show w < 256 from by omega)) (q0 := 17) rfl rfl w1336 w1335 w1337 w1338 w583 rfl rfl ⟨⟨by decide, by decide⟩, rfl⟩ ⟨(Nat.le_of_ble_eq_true rfl), (Nat.le_of_ble_eq_true rfl)⟩ rfl hl.1 rfl (Nat.le_of_ble_eq_true rfl) d_V_delete_32 ⟨(show 0 + 0 + 0 + 0 ≤ 6 * (x.jcap - x.jN) by omega), (show 0 + 0 + 0 + 0 ≤ 12 * (x.jcap - x.jN) by omega)⟩) hP hD hS hA (fun r5 u6 H locs hp9 hP hD hS => ?_)
  have hP : va_P D vwCl (VW dA h ad x) H := hP
  have hD : va_D A (VW dA h ad x) := hD
  replace hp9 : nI (sumN x.npc (x.soN PS w a b)) = r5 := Eq.symm hp9
  subst hp9
  refine lv_istore hx hb d_V_delete_35 hl (by decide) rfl (fun ls hl => ?_)
  have hl : lv_has ls 8 [(6, .int (nI (sumN x.npc (x.soN PS w a b)))), (0, .ref h), (1, .int (nI w)), (2, .long a), (4, .long b)] := hl
  refine lv_iload hx hb d_V_delete_37 (lv_at hl 0 rfl) ?_
  refine lv_aload_n hx hb d_V_delete_39 rfl (lv_at hl 1 rfl) ?_
  refine gF (v := .ref (ad 1)) hx hb hown hE hK hP 0 rfl rfl layV 9 (by decide) w576 rfl d_V_delete_40 ?_
  refine lv_iload_n hx hb d_V_delete_43 rfl (lv_at hl 2 rfl) ?_
  refine lv_lload_n hx hb d_V_delete_44 rfl (lv_at hl 3 rfl) ?_
  refine lv_lload hx hb d_V_delete_45 (lv_at hl 4 rfl) ?_
  refine jfI (rnV (As := [.int (nI w), .long a, .long b]) (rest := [.int (nI (sumN x.npc (x.soN PS w a b)))]) hx hb hml hown hE hK (hN _ _ hS) hP hD (v_countWithin l D dA H.size h ad x w a b (show x.hsize ≤ x.hN from by omega) (show x.hN ≤ 65536 from by omega) (show w < 2 ^ 31 from by omega) hh7) (q0 := 9) rfl rfl w1356 w1355 w1357 w1358 w578 rfl rfl ⟨⟨by decide, by decide⟩, rfl⟩ ⟨(Nat.le_of_ble_eq_true rfl), (Nat.le_of_ble_eq_true rfl)⟩ rfl hl.1 rfl (Nat.le_of_ble_eq_true rfl) d_V_delete_47 ⟨(show 0 + 0 + 0 + 0 + 0 ≤ 6 * (x.jcap - x.jN) by omega), (show 0 + 0 + 0 + 0 + 0 ≤ 12 * (x.jcap - x.jN) by omega)⟩) hP hD hS hA (fun r7 u8 H locs hp9 hP hD hS => ?_)
  have hP : va_P D vwCl (VW dA h ad x) H := hP
  have hD : va_D A (VW dA h ad x) := hD
  replace hp9 : nI (cnt x.hsize (x.hW w a b)) = r7 := Eq.symm hp9
  subst hp9
  refine lv_iadd hx hb d_V_delete_50 (tpi (y := nI ((sumN x.npc (x.soN PS w a b)) + (cnt x.hsize (x.hW w a b)))) (nI_add (sumN x.npc (x.soN PS w a b)) (cnt x.hsize (x.hW w a b))) ?_)
  refine lv_istore hx hb d_V_delete_51 hl (by decide) rfl (fun ls hl => ?_)
  have hl : lv_has ls 8 [(7, .int (nI ((sumN x.npc (x.soN PS w a b)) + (cnt x.hsize (x.hW w a b))))), (6, .int (nI (sumN x.npc (x.soN PS w a b)))), (0, .ref h), (1, .int (nI w)), (2, .long a), (4, .long b)] := hl
  have so := so_le (w := w) (a := a) (b := b) hps hpn
  have sw := cnt_le x.hsize (x.hW w a b)
  refine lv_iload hx hb d_V_delete_53 (lv_at hl 0 rfl) ?_
  refine lv_if_ne hx hb d_V_delete_55 (tgt := 60) rfl (fun g9 => ?_) (fun g9 => ?_)
  rotate_left
  · have g9 := (nI_eq (a := (sumN x.npc (x.soN PS w a b)) + (cnt x.hsize (x.hW w a b))) (b := 0) (by omega) (by decide)).mp g9; exfalso; omega
  have g9 := mt (nI_eq (a := (sumN x.npc (x.soN PS w a b)) + (cnt x.hsize (x.hW w a b))) (b := 0) (by omega) (by decide)).mpr g9
  refine lv_iload hx hb d_V_delete_60 (lv_at hl 1 rfl) ?_
  refine lv_if_le hx hb d_V_delete_62 (tgt := 77) rfl (fun h9 => absurd h9 (mt (nI_leI (a := sumN x.npc (x.soN PS w a b)) (b := 0) (by omega) (by omega)).mp (Nat.not_le.mpr hs))) (fun _ => ?_)
  refine lv_aload_n hx hb d_V_delete_65 rfl (lv_at hl 2 rfl) ?_
  refine gF (v := .ref (ad 3)) hx hb hown hE hK hP 0 rfl rfl layV 11 (by decide) w297 rfl d_V_delete_66 ?_
  refine gFN (v := .int (nI x.nsc)) hx hb hown hE hK hP 17 rfl rfl layH 6 (by decide) w642 rfl d_V_delete_69 ?_
  refine lv_bipush (v := 64) hx hb d_V_delete_72 (by decide) ?_
  refine lv_icmp_ge hx hb d_V_delete_74 (tgt := 88) rfl (fun h9 => absurd h9 (mt (nI_leI (a := 64) (b := x.nsc) (by omega) (by omega)).mp (Nat.not_le.mpr hs2))) (fun _ => ?_)
  refine lv_aload_n hx hb d_V_delete_77 rfl (lv_at hl 2 rfl) ?_
  refine gF (v := .ref (ad 0)) hx hb hown hE hK hP 0 rfl rfl layV 8 (by decide) w312 rfl d_V_delete_78 ?_
  refine lv_iconst (v := 1) hx hb d_V_delete_81 (by decide) ?_
  refine jfI (rnV (As := [.int 1]) (rest := []) hx hb hml hown hE hK (hN _ _ hS) hP hD (v_jhasRoom l D dA H.size h ad x 1 (show x.jfill + 1 < 2 ^ 31 from by omega) (show x.jblock + 1 < 2 ^ 31 from by omega) (show x.jlimit < 2 ^ 31 from by omega)) (q0 := 2) rfl rfl w1163 w1162 w1164 w1165 w556 rfl rfl ⟨⟨by decide, by decide⟩, rfl⟩ ⟨(Nat.le_of_ble_eq_true rfl), (Nat.le_of_ble_eq_true rfl)⟩ rfl hl.1 rfl (Nat.le_of_ble_eq_true rfl) d_V_delete_82 ⟨(show 0 + 0 + 0 + 0 + 0 + 0 ≤ 6 * (x.jcap - x.jN) by omega), (show 0 + 0 + 0 + 0 + 0 + 0 ≤ 12 * (x.jcap - x.jN) by omega)⟩) hP hD hS hA (fun r10 u11 H locs hp9 hP hD hS => ?_)
  have hP : va_P D vwCl (VW dA h ad x) H := hP
  have hD : va_D A (VW dA h ad x) := hD
  replace hp9 : bI (x.room 1) = r10 := Eq.symm hp9
  subst hp9
  refine lv_if_ne hx hb d_V_delete_85 (tgt := 96) rfl (fun _ => ?_) (fun h9 => absurd h9 (by rw [hro]; decide))
  refine lv_aload_n hx hb d_V_delete_96 rfl (lv_at hl 2 rfl) ?_
  refine lv_iconst (v := 2) hx hb d_V_delete_97 (by decide) ?_
  refine lv_iload_n hx hb d_V_delete_98 rfl (lv_at hl 3 rfl) ?_
  refine lv_iconst (v := 1) hx hb d_V_delete_99 (by decide) ?_
  refine lv_lload_n hx hb d_V_delete_100 rfl (lv_at hl 4 rfl) ?_
  refine lv_lload hx hb d_V_delete_101 (lv_at hl 5 rfl) ?_
  refine jfV (rnV (As := [.int 2, .int (nI w), .int 1, .long a, .long b]) (rest := []) hx hb hml hown hE hK (hN _ _ hS) hP hD (v_writeRecord l D dA H.size h ad x 2 w 1 a b (show x.jsize ≤ x.jN from by omega) (show 0 < x.jN from by omega) (show x.jN ≤ 65536 from by omega) (show x.jfill + 1 < 2 ^ 31 from by omega) hcr) (q0 := 0) rfl rfl w1133 w1132 w1134 w1135 w277 rfl rfl ⟨⟨by decide, by decide⟩, rfl⟩ ⟨(Nat.le_of_ble_eq_true rfl), (Nat.le_of_ble_eq_true rfl)⟩ rfl hl.1 rfl (Nat.le_of_ble_eq_true rfl) d_V_delete_103 ⟨(show 0 + 0 + 0 + 0 + 0 + 0 + (6 * (x.jcap - x.jN)) ≤ 6 * (x.jcap - x.jN) by omega), (show 0 + 0 + 0 + 0 + 0 + 0 + (12 * (x.jcap - x.jN)) ≤ 12 * (x.jcap - x.jN) by omega)⟩) hP hD hS hA (fun u13 H locs hp9 hP hD hS => ?_)
  obtain ⟨y14, h9u⟩ : ∃ z9, z9 = u13 := ⟨_, rfl⟩
  subst h9u
  have hP : va_P D vwCl (VW dA h ad y14) H := hP
  have hD : va_D A (VW dA h ad y14) := hD
  have f_e_15 := hp9
  obtain ⟨ja, eja⟩ := f_e_15
  have hjk : y14 = x.jkS y14 := by rw [eja]; exact wrF_jk x ja 2 w 1 a b
  have q_nP : y14.nP = x.nP := (congrArg VS.nP hjk).trans (rfl : (x.jkS y14).nP = x.nP)
  have q_npc : y14.npc = x.npc := (congrArg VS.npc hjk).trans (rfl : (x.jkS y14).npc = x.npc)
  have q_pl : y14.pl = x.pl := (congrArg VS.pl hjk).trans (rfl : (x.jkS y14).pl = x.pl)
  have q_nsc : y14.nsc = x.nsc := (congrArg VS.nsc hjk).trans (rfl : (x.jkS y14).nsc = x.nsc)
  have q_nsO : y14.nsO = x.nsO := (congrArg VS.nsO hjk).trans (rfl : (x.jkS y14).nsO = x.nsO)
  have q_hsize : y14.hsize = x.hsize := (congrArg VS.hsize hjk).trans (rfl : (x.jkS y14).hsize = x.hsize)
  have q_hN : y14.hN = x.hN := (congrArg VS.hN hjk).trans (rfl : (x.jkS y14).hN = x.hN)
  have q_hO : y14.hO = x.hO := (congrArg VS.hO hjk).trans (rfl : (x.jkS y14).hO = x.hO)
  have q_soN : y14.soN = x.soN := (congrArg VS.soN hjk).trans (rfl : (x.jkS y14).soN = x.soN)
  refine lv_aload_n hx hb d_V_delete_106 rfl (lv_at hl 2 rfl) ?_
  refine lv_iload_n hx hb d_V_delete_107 rfl (lv_at hl 3 rfl) ?_
  refine lv_lload_n hx hb d_V_delete_108 rfl (lv_at hl 4 rfl) ?_
  refine lv_lload hx hb d_V_delete_109 (lv_at hl 5 rfl) ?_
  refine jfV (rnV (As := [.int (nI w), .long a, .long b]) (rest := []) hx hb hml hown hE hK (hN _ _ hS) hP hD (v_letGo_1 l D dA H.size h ad y14 PS w a b (by rw [q_nP, q_npc, q_pl]; exact hps) (by rw [q_npc]; exact hpn) (by rw [q_nsc]; exact h1) (by rw [q_nsc, q_nsO]; exact h7) (by rw [q_hsize, q_hN]; exact h0) (by rw [q_hN]; exact h9) (show w < 256 from by omega) (by rw [q_hsize, q_hO]; exact hh7) (by rw [q_npc, q_soN]; exact hs) (by rw [q_nsc]; exact hs2)) (q0 := 0) rfl rfl w1360 w1359 w1361 w1362 w277 rfl rfl ⟨⟨by decide, by decide⟩, rfl⟩ ⟨(Nat.le_of_ble_eq_true rfl), (Nat.le_of_ble_eq_true rfl)⟩ rfl hl.1 rfl (Nat.le_of_ble_eq_true rfl) d_V_delete_111 ⟨(show 0 + 0 + 0 + 0 + 0 + 0 + (6 * (x.jcap - x.jN)) + 0 ≤ 6 * (x.jcap - x.jN) by omega), (show 0 + 0 + 0 + 0 + 0 + 0 + (12 * (x.jcap - x.jN)) + 0 ≤ 12 * (x.jcap - x.jN) by omega)⟩) hP hD hS hA (fun u17 H locs hp9 hP hD hS => ?_)
  have hP : va_P D vwCl (VW dA h ad (VS.s_nsc (VS.s_nsT (VS.s_nsF (VS.s_nsO (VS.s_hsize (VS.s_hV (VS.s_hT (VS.s_hO y14 (tdT (y14.hWn w a b) y14.hO y14.hsize)) (tdT (y14.hWn w a b) y14.hT y14.hsize)) (tdT (y14.hWn w a b) y14.hV y14.hsize)) (cnt y14.hsize (y14.hWn w a b))) (va_up y14.nsO y14.nsc w)) (va_up y14.nsF y14.nsc (maxL a y14.nhor))) (va_up y14.nsT y14.nsc (minL b (y14.nlast w)))) (y14.nsc + 1))) H := hP
  have hD : va_D A (VW dA h ad (VS.s_nsc (VS.s_nsT (VS.s_nsF (VS.s_nsO (VS.s_hsize (VS.s_hV (VS.s_hT (VS.s_hO y14 (tdT (y14.hWn w a b) y14.hO y14.hsize)) (tdT (y14.hWn w a b) y14.hT y14.hsize)) (tdT (y14.hWn w a b) y14.hV y14.hsize)) (cnt y14.hsize (y14.hWn w a b))) (va_up y14.nsO y14.nsc w)) (va_up y14.nsF y14.nsc (maxL a y14.nhor))) (va_up y14.nsT y14.nsc (minL b (y14.nlast w)))) (y14.nsc + 1))) := hD
  refine lv_iload hx hb d_V_delete_114 (lv_at hl 0 rfl) ?_
  exact rfI hx hb hr hlk hS (VS.s_nsc (VS.s_nsT (VS.s_nsF (VS.s_nsO (VS.s_hsize (VS.s_hV (VS.s_hT (VS.s_hO y14 (tdT (y14.hWn w a b) y14.hO y14.hsize)) (tdT (y14.hWn w a b) y14.hT y14.hsize)) (tdT (y14.hWn w a b) y14.hV y14.hsize)) (cnt y14.hsize (y14.hWn w a b))) (va_up y14.nsO y14.nsc w)) (va_up y14.nsF y14.nsc (maxL a y14.nhor))) (va_up y14.nsT y14.nsc (minL b (y14.nlast w)))) (y14.nsc + 1)) ⟨rfl, ja, by rw [← eja]; rfl⟩ hP hD (show 0 + 0 + 0 + 0 + 0 + 0 + (6 * (x.jcap - x.jN)) + 0 ≤ 6 * (x.jcap - x.jN) by omega) (show 0 + 0 + 0 + 0 + 0 + 0 + (12 * (x.jcap - x.jN)) + 0 ≤ 12 * (x.jcap - x.jN) by omega) d_V_delete_116
