theorem d_J_fitsInBlock_0 : decode prog_3_method_4_code 0 = .ok (.aload_n 0, 1) := by decide +kernel
theorem d_J_fitsInBlock_1 : decode prog_3_method_4_code 1 = .ok (.getfield 44, 3) := by decide +kernel
theorem d_J_fitsInBlock_4 : decode prog_3_method_4_code 4 = .ok (.iload_n 1, 1) := by decide +kernel
theorem d_J_fitsInBlock_5 : decode prog_3_method_4_code 5 = .ok (.iadd, 1) := by decide +kernel
theorem d_J_fitsInBlock_6 : decode prog_3_method_4_code 6 = .ok (.bipush 126, 2) := by decide +kernel
theorem d_J_fitsInBlock_8 : decode prog_3_method_4_code 8 = .ok (.if_icmp .gt 7, 3) := by decide +kernel
theorem d_J_fitsInBlock_15 : decode prog_3_method_4_code 15 = .ok (.iconst 0, 1) := by decide +kernel
theorem d_J_fitsInBlock_16 : decode prog_3_method_4_code 16 = .ok (.ireturn, 1) := by decide +kernel
theorem d_J_fitsInBlock_11 : decode prog_3_method_4_code 11 = .ok (.iconst 1, 1) := by decide +kernel
theorem d_J_fitsInBlock_12 : decode prog_3_method_4_code 12 = .ok (.goto 4, 3) := by decide +kernel
set_option maxHeartbeats 4000000 in
set_option maxRecDepth 100000 in
theorem v_fitsInBlock (l : Launch) (D : va_G) (dA : Nat → ClassId) (sz : Nat) (h : Nat) (ad : Nat → Nat) (x : VS) (n : Nat) (h1 : x.jfill + n < 2 ^ 31) : Met l ⟨"SeriesVault$Journal", "fitsInBlock", "(I)Z"⟩ [Cond.code ⟨"SeriesVault$Journal", "fitsInBlock", "(I)Z"⟩ prog_3_method_4_code 2 (some FieldType.boolean)] { frames := 1, cells := 0, slots := 0, locals := 0 } (pC D dA [.ref (ad 0), .int (nI n)] (VW dA h ad x) sz) (va_Qi (fun (r9 : Int32) (u9 : Unit) => r9 = bI (decide (x.jfill + n ≤ 126))) (fun (u9 : Unit) t9 => bW D (va_A (VW dA h ad x) sz) (VW dA h ad x) t9) (va_A (VW dA h ad x) sz)) 0 0 (va_A (VW dA h ad x) sz) := by
  refine mkC (y := ⟨"SeriesVault$Journal", "fitsInBlock", "(I)Z"⟩) (cc := prog_3_method_4_code) (maxL := 2) (av := [.ref (ad 0), .int (nI n)]) (ws := VW dA h ad x) (sz := sz) (Qc := fun A => va_Qi (fun (r9 : Int32) (u9 : Unit) => r9 = bI (decide (x.jfill + n ≤ 126))) (fun (u9 : Unit) t9 => bW D A (VW dA h ad x) t9) A) (by decide) (Nat.le_of_ble_eq_true rfl) ?_
  intro A p e s m below meth c ls hsz hB
  obtain ⟨hx, hb, hr, hml, hown, hin, hlk, hE, hK, hP, hD, hS, hA, hN, hl⟩ := hB
  have hown : s.vm.findClass "SeriesVault$Journal" = some m.cls := hown
  have hl : lv_has ls 2 [(0, .ref (ad 0)), (1, .int (nI n))] := hl
  obtain ⟨H, hH⟩ : ∃ z, z = s.heap := ⟨_, rfl⟩
  have hP : va_P D vwCl (VW dA h ad x) H := by rw [hH]; exact hP
  have hS : va_S A s.heap H [] := by rw [hH]; exact hS
  rw [← hH]
  refine lv_aload_n hx hb d_J_fitsInBlock_0 rfl (lv_at hl 0 rfl) ?_
  refine gF (v := .int (nI x.jfill)) hx hb hown hE hK hP 2 rfl rfl layJ 11 (by decide) w554 rfl d_J_fitsInBlock_1 ?_
  refine lv_iload_n hx hb d_J_fitsInBlock_4 rfl (lv_at hl 1 rfl) ?_
  refine lv_iadd hx hb d_J_fitsInBlock_5 (tpi (y := nI (x.jfill + n)) (nI_add (x.jfill) (n)) ?_)
  refine lv_bipush (v := 126) hx hb d_J_fitsInBlock_6 (by decide) ?_
  refine lv_icmp_gt hx hb d_J_fitsInBlock_8 (tgt := 15) rfl (fun g1 => ?_) (fun g1 => ?_)
  · have g1 := (nI_ltI (a := 126) (b := x.jfill + n) (by omega) (by omega)).mp g1
    refine lv_iconst (v := 0) hx hb d_J_fitsInBlock_15 (by decide) ?_
    exact rfZ hx hb hr (bI_nar false) hlk hS () (by rw [decide_eq_false (by omega)]; rfl) hP hD (Nat.le_of_ble_eq_true rfl) (Nat.le_of_ble_eq_true rfl) d_J_fitsInBlock_16
  · have g1 := mt (nI_ltI (a := 126) (b := x.jfill + n) (by omega) (by omega)).mpr g1
    refine lv_iconst (v := 1) hx hb d_J_fitsInBlock_11 (by decide) ?_
    refine lv_goto hx hb d_J_fitsInBlock_12 (tgt := 16) rfl ?_
    exact rfZ hx hb hr (bI_nar true) hlk hS () (by rw [decide_eq_true (by omega)]; rfl) hP hD (Nat.le_of_ble_eq_true rfl) (Nat.le_of_ble_eq_true rfl) d_J_fitsInBlock_16
def VS.room (x : VS) (n : Nat) : Bool := decide (x.jfill + n ≤ 126) || decide (x.jblock + 1 < x.jlimit)
theorem d_J_hasRoom_0 : decode prog_3_method_5_code 0 = .ok (.aload_n 0, 1) := by decide +kernel
theorem d_J_hasRoom_1 : decode prog_3_method_5_code 1 = .ok (.iload_n 1, 1) := by decide +kernel
theorem d_J_hasRoom_2 : decode prog_3_method_5_code 2 = .ok (.invokevirtual 47, 3) := by decide +kernel
theorem d_J_hasRoom_5 : decode prog_3_method_5_code 5 = .ok (.ifCond .ne 16, 3) := by decide +kernel
theorem d_J_hasRoom_21 : decode prog_3_method_5_code 21 = .ok (.iconst 1, 1) := by decide +kernel
theorem d_J_hasRoom_22 : decode prog_3_method_5_code 22 = .ok (.goto 4, 3) := by decide +kernel
theorem d_J_hasRoom_26 : decode prog_3_method_5_code 26 = .ok (.ireturn, 1) := by decide +kernel
theorem d_J_hasRoom_8 : decode prog_3_method_5_code 8 = .ok (.aload_n 0, 1) := by decide +kernel
theorem d_J_hasRoom_9 : decode prog_3_method_5_code 9 = .ok (.getfield 51, 3) := by decide +kernel
theorem d_J_hasRoom_12 : decode prog_3_method_5_code 12 = .ok (.iconst 1, 1) := by decide +kernel
theorem d_J_hasRoom_13 : decode prog_3_method_5_code 13 = .ok (.iadd, 1) := by decide +kernel
theorem d_J_hasRoom_14 : decode prog_3_method_5_code 14 = .ok (.aload_n 0, 1) := by decide +kernel
theorem d_J_hasRoom_15 : decode prog_3_method_5_code 15 = .ok (.getfield 31, 3) := by decide +kernel
theorem d_J_hasRoom_18 : decode prog_3_method_5_code 18 = .ok (.if_icmp .ge 7, 3) := by decide +kernel
theorem d_J_hasRoom_25 : decode prog_3_method_5_code 25 = .ok (.iconst 0, 1) := by decide +kernel
theorem w1081 : Cond.methodLink "SeriesVault$Journal" 47 ⟨"SeriesVault$Journal", "fitsInBlock", "(I)Z"⟩ ∈ aW := aw_of (tb_5 (List.mem_of_getElem? (i := 38) rfl)) rfl
theorem w1082 : Cond.code ⟨"SeriesVault$Journal", "fitsInBlock", "(I)Z"⟩ prog_3_method_4_code 2 (some FieldType.boolean) ∈ aW := aw_of (tb_5 (List.mem_of_getElem? (i := 41) rfl)) rfl
theorem w1083 : Cond.instanceMethod ⟨"SeriesVault$Journal", "fitsInBlock", "(I)Z"⟩ ∈ aW := aw_of (tb_5 (List.mem_of_getElem? (i := 39) rfl)) rfl
theorem w1084 : Cond.selects "SeriesVault$Journal" ⟨"SeriesVault$Journal", "fitsInBlock", "(I)Z"⟩ ⟨"SeriesVault$Journal", "fitsInBlock", "(I)Z"⟩ ∈ aW := aw_of (tb_5 (List.mem_of_getElem? (i := 40) rfl)) rfl
set_option maxHeartbeats 4000000 in
set_option maxRecDepth 100000 in
theorem v_jhasRoom (l : Launch) (D : va_G) (dA : Nat → ClassId) (sz : Nat) (h : Nat) (ad : Nat → Nat) (x : VS) (n : Nat) (h1 : x.jfill + n < 2 ^ 31) (h2 : x.jblock + 1 < 2 ^ 31) (h3 : x.jlimit < 2 ^ 31) : Met l ⟨"SeriesVault$Journal", "hasRoom", "(I)Z"⟩ [Cond.code ⟨"SeriesVault$Journal", "hasRoom", "(I)Z"⟩ prog_3_method_5_code 2 (some FieldType.boolean)] { frames := 2, cells := 0, slots := 0, locals := 21 } (pC D dA [.ref (ad 0), .int (nI n)] (VW dA h ad x) sz) (va_Qi (fun (r9 : Int32) (u9 : Unit) => r9 = bI (x.room n)) (fun (u9 : Unit) t9 => bW D (va_A (VW dA h ad x) sz) (VW dA h ad x) t9) (va_A (VW dA h ad x) sz)) 0 0 (va_A (VW dA h ad x) sz) := by
  refine mkC (y := ⟨"SeriesVault$Journal", "hasRoom", "(I)Z"⟩) (cc := prog_3_method_5_code) (maxL := 2) (av := [.ref (ad 0), .int (nI n)]) (ws := VW dA h ad x) (sz := sz) (Qc := fun A => va_Qi (fun (r9 : Int32) (u9 : Unit) => r9 = bI (x.room n)) (fun (u9 : Unit) t9 => bW D A (VW dA h ad x) t9) A) (by decide) (Nat.le_of_ble_eq_true rfl) ?_
  intro A p e s m below meth c ls hsz hB
  obtain ⟨hx, hb, hr, hml, hown, hin, hlk, hE, hK, hP, hD, hS, hA, hN, hl⟩ := hB
  have hown : s.vm.findClass "SeriesVault$Journal" = some m.cls := hown
  have hl : lv_has ls 2 [(0, .ref (ad 0)), (1, .int (nI n))] := hl
  obtain ⟨H, hH⟩ : ∃ z, z = s.heap := ⟨_, rfl⟩
  have hP : va_P D vwCl (VW dA h ad x) H := by rw [hH]; exact hP
  have hS : va_S A s.heap H [] := by rw [hH]; exact hS
  rw [← hH]
  refine lv_aload_n hx hb d_J_hasRoom_0 rfl (lv_at hl 0 rfl) ?_
  refine lv_iload_n hx hb d_J_hasRoom_1 rfl (lv_at hl 1 rfl) ?_
  refine jfI (rnV (As := [.int (nI n)]) (rest := []) hx hb hml hown hE hK (hN _ _ hS) hP hD (v_fitsInBlock l D dA H.size h ad x n (show x.jfill + n < 2 ^ 31 from by omega)) (q0 := 2) rfl rfl w1082 w1081 w1083 w1084 w556 rfl rfl ⟨⟨by decide, by decide⟩, rfl⟩ ⟨(Nat.le_of_ble_eq_true rfl), (Nat.le_of_ble_eq_true rfl)⟩ rfl hl.1 rfl (Nat.le_of_ble_eq_true rfl) d_J_hasRoom_2 ⟨(Nat.le_of_ble_eq_true rfl), (Nat.le_of_ble_eq_true rfl)⟩) hP hD hS hA (fun r1 u2 H locs hp9 hP hD hS => ?_)
  have hP : va_P D vwCl (VW dA h ad x) H := hP
  have hD : va_D A (VW dA h ad x) := hD
  replace hp9 : bI (decide (x.jfill + n ≤ 126)) = r1 := Eq.symm hp9
  subst hp9
  refine lv_if_ne hx hb d_J_hasRoom_5 (tgt := 21) rfl (fun g3 => ?_) (fun g3 => ?_)
  · have g3 := bI_n0 g3
    refine lv_iconst (v := 1) hx hb d_J_hasRoom_21 (by decide) ?_
    refine lv_goto hx hb d_J_hasRoom_22 (tgt := 26) rfl ?_
    exact rfZ hx hb hr (bI_nar true) hlk hS () (by unfold VS.room; simp [bI, *]) hP hD (Nat.le_of_ble_eq_true rfl) (Nat.le_of_ble_eq_true rfl) d_J_hasRoom_26
  · have g3 := bI_0 g3
    refine lv_aload_n hx hb d_J_hasRoom_8 rfl (lv_at hl 0 rfl) ?_
    refine gF (v := .int (nI x.jblock)) hx hb hown hE hK hP 2 rfl rfl layJ 10 (by decide) w553 rfl d_J_hasRoom_9 ?_
    refine lv_iconst (v := 1) hx hb d_J_hasRoom_12 (by decide) ?_
    refine lv_iadd hx hb d_J_hasRoom_13 (tpi (y := nI (x.jblock + 1)) (nI_add (x.jblock) (1)) ?_)
    refine lv_aload_n hx hb d_J_hasRoom_14 rfl (lv_at hl 0 rfl) ?_
    refine gF (v := .int (nI x.jlimit)) hx hb hown hE hK hP 2 rfl rfl layJ 9 (by decide) w560 rfl d_J_hasRoom_15 ?_
    refine lv_icmp_ge hx hb d_J_hasRoom_18 (tgt := 25) rfl (fun g4 => ?_) (fun g4 => ?_)
    · have g4 := (nI_leI (a := x.jlimit) (b := x.jblock + 1) (by omega) (by omega)).mp g4
      refine lv_iconst (v := 0) hx hb d_J_hasRoom_25 (by decide) ?_
      exact rfZ hx hb hr (bI_nar false) hlk hS () (by unfold VS.room; simp [bI, *]) hP hD (Nat.le_of_ble_eq_true rfl) (Nat.le_of_ble_eq_true rfl) d_J_hasRoom_26
    · have g4 := mt (nI_leI (a := x.jlimit) (b := x.jblock + 1) (by omega) (by omega)).mpr g4
      refine lv_iconst (v := 1) hx hb d_J_hasRoom_21 (by decide) ?_
      refine lv_goto hx hb d_J_hasRoom_22 (tgt := 26) rfl ?_
      exact rfZ hx hb hr (bI_nar true) hlk hS () (by unfold VS.room; simp [bI, *]) hP hD (Nat.le_of_ble_eq_true rfl) (Nat.le_of_ble_eq_true rfl) d_J_hasRoom_26
theorem d_J_beginNextBlock_0 : decode prog_3_method_6_code 0 = .ok (.aload_n 0, 1) := by decide +kernel
theorem d_J_beginNextBlock_1 : decode prog_3_method_6_code 1 = .ok (.dup, 1) := by decide +kernel
theorem d_J_beginNextBlock_2 : decode prog_3_method_6_code 2 = .ok (.getfield 51, 3) := by decide +kernel
theorem d_J_beginNextBlock_5 : decode prog_3_method_6_code 5 = .ok (.iconst 1, 1) := by decide +kernel
theorem d_J_beginNextBlock_6 : decode prog_3_method_6_code 6 = .ok (.iadd, 1) := by decide +kernel
theorem d_J_beginNextBlock_7 : decode prog_3_method_6_code 7 = .ok (.putfield 51, 3) := by decide +kernel
theorem d_J_beginNextBlock_10 : decode prog_3_method_6_code 10 = .ok (.aload_n 0, 1) := by decide +kernel
theorem d_J_beginNextBlock_11 : decode prog_3_method_6_code 11 = .ok (.iconst 0, 1) := by decide +kernel
theorem d_J_beginNextBlock_12 : decode prog_3_method_6_code 12 = .ok (.putfield 44, 3) := by decide +kernel
theorem d_J_beginNextBlock_15 : decode prog_3_method_6_code 15 = .ok (.return_, 1) := by decide +kernel
set_option maxHeartbeats 4000000 in
set_option maxRecDepth 100000 in
theorem v_beginNextBlock (l : Launch) (D : va_G) (dA : Nat → ClassId) (sz : Nat) (h : Nat) (ad : Nat → Nat) (x : VS) : Met l ⟨"SeriesVault$Journal", "beginNextBlock", "()V"⟩ [Cond.code ⟨"SeriesVault$Journal", "beginNextBlock", "()V"⟩ prog_3_method_6_code 1 none] { frames := 1, cells := 0, slots := 0, locals := 0 } (pC D dA [.ref (ad 0)] (VW dA h ad x) sz) (va_Qv (fun (u9 : Unit) => True) (fun (u9 : Unit) t9 => bW D (va_A (VW dA h ad x) sz) (VW dA h ad (VS.s_jfill (VS.s_jblock x (x.jblock + 1)) 0)) t9) (va_A (VW dA h ad x) sz)) 0 0 (va_A (VW dA h ad x) sz) := by
  refine mkC (y := ⟨"SeriesVault$Journal", "beginNextBlock", "()V"⟩) (cc := prog_3_method_6_code) (maxL := 1) (av := [.ref (ad 0)]) (ws := VW dA h ad x) (sz := sz) (Qc := fun A => va_Qv (fun (u9 : Unit) => True) (fun (u9 : Unit) t9 => bW D A (VW dA h ad (VS.s_jfill (VS.s_jblock x (x.jblock + 1)) 0)) t9) A) (by decide) (Nat.le_of_ble_eq_true rfl) ?_
  intro A p e s m below meth c ls hsz hB
  obtain ⟨hx, hb, hr, hml, hown, hin, hlk, hE, hK, hP, hD, hS, hA, hN, hl⟩ := hB
  have hown : s.vm.findClass "SeriesVault$Journal" = some m.cls := hown
  have hl : lv_has ls 1 [(0, .ref (ad 0))] := hl
  obtain ⟨H, hH⟩ : ∃ z, z = s.heap := ⟨_, rfl⟩
  have hP : va_P D vwCl (VW dA h ad x) H := by rw [hH]; exact hP
  have hS : va_S A s.heap H [] := by rw [hH]; exact hS
  rw [← hH]
  refine lv_aload_n hx hb d_J_beginNextBlock_0 rfl (lv_at hl 0 rfl) ?_
  refine lv_dup hx hb d_J_beginNextBlock_1 rfl ?_
  refine gF (v := .int (nI x.jblock)) hx hb hown hE hK hP 2 rfl rfl layJ 10 (by decide) w553 rfl d_J_beginNextBlock_2 ?_
  refine lv_iconst (v := 1) hx hb d_J_beginNextBlock_5 (by decide) ?_
  refine lv_iadd hx hb d_J_beginNextBlock_6 (tpi (y := nI (x.jblock + 1)) (nI_add (x.jblock) (1)) ?_)
  refine pF (v := .int (nI (x.jblock + 1))) hx hb hown hE hK hP hD hS 2 rfl rfl layJ tyJ tokJ nmJ 10 (by decide) w553 rfl rfl rfl (Nat.le_of_ble_eq_true rfl) d_J_beginNextBlock_7 (fun H locs hP hD hS => ?_)
  have hP : va_P D vwCl (VW dA h ad (VS.s_jblock x (x.jblock + 1))) H := hP
  have hD : va_D A (VW dA h ad (VS.s_jblock x (x.jblock + 1))) := hD
  refine lv_aload_n hx hb d_J_beginNextBlock_10 rfl (lv_at hl 0 rfl) ?_
  refine lv_iconst (v := 0) hx hb d_J_beginNextBlock_11 (by decide) ?_
  refine pF (v := .int (nI 0)) hx hb hown hE hK hP hD hS 2 rfl rfl layJ tyJ tokJ nmJ 11 (by decide) w554 rfl rfl rfl (Nat.le_of_ble_eq_true rfl) d_J_beginNextBlock_12 (fun H locs hP hD hS => ?_)
  have hP : va_P D vwCl (VW dA h ad (VS.s_jfill (VS.s_jblock x (x.jblock + 1)) 0)) H := hP
  have hD : va_D A (VW dA h ad (VS.s_jfill (VS.s_jblock x (x.jblock + 1)) 0)) := hD
  exact rfV hx hb hr hlk hS () trivial hP hD (Nat.le_of_ble_eq_true rfl) (Nat.le_of_ble_eq_true rfl) d_J_beginNextBlock_15
theorem d_J_keepAll_0 : decode prog_3_method_9_code 0 = .ok (.aload_n 0, 1) := by decide +kernel
theorem d_J_keepAll_1 : decode prog_3_method_9_code 1 = .ok (.aload_n 0, 1) := by decide +kernel
theorem d_J_keepAll_2 : decode prog_3_method_9_code 2 = .ok (.getfield 38, 3) := by decide +kernel
theorem d_J_keepAll_5 : decode prog_3_method_9_code 5 = .ok (.putfield 73, 3) := by decide +kernel
theorem d_J_keepAll_8 : decode prog_3_method_9_code 8 = .ok (.aload_n 0, 1) := by decide +kernel
theorem d_J_keepAll_9 : decode prog_3_method_9_code 9 = .ok (.iconst 0, 1) := by decide +kernel
theorem d_J_keepAll_10 : decode prog_3_method_9_code 10 = .ok (.putfield 60, 3) := by decide +kernel
theorem d_J_keepAll_13 : decode prog_3_method_9_code 13 = .ok (.return_, 1) := by decide +kernel
set_option maxHeartbeats 4000000 in
set_option maxRecDepth 100000 in
theorem v_keepAll (l : Launch) (D : va_G) (dA : Nat → ClassId) (sz : Nat) (h : Nat) (ad : Nat → Nat) (x : VS) : Met l ⟨"SeriesVault$Journal", "keepAll", "()V"⟩ [Cond.code ⟨"SeriesVault$Journal", "keepAll", "()V"⟩ prog_3_method_9_code 1 none] { frames := 1, cells := 0, slots := 0, locals := 0 } (pC D dA [.ref (ad 0)] (VW dA h ad x) sz) (va_Qv (fun (u9 : Unit) => True) (fun (u9 : Unit) t9 => bW D (va_A (VW dA h ad x) sz) (VW dA h ad (VS.s_jch (VS.s_jkept x x.jsize) false)) t9) (va_A (VW dA h ad x) sz)) 0 0 (va_A (VW dA h ad x) sz) := by
  refine mkC (y := ⟨"SeriesVault$Journal", "keepAll", "()V"⟩) (cc := prog_3_method_9_code) (maxL := 1) (av := [.ref (ad 0)]) (ws := VW dA h ad x) (sz := sz) (Qc := fun A => va_Qv (fun (u9 : Unit) => True) (fun (u9 : Unit) t9 => bW D A (VW dA h ad (VS.s_jch (VS.s_jkept x x.jsize) false)) t9) A) (by decide) (Nat.le_of_ble_eq_true rfl) ?_
  intro A p e s m below meth c ls hsz hB
  obtain ⟨hx, hb, hr, hml, hown, hin, hlk, hE, hK, hP, hD, hS, hA, hN, hl⟩ := hB
  have hown : s.vm.findClass "SeriesVault$Journal" = some m.cls := hown
  have hl : lv_has ls 1 [(0, .ref (ad 0))] := hl
  obtain ⟨H, hH⟩ : ∃ z, z = s.heap := ⟨_, rfl⟩
  have hP : va_P D vwCl (VW dA h ad x) H := by rw [hH]; exact hP
  have hS : va_S A s.heap H [] := by rw [hH]; exact hS
  rw [← hH]
  refine lv_aload_n hx hb d_J_keepAll_0 rfl (lv_at hl 0 rfl) ?_
  refine lv_aload_n hx hb d_J_keepAll_1 rfl (lv_at hl 0 rfl) ?_
  refine gF (v := .int (nI x.jsize)) hx hb hown hE hK hP 2 rfl rfl layJ 6 (by decide) w545 rfl d_J_keepAll_2 ?_
  refine pF (v := .int (nI x.jsize)) hx hb hown hE hK hP hD hS 2 rfl rfl layJ tyJ tokJ nmJ 7 (by decide) w546 rfl rfl rfl (Nat.le_of_ble_eq_true rfl) d_J_keepAll_5 (fun H locs hP hD hS => ?_)
  have hP : va_P D vwCl (VW dA h ad (VS.s_jkept x x.jsize)) H := hP
  have hD : va_D A (VW dA h ad (VS.s_jkept x x.jsize)) := hD
  refine lv_aload_n hx hb d_J_keepAll_8 rfl (lv_at hl 0 rfl) ?_
  refine lv_iconst (v := 0) hx hb d_J_keepAll_9 (by decide) ?_
  refine pF (v := .int (bI false)) hx hb hown hE hK hP hD hS 2 rfl rfl layJ tyJ tokJ nmJ 12 (by decide) w551 rfl (bI_nar false) (bI_fit false) (Nat.le_of_ble_eq_true rfl) d_J_keepAll_10 (fun H locs hP hD hS => ?_)
  have hP : va_P D vwCl (VW dA h ad (VS.s_jch (VS.s_jkept x x.jsize) false)) H := hP
  have hD : va_D A (VW dA h ad (VS.s_jch (VS.s_jkept x x.jsize) false)) := hD
  exact rfV hx hb hr hlk hS () trivial hP hD (Nat.le_of_ble_eq_true rfl) (Nat.le_of_ble_eq_true rfl) d_J_keepAll_13
theorem d_J_add_0 : decode prog_3_method_7_code 0 = .ok (.aload_n 0, 1) := by decide +kernel
theorem d_J_add_1 : decode prog_3_method_7_code 1 = .ok (.getfield 38, 3) := by decide +kernel
theorem d_J_add_4 : decode prog_3_method_7_code 4 = .ok (.aload_n 0, 1) := by decide +kernel
theorem d_J_add_5 : decode prog_3_method_7_code 5 = .ok (.getfield 9, 3) := by decide +kernel
theorem d_J_add_8 : decode prog_3_method_7_code 8 = .ok (.arraylength, 1) := by decide +kernel
theorem d_J_add_9 : decode prog_3_method_7_code 9 = .ok (.if_icmp .ne 7, 3) := by decide +kernel
theorem d_J_add_16 : decode prog_3_method_7_code 16 = .ok (.aload_n 0, 1) := by decide +kernel
theorem d_J_add_17 : decode prog_3_method_7_code 17 = .ok (.getfield 9, 3) := by decide +kernel
theorem d_J_add_20 : decode prog_3_method_7_code 20 = .ok (.aload_n 0, 1) := by decide +kernel
theorem d_J_add_21 : decode prog_3_method_7_code 21 = .ok (.getfield 38, 3) := by decide +kernel
theorem d_J_add_24 : decode prog_3_method_7_code 24 = .ok (.iload_n 1, 1) := by decide +kernel
theorem d_J_add_25 : decode prog_3_method_7_code 25 = .ok (.iastore, 1) := by decide +kernel
theorem d_J_add_26 : decode prog_3_method_7_code 26 = .ok (.aload_n 0, 1) := by decide +kernel
theorem d_J_add_27 : decode prog_3_method_7_code 27 = .ok (.getfield 15, 3) := by decide +kernel
theorem d_J_add_30 : decode prog_3_method_7_code 30 = .ok (.aload_n 0, 1) := by decide +kernel
theorem d_J_add_31 : decode prog_3_method_7_code 31 = .ok (.getfield 38, 3) := by decide +kernel
theorem d_J_add_34 : decode prog_3_method_7_code 34 = .ok (.iload_n 2, 1) := by decide +kernel
theorem d_J_add_35 : decode prog_3_method_7_code 35 = .ok (.iastore, 1) := by decide +kernel
theorem d_J_add_36 : decode prog_3_method_7_code 36 = .ok (.aload_n 0, 1) := by decide +kernel
theorem d_J_add_37 : decode prog_3_method_7_code 37 = .ok (.getfield 18, 3) := by decide +kernel
theorem d_J_add_40 : decode prog_3_method_7_code 40 = .ok (.aload_n 0, 1) := by decide +kernel
theorem d_J_add_41 : decode prog_3_method_7_code 41 = .ok (.getfield 38, 3) := by decide +kernel
theorem d_J_add_44 : decode prog_3_method_7_code 44 = .ok (.iload_n 3, 1) := by decide +kernel
theorem d_J_add_45 : decode prog_3_method_7_code 45 = .ok (.iastore, 1) := by decide +kernel
theorem d_J_add_46 : decode prog_3_method_7_code 46 = .ok (.aload_n 0, 1) := by decide +kernel
theorem d_J_add_47 : decode prog_3_method_7_code 47 = .ok (.getfield 21, 3) := by decide +kernel
theorem d_J_add_50 : decode prog_3_method_7_code 50 = .ok (.aload_n 0, 1) := by decide +kernel
theorem d_J_add_51 : decode prog_3_method_7_code 51 = .ok (.getfield 38, 3) := by decide +kernel
theorem d_J_add_54 : decode prog_3_method_7_code 54 = .ok (.aload_n 0, 1) := by decide +kernel
theorem d_J_add_55 : decode prog_3_method_7_code 55 = .ok (.getfield 51, 3) := by decide +kernel
theorem d_J_add_58 : decode prog_3_method_7_code 58 = .ok (.iastore, 1) := by decide +kernel
theorem d_J_add_59 : decode prog_3_method_7_code 59 = .ok (.aload_n 0, 1) := by decide +kernel
theorem d_J_add_60 : decode prog_3_method_7_code 60 = .ok (.getfield 24, 3) := by decide +kernel
theorem d_J_add_63 : decode prog_3_method_7_code 63 = .ok (.aload_n 0, 1) := by decide +kernel
theorem d_J_add_64 : decode prog_3_method_7_code 64 = .ok (.getfield 38, 3) := by decide +kernel
theorem d_J_add_67 : decode prog_3_method_7_code 67 = .ok (.lload 4, 2) := by decide +kernel
theorem d_J_add_69 : decode prog_3_method_7_code 69 = .ok (.lastore, 1) := by decide +kernel
theorem d_J_add_70 : decode prog_3_method_7_code 70 = .ok (.aload_n 0, 1) := by decide +kernel
theorem d_J_add_71 : decode prog_3_method_7_code 71 = .ok (.getfield 28, 3) := by decide +kernel
theorem d_J_add_74 : decode prog_3_method_7_code 74 = .ok (.aload_n 0, 1) := by decide +kernel
theorem d_J_add_75 : decode prog_3_method_7_code 75 = .ok (.getfield 38, 3) := by decide +kernel
theorem d_J_add_78 : decode prog_3_method_7_code 78 = .ok (.lload 6, 2) := by decide +kernel
theorem d_J_add_80 : decode prog_3_method_7_code 80 = .ok (.lastore, 1) := by decide +kernel
theorem d_J_add_81 : decode prog_3_method_7_code 81 = .ok (.aload_n 0, 1) := by decide +kernel
theorem d_J_add_82 : decode prog_3_method_7_code 82 = .ok (.dup, 1) := by decide +kernel
theorem d_J_add_83 : decode prog_3_method_7_code 83 = .ok (.getfield 38, 3) := by decide +kernel
theorem d_J_add_86 : decode prog_3_method_7_code 86 = .ok (.iconst 1, 1) := by decide +kernel
theorem d_J_add_87 : decode prog_3_method_7_code 87 = .ok (.iadd, 1) := by decide +kernel
theorem d_J_add_88 : decode prog_3_method_7_code 88 = .ok (.putfield 38, 3) := by decide +kernel
theorem d_J_add_91 : decode prog_3_method_7_code 91 = .ok (.aload_n 0, 1) := by decide +kernel
theorem d_J_add_92 : decode prog_3_method_7_code 92 = .ok (.dup, 1) := by decide +kernel
theorem d_J_add_93 : decode prog_3_method_7_code 93 = .ok (.getfield 57, 3) := by decide +kernel
theorem d_J_add_96 : decode prog_3_method_7_code 96 = .ok (.iload_n 3, 1) := by decide +kernel
theorem d_J_add_97 : decode prog_3_method_7_code 97 = .ok (.iadd, 1) := by decide +kernel
theorem d_J_add_98 : decode prog_3_method_7_code 98 = .ok (.putfield 57, 3) := by decide +kernel
theorem d_J_add_101 : decode prog_3_method_7_code 101 = .ok (.aload_n 0, 1) := by decide +kernel
theorem d_J_add_102 : decode prog_3_method_7_code 102 = .ok (.dup, 1) := by decide +kernel
theorem d_J_add_103 : decode prog_3_method_7_code 103 = .ok (.getfield 44, 3) := by decide +kernel
theorem d_J_add_106 : decode prog_3_method_7_code 106 = .ok (.iload_n 3, 1) := by decide +kernel
theorem d_J_add_107 : decode prog_3_method_7_code 107 = .ok (.iadd, 1) := by decide +kernel
theorem d_J_add_108 : decode prog_3_method_7_code 108 = .ok (.putfield 44, 3) := by decide +kernel
theorem d_J_add_111 : decode prog_3_method_7_code 111 = .ok (.aload_n 0, 1) := by decide +kernel
theorem d_J_add_112 : decode prog_3_method_7_code 112 = .ok (.iconst 1, 1) := by decide +kernel
theorem d_J_add_113 : decode prog_3_method_7_code 113 = .ok (.putfield 60, 3) := by decide +kernel
theorem d_J_add_116 : decode prog_3_method_7_code 116 = .ok (.return_, 1) := by decide +kernel
set_option maxHeartbeats 4000000 in
set_option maxRecDepth 100000 in
theorem v_jadd_0 (l : Launch) (D : va_G) (dA : Nat → ClassId) (sz : Nat) (h : Nat) (ad : Nat → Nat) (x : VS) (kd : Nat) (w : Nat) (n : Nat) (a : Int64) (b : Int64) (h0 : x.jsize < x.jN) (h9 : x.jN ≤ 65536) : Met l ⟨"SeriesVault$Journal", "add", "(IIIJJ)V"⟩ [Cond.code ⟨"SeriesVault$Journal", "add", "(IIIJJ)V"⟩ prog_3_method_7_code 8 none] { frames := 1, cells := 0, slots := 0, locals := 0 } (pC D dA [.ref (ad 0), .int (nI kd), .int (nI w), .int (nI n), .long a, .long b] (VW dA h ad x) sz) (va_Qv (fun (u9 : Unit) => True) (fun (u9 : Unit) t9 => bW D (va_A (VW dA h ad x) sz) (VW dA h ad (VS.s_jch (VS.s_jfill (VS.s_junits (VS.s_jsize (VS.s_jS (VS.s_jF (VS.s_jB (VS.s_jU (VS.s_jO (VS.s_jK x (va_up x.jK x.jsize kd)) (va_up x.jO x.jsize w)) (va_up x.jU x.jsize n)) (va_up x.jB x.jsize x.jblock)) (va_up x.jF x.jsize a)) (va_up x.jS x.jsize b)) (x.jsize + 1)) (x.junits + n)) (x.jfill + n)) true)) t9) (va_A (VW dA h ad x) sz)) 0 0 (va_A (VW dA h ad x) sz) := by
  refine mkC (y := ⟨"SeriesVault$Journal", "add", "(IIIJJ)V"⟩) (cc := prog_3_method_7_code) (maxL := 8) (av := [.ref (ad 0), .int (nI kd), .int (nI w), .int (nI n), .long a, .long b]) (ws := VW dA h ad x) (sz := sz) (Qc := fun A => va_Qv (fun (u9 : Unit) => True) (fun (u9 : Unit) t9 => bW D A (VW dA h ad (VS.s_jch (VS.s_jfill (VS.s_junits (VS.s_jsize (VS.s_jS (VS.s_jF (VS.s_jB (VS.s_jU (VS.s_jO (VS.s_jK x (va_up x.jK x.jsize kd)) (va_up x.jO x.jsize w)) (va_up x.jU x.jsize n)) (va_up x.jB x.jsize x.jblock)) (va_up x.jF x.jsize a)) (va_up x.jS x.jsize b)) (x.jsize + 1)) (x.junits + n)) (x.jfill + n)) true)) t9) A) (by decide) (Nat.le_of_ble_eq_true rfl) ?_
  intro A p e s m below meth c ls hsz hB
  obtain ⟨hx, hb, hr, hml, hown, hin, hlk, hE, hK, hP, hD, hS, hA, hN, hl⟩ := hB
  have hown : s.vm.findClass "SeriesVault$Journal" = some m.cls := hown
  have hl : lv_has ls 8 [(0, .ref (ad 0)), (1, .int (nI kd)), (2, .int (nI w)), (3, .int (nI n)), (4, .long a), (6, .long b)] := hl
  obtain ⟨H, hH⟩ : ∃ z, z = s.heap := ⟨_, rfl⟩
  have hP : va_P D vwCl (VW dA h ad x) H := by rw [hH]; exact hP
  have hS : va_S A s.heap H [] := by rw [hH]; exact hS
  rw [← hH]
  refine lv_aload_n hx hb d_J_add_0 rfl (lv_at hl 0 rfl) ?_
  refine gF (v := .int (nI x.jsize)) hx hb hown hE hK hP 2 rfl rfl layJ 6 (by decide) w545 rfl d_J_add_1 ?_
  refine lv_aload_n hx hb d_J_add_4 rfl (lv_at hl 0 rfl) ?_
  refine gF (v := .ref (x.jA 0)) hx hb hown hE hK hP 2 rfl rfl layJ 0 (by decide) w190 rfl d_J_add_5 ?_
  refine va_alen (v := nI x.jN) hx hb hK hP 3 1 rfl rfl rfl d_J_add_8 ?_
  refine lv_icmp_ne hx hb d_J_add_9 (tgt := 16) rfl (fun g1 => ?_) (fun g1 => ?_)
  rotate_left
  · have g1 := (nI_eq (a := x.jsize) (b := x.jN) (by omega) (by omega)).mp g1; exfalso; omega
  have g1 := mt (nI_eq (a := x.jsize) (b := x.jN) (by omega) (by omega)).mpr g1
  refine lv_aload_n hx hb d_J_add_16 rfl (lv_at hl 0 rfl) ?_
  refine gF (v := .ref (x.jA 0)) hx hb hown hE hK hP 2 rfl rfl layJ 0 (by decide) w190 rfl d_J_add_17 ?_
  refine lv_aload_n hx hb d_J_add_20 rfl (lv_at hl 0 rfl) ?_
  refine gF (v := .int (nI x.jsize)) hx hb hown hE hK hP 2 rfl rfl layJ 6 (by decide) w545 rfl d_J_add_21 ?_
  refine lv_iload_n hx hb d_J_add_24 rfl (lv_at hl 1 rfl) ?_
  refine nistN (v := kd) (n := x.jN) hx hb hK hP hD hS 3 1 rfl rfl (x.jsize) (by omega) (by omega) d_J_add_25 (fun H locs hP hD hS => ?_)
  have hP : va_P D vwCl (VW dA h ad (VS.s_jK x (va_up x.jK x.jsize kd))) H := hP
  have hD : va_D A (VW dA h ad (VS.s_jK x (va_up x.jK x.jsize kd))) := hD
  refine lv_aload_n hx hb d_J_add_26 rfl (lv_at hl 0 rfl) ?_
  refine gF (v := .ref (x.jA 1)) hx hb hown hE hK hP 2 rfl rfl layJ 1 (by decide) w191 rfl d_J_add_27 ?_
  refine lv_aload_n hx hb d_J_add_30 rfl (lv_at hl 0 rfl) ?_
  refine gF (v := .int (nI x.jsize)) hx hb hown hE hK hP 2 rfl rfl layJ 6 (by decide) w545 rfl d_J_add_31 ?_
  refine lv_iload_n hx hb d_J_add_34 rfl (lv_at hl 2 rfl) ?_
  refine nistN (v := w) (n := x.jN) hx hb hK hP hD hS 4 1 rfl rfl (x.jsize) (by omega) (by omega) d_J_add_35 (fun H locs hP hD hS => ?_)
  have hP : va_P D vwCl (VW dA h ad (VS.s_jO (VS.s_jK x (va_up x.jK x.jsize kd)) (va_up x.jO x.jsize w))) H := hP
  have hD : va_D A (VW dA h ad (VS.s_jO (VS.s_jK x (va_up x.jK x.jsize kd)) (va_up x.jO x.jsize w))) := hD
  refine lv_aload_n hx hb d_J_add_36 rfl (lv_at hl 0 rfl) ?_
  refine gF (v := .ref (x.jA 2)) hx hb hown hE hK hP 2 rfl rfl layJ 2 (by decide) w192 rfl d_J_add_37 ?_
  refine lv_aload_n hx hb d_J_add_40 rfl (lv_at hl 0 rfl) ?_
  refine gF (v := .int (nI x.jsize)) hx hb hown hE hK hP 2 rfl rfl layJ 6 (by decide) w545 rfl d_J_add_41 ?_
  refine lv_iload_n hx hb d_J_add_44 rfl (lv_at hl 3 rfl) ?_
  refine nistN (v := n) (n := x.jN) hx hb hK hP hD hS 5 1 rfl rfl (x.jsize) (by omega) (by omega) d_J_add_45 (fun H locs hP hD hS => ?_)
  have hP : va_P D vwCl (VW dA h ad (VS.s_jU (VS.s_jO (VS.s_jK x (va_up x.jK x.jsize kd)) (va_up x.jO x.jsize w)) (va_up x.jU x.jsize n))) H := hP
  have hD : va_D A (VW dA h ad (VS.s_jU (VS.s_jO (VS.s_jK x (va_up x.jK x.jsize kd)) (va_up x.jO x.jsize w)) (va_up x.jU x.jsize n))) := hD
  refine lv_aload_n hx hb d_J_add_46 rfl (lv_at hl 0 rfl) ?_
  refine gF (v := .ref (x.jA 3)) hx hb hown hE hK hP 2 rfl rfl layJ 3 (by decide) w193 rfl d_J_add_47 ?_
  refine lv_aload_n hx hb d_J_add_50 rfl (lv_at hl 0 rfl) ?_
  refine gF (v := .int (nI x.jsize)) hx hb hown hE hK hP 2 rfl rfl layJ 6 (by decide) w545 rfl d_J_add_51 ?_
  refine lv_aload_n hx hb d_J_add_54 rfl (lv_at hl 0 rfl) ?_
  refine gF (v := .int (nI x.jblock)) hx hb hown hE hK hP 2 rfl rfl layJ 10 (by decide) w553 rfl d_J_add_55 ?_
  refine nistN (v := x.jblock) (n := x.jN) hx hb hK hP hD hS 6 1 rfl rfl (x.jsize) (by omega) (by omega) d_J_add_58 (fun H locs hP hD hS => ?_)
  have hP : va_P D vwCl (VW dA h ad (VS.s_jB (VS.s_jU (VS.s_jO (VS.s_jK x (va_up x.jK x.jsize kd)) (va_up x.jO x.jsize w)) (va_up x.jU x.jsize n)) (va_up x.jB x.jsize x.jblock))) H := hP
  have hD : va_D A (VW dA h ad (VS.s_jB (VS.s_jU (VS.s_jO (VS.s_jK x (va_up x.jK x.jsize kd)) (va_up x.jO x.jsize w)) (va_up x.jU x.jsize n)) (va_up x.jB x.jsize x.jblock))) := hD
  refine lv_aload_n hx hb d_J_add_59 rfl (lv_at hl 0 rfl) ?_
  refine gF (v := .ref (x.jA 4)) hx hb hown hE hK hP 2 rfl rfl layJ 4 (by decide) w194 rfl d_J_add_60 ?_
  refine lv_aload_n hx hb d_J_add_63 rfl (lv_at hl 0 rfl) ?_
  refine gF (v := .int (nI x.jsize)) hx hb hown hE hK hP 2 rfl rfl layJ 6 (by decide) w545 rfl d_J_add_64 ?_
  refine lv_lload hx hb d_J_add_67 (lv_at hl 4 rfl) ?_
  refine nlst (n := x.jN) hx hb hK hP hD hS 7 2 rfl rfl (x.jsize) (by omega) (by omega) d_J_add_69 (fun H locs hP hD hS => ?_)
  have hP : va_P D vwCl (VW dA h ad (VS.s_jF (VS.s_jB (VS.s_jU (VS.s_jO (VS.s_jK x (va_up x.jK x.jsize kd)) (va_up x.jO x.jsize w)) (va_up x.jU x.jsize n)) (va_up x.jB x.jsize x.jblock)) (va_up x.jF x.jsize a))) H := hP
  have hD : va_D A (VW dA h ad (VS.s_jF (VS.s_jB (VS.s_jU (VS.s_jO (VS.s_jK x (va_up x.jK x.jsize kd)) (va_up x.jO x.jsize w)) (va_up x.jU x.jsize n)) (va_up x.jB x.jsize x.jblock)) (va_up x.jF x.jsize a))) := hD
  refine lv_aload_n hx hb d_J_add_70 rfl (lv_at hl 0 rfl) ?_
  refine gF (v := .ref (x.jA 5)) hx hb hown hE hK hP 2 rfl rfl layJ 5 (by decide) w195 rfl d_J_add_71 ?_
  refine lv_aload_n hx hb d_J_add_74 rfl (lv_at hl 0 rfl) ?_
  refine gF (v := .int (nI x.jsize)) hx hb hown hE hK hP 2 rfl rfl layJ 6 (by decide) w545 rfl d_J_add_75 ?_
  refine lv_lload hx hb d_J_add_78 (lv_at hl 5 rfl) ?_
  refine nlst (n := x.jN) hx hb hK hP hD hS 8 2 rfl rfl (x.jsize) (by omega) (by omega) d_J_add_80 (fun H locs hP hD hS => ?_)
  have hP : va_P D vwCl (VW dA h ad (VS.s_jS (VS.s_jF (VS.s_jB (VS.s_jU (VS.s_jO (VS.s_jK x (va_up x.jK x.jsize kd)) (va_up x.jO x.jsize w)) (va_up x.jU x.jsize n)) (va_up x.jB x.jsize x.jblock)) (va_up x.jF x.jsize a)) (va_up x.jS x.jsize b))) H := hP
  have hD : va_D A (VW dA h ad (VS.s_jS (VS.s_jF (VS.s_jB (VS.s_jU (VS.s_jO (VS.s_jK x (va_up x.jK x.jsize kd)) (va_up x.jO x.jsize w)) (va_up x.jU x.jsize n)) (va_up x.jB x.jsize x.jblock)) (va_up x.jF x.jsize a)) (va_up x.jS x.jsize b))) := hD
  refine lv_aload_n hx hb d_J_add_81 rfl (lv_at hl 0 rfl) ?_
  refine lv_dup hx hb d_J_add_82 rfl ?_
  refine gF (v := .int (nI x.jsize)) hx hb hown hE hK hP 2 rfl rfl layJ 6 (by decide) w545 rfl d_J_add_83 ?_
  refine lv_iconst (v := 1) hx hb d_J_add_86 (by decide) ?_
  refine lv_iadd hx hb d_J_add_87 (tpi (y := nI (x.jsize + 1)) (nI_add (x.jsize) (1)) ?_)
  refine pF (v := .int (nI (x.jsize + 1))) hx hb hown hE hK hP hD hS 2 rfl rfl layJ tyJ tokJ nmJ 6 (by decide) w545 rfl rfl rfl (Nat.le_of_ble_eq_true rfl) d_J_add_88 (fun H locs hP hD hS => ?_)
  have hP : va_P D vwCl (VW dA h ad (VS.s_jsize (VS.s_jS (VS.s_jF (VS.s_jB (VS.s_jU (VS.s_jO (VS.s_jK x (va_up x.jK x.jsize kd)) (va_up x.jO x.jsize w)) (va_up x.jU x.jsize n)) (va_up x.jB x.jsize x.jblock)) (va_up x.jF x.jsize a)) (va_up x.jS x.jsize b)) (x.jsize + 1))) H := hP
  have hD : va_D A (VW dA h ad (VS.s_jsize (VS.s_jS (VS.s_jF (VS.s_jB (VS.s_jU (VS.s_jO (VS.s_jK x (va_up x.jK x.jsize kd)) (va_up x.jO x.jsize w)) (va_up x.jU x.jsize n)) (va_up x.jB x.jsize x.jblock)) (va_up x.jF x.jsize a)) (va_up x.jS x.jsize b)) (x.jsize + 1))) := hD
  refine lv_aload_n hx hb d_J_add_91 rfl (lv_at hl 0 rfl) ?_
  refine lv_dup hx hb d_J_add_92 rfl ?_
  refine gF (v := .int (nI x.junits)) hx hb hown hE hK hP 2 rfl rfl layJ 8 (by decide) w552 rfl d_J_add_93 ?_
  refine lv_iload_n hx hb d_J_add_96 rfl (lv_at hl 3 rfl) ?_
  refine lv_iadd hx hb d_J_add_97 (tpi (y := nI (x.junits + n)) (nI_add (x.junits) (n)) ?_)
  refine pF (v := .int (nI (x.junits + n))) hx hb hown hE hK hP hD hS 2 rfl rfl layJ tyJ tokJ nmJ 8 (by decide) w552 rfl rfl rfl (Nat.le_of_ble_eq_true rfl) d_J_add_98 (fun H locs hP hD hS => ?_)
  have hP : va_P D vwCl (VW dA h ad (VS.s_junits (VS.s_jsize (VS.s_jS (VS.s_jF (VS.s_jB (VS.s_jU (VS.s_jO (VS.s_jK x (va_up x.jK x.jsize kd)) (va_up x.jO x.jsize w)) (va_up x.jU x.jsize n)) (va_up x.jB x.jsize x.jblock)) (va_up x.jF x.jsize a)) (va_up x.jS x.jsize b)) (x.jsize + 1)) (x.junits + n))) H := hP
  have hD : va_D A (VW dA h ad (VS.s_junits (VS.s_jsize (VS.s_jS (VS.s_jF (VS.s_jB (VS.s_jU (VS.s_jO (VS.s_jK x (va_up x.jK x.jsize kd)) (va_up x.jO x.jsize w)) (va_up x.jU x.jsize n)) (va_up x.jB x.jsize x.jblock)) (va_up x.jF x.jsize a)) (va_up x.jS x.jsize b)) (x.jsize + 1)) (x.junits + n))) := hD
  refine lv_aload_n hx hb d_J_add_101 rfl (lv_at hl 0 rfl) ?_
  refine lv_dup hx hb d_J_add_102 rfl ?_
  refine gF (v := .int (nI x.jfill)) hx hb hown hE hK hP 2 rfl rfl layJ 11 (by decide) w554 rfl d_J_add_103 ?_
  refine lv_iload_n hx hb d_J_add_106 rfl (lv_at hl 3 rfl) ?_
  refine lv_iadd hx hb d_J_add_107 (tpi (y := nI (x.jfill + n)) (nI_add (x.jfill) (n)) ?_)
  refine pF (v := .int (nI (x.jfill + n))) hx hb hown hE hK hP hD hS 2 rfl rfl layJ tyJ tokJ nmJ 11 (by decide) w554 rfl rfl rfl (Nat.le_of_ble_eq_true rfl) d_J_add_108 (fun H locs hP hD hS => ?_)
  have hP : va_P D vwCl (VW dA h ad (VS.s_jfill (VS.s_junits (VS.s_jsize (VS.s_jS (VS.s_jF (VS.s_jB (VS.s_jU (VS.s_jO (VS.s_jK x (va_up x.jK x.jsize kd)) (va_up x.jO x.jsize w)) (va_up x.jU x.jsize n)) (va_up x.jB x.jsize x.jblock)) (va_up x.jF x.jsize a)) (va_up x.jS x.jsize b)) (x.jsize + 1)) (x.junits + n)) (x.jfill + n))) H := hP
  have hD : va_D A (VW dA h ad (VS.s_jfill (VS.s_junits (VS.s_jsize (VS.s_jS (VS.s_jF (VS.s_jB (VS.s_jU (VS.s_jO (VS.s_jK x (va_up x.jK x.jsize kd)) (va_up x.jO x.jsize w)) (va_up x.jU x.jsize n)) (va_up x.jB x.jsize x.jblock)) (va_up x.jF x.jsize a)) (va_up x.jS x.jsize b)) (x.jsize + 1)) (x.junits + n)) (x.jfill + n))) := hD
  refine lv_aload_n hx hb d_J_add_111 rfl (lv_at hl 0 rfl) ?_
  refine lv_iconst (v := 1) hx hb d_J_add_112 (by decide) ?_
  refine pF (v := .int (bI true)) hx hb hown hE hK hP hD hS 2 rfl rfl layJ tyJ tokJ nmJ 12 (by decide) w551 rfl (bI_nar true) (bI_fit true) (Nat.le_of_ble_eq_true rfl) d_J_add_113 (fun H locs hP hD hS => ?_)
  have hP : va_P D vwCl (VW dA h ad (VS.s_jch (VS.s_jfill (VS.s_junits (VS.s_jsize (VS.s_jS (VS.s_jF (VS.s_jB (VS.s_jU (VS.s_jO (VS.s_jK x (va_up x.jK x.jsize kd)) (va_up x.jO x.jsize w)) (va_up x.jU x.jsize n)) (va_up x.jB x.jsize x.jblock)) (va_up x.jF x.jsize a)) (va_up x.jS x.jsize b)) (x.jsize + 1)) (x.junits + n)) (x.jfill + n)) true)) H := hP
  have hD : va_D A (VW dA h ad (VS.s_jch (VS.s_jfill (VS.s_junits (VS.s_jsize (VS.s_jS (VS.s_jF (VS.s_jB (VS.s_jU (VS.s_jO (VS.s_jK x (va_up x.jK x.jsize kd)) (va_up x.jO x.jsize w)) (va_up x.jU x.jsize n)) (va_up x.jB x.jsize x.jblock)) (va_up x.jF x.jsize a)) (va_up x.jS x.jsize b)) (x.jsize + 1)) (x.junits + n)) (x.jfill + n)) true)) := hD
  exact rfV hx hb hr hlk hS () trivial hP hD (Nat.le_of_ble_eq_true rfl) (Nat.le_of_ble_eq_true rfl) d_J_add_116
/-- min of naturals, kept records -/
theorem nI_min {a b : Nat} (ha : a < 2 ^ 31) (hb : b < 2 ^ 31) : (if nI b < nI a then nI b else nI a) = nI (min a b) := by
  by_cases h : b < a
  · rw [if_pos ((nI_ltI hb ha).mpr h), Nat.min_eq_right (by omega)]
  · rw [if_neg (mt (nI_ltI hb ha).mp h), Nat.min_eq_left (by omega)]
/-- r records looked at again: block, fill, units -/
def fgG (jB jU : Nat → Nat) : Nat → Nat × Nat × Nat
  | 0 => (0, 0, 0)
  | r + 1 => (jB r, (if jB r = (fgG jB jU r).1 then (fgG jB jU r).2.1 + jU r else jU r), (fgG jB jU r).2.2 + jU r)
theorem fg_s {jB jU : Nat → Nat} {r a b u v : Nat} (h : fgG jB jU r = (a, b, u)) (hv : (if jB r = a then b + jU r else jU r) = v) : fgG jB jU (r + 1) = (jB r, v, u + jU r) := by
  unfold fgG
  rw [h, ← hv]
theorem nI_max {a b : Nat} (ha : a < 2 ^ 31) (hb : b < 2 ^ 31) : (if nI a < nI b then nI b else nI a) = nI (max a b) := by
  by_cases h : a < b
  · rw [if_pos ((nI_ltI ha hb).mpr h), Nat.max_eq_right (by omega)]
  · rw [if_neg (mt (nI_ltI ha hb).mp h), Nat.max_eq_left (by omega)]
theorem d_J_forgetUnkept_53 : decode prog_3_method_10_code 53 = .ok (.aload_n 0, 1) := by decide +kernel
theorem d_J_forgetUnkept_87 : decode prog_3_method_10_code 87 = .ok (.putfield 44, 3) := by decide +kernel
theorem d_J_forgetUnkept_90 : decode prog_3_method_10_code 90 = .ok (.aload_n 0, 1) := by decide +kernel
theorem d_J_forgetUnkept_91 : decode prog_3_method_10_code 91 = .ok (.aload_n 0, 1) := by decide +kernel
theorem d_J_forgetUnkept_92 : decode prog_3_method_10_code 92 = .ok (.getfield 21, 3) := by decide +kernel
theorem d_J_forgetUnkept_95 : decode prog_3_method_10_code 95 = .ok (.iload_n 1, 1) := by decide +kernel
theorem d_J_forgetUnkept_96 : decode prog_3_method_10_code 96 = .ok (.iaload, 1) := by decide +kernel
theorem d_J_forgetUnkept_97 : decode prog_3_method_10_code 97 = .ok (.putfield 51, 3) := by decide +kernel
theorem d_J_forgetUnkept_100 : decode prog_3_method_10_code 100 = .ok (.aload_n 0, 1) := by decide +kernel
theorem d_J_forgetUnkept_101 : decode prog_3_method_10_code 101 = .ok (.dup, 1) := by decide +kernel
theorem d_J_forgetUnkept_102 : decode prog_3_method_10_code 102 = .ok (.getfield 57, 3) := by decide +kernel
theorem d_J_forgetUnkept_105 : decode prog_3_method_10_code 105 = .ok (.aload_n 0, 1) := by decide +kernel
theorem d_J_forgetUnkept_106 : decode prog_3_method_10_code 106 = .ok (.getfield 18, 3) := by decide +kernel
theorem d_J_forgetUnkept_109 : decode prog_3_method_10_code 109 = .ok (.iload_n 1, 1) := by decide +kernel
theorem d_J_forgetUnkept_110 : decode prog_3_method_10_code 110 = .ok (.iaload, 1) := by decide +kernel
theorem d_J_forgetUnkept_111 : decode prog_3_method_10_code 111 = .ok (.iadd, 1) := by decide +kernel
theorem d_J_forgetUnkept_112 : decode prog_3_method_10_code 112 = .ok (.putfield 57, 3) := by decide +kernel
theorem d_J_forgetUnkept_115 : decode prog_3_method_10_code 115 = .ok (.iinc 1 1, 3) := by decide +kernel
theorem d_J_forgetUnkept_118 : decode prog_3_method_10_code 118 = .ok (.goto (-73), 3) := by decide +kernel
theorem d_J_forgetUnkept_54 : decode prog_3_method_10_code 54 = .ok (.aload_n 0, 1) := by decide +kernel
theorem d_J_forgetUnkept_55 : decode prog_3_method_10_code 55 = .ok (.getfield 21, 3) := by decide +kernel
theorem d_J_forgetUnkept_58 : decode prog_3_method_10_code 58 = .ok (.iload_n 1, 1) := by decide +kernel
theorem d_J_forgetUnkept_59 : decode prog_3_method_10_code 59 = .ok (.iaload, 1) := by decide +kernel
theorem d_J_forgetUnkept_60 : decode prog_3_method_10_code 60 = .ok (.aload_n 0, 1) := by decide +kernel
theorem d_J_forgetUnkept_61 : decode prog_3_method_10_code 61 = .ok (.getfield 51, 3) := by decide +kernel
theorem d_J_forgetUnkept_64 : decode prog_3_method_10_code 64 = .ok (.if_icmp .ne 17, 3) := by decide +kernel
theorem d_J_forgetUnkept_81 : decode prog_3_method_10_code 81 = .ok (.aload_n 0, 1) := by decide +kernel
theorem d_J_forgetUnkept_82 : decode prog_3_method_10_code 82 = .ok (.getfield 18, 3) := by decide +kernel
theorem d_J_forgetUnkept_85 : decode prog_3_method_10_code 85 = .ok (.iload_n 1, 1) := by decide +kernel
theorem d_J_forgetUnkept_86 : decode prog_3_method_10_code 86 = .ok (.iaload, 1) := by decide +kernel
theorem d_J_forgetUnkept_67 : decode prog_3_method_10_code 67 = .ok (.aload_n 0, 1) := by decide +kernel
theorem d_J_forgetUnkept_68 : decode prog_3_method_10_code 68 = .ok (.getfield 44, 3) := by decide +kernel
theorem d_J_forgetUnkept_71 : decode prog_3_method_10_code 71 = .ok (.aload_n 0, 1) := by decide +kernel
theorem d_J_forgetUnkept_72 : decode prog_3_method_10_code 72 = .ok (.getfield 18, 3) := by decide +kernel
theorem d_J_forgetUnkept_75 : decode prog_3_method_10_code 75 = .ok (.iload_n 1, 1) := by decide +kernel
theorem d_J_forgetUnkept_76 : decode prog_3_method_10_code 76 = .ok (.iaload, 1) := by decide +kernel
theorem d_J_forgetUnkept_77 : decode prog_3_method_10_code 77 = .ok (.iadd, 1) := by decide +kernel
theorem d_J_forgetUnkept_78 : decode prog_3_method_10_code 78 = .ok (.goto 9, 3) := by decide +kernel
set_option maxHeartbeats 4000000 in
set_option maxRecDepth 100000 in
theorem v_forgetUnkept (l : Launch) (D : va_G) (dA : Nat → ClassId) (sz : Nat) (h : Nat) (ad : Nat → Nat) (x : VS) (a9 : Nat) (b9 : Nat) (u9n : Nat) (h1 : x.jsize ≤ x.jN) (h9 : x.jN ≤ 65536) (h8 : x.jkept < 2 ^ 31) (h7 : ∀ q : Nat, q < x.jsize → x.jU q ≤ 126 ∧ x.jB q < 65536) (hfg : fgG x.jB x.jU (min x.jsize x.jkept) = (a9, b9, u9n)) : Met l ⟨"SeriesVault$Journal", "forgetUnkept", "()V"⟩ [Cond.code ⟨"SeriesVault$Journal", "forgetUnkept", "()V"⟩ prog_3_method_10_code 2 none] { frames := 1, cells := 0, slots := 0, locals := 14 } (pC D dA [.ref (ad 0)] (VW dA h ad x) sz) (va_Qv (fun (u9 : Unit) => True) (fun (u9 : Unit) t9 => bW D (va_A (VW dA h ad x) sz) (VW dA h ad (VS.s_jch (VS.s_jfill (VS.s_jblock (VS.s_junits (VS.s_jkept (VS.s_jsize x (min x.jsize x.jkept)) (min x.jsize x.jkept)) u9n) a9) b9) false)) t9) (va_A (VW dA h ad x) sz)) 0 0 (va_A (VW dA h ad x) sz) := by
  refine mkC (y := ⟨"SeriesVault$Journal", "forgetUnkept", "()V"⟩) (cc := prog_3_method_10_code) (maxL := 2) (av := [.ref (ad 0)]) (ws := VW dA h ad x) (sz := sz) (Qc := fun A => va_Qv (fun (u9 : Unit) => True) (fun (u9 : Unit) t9 => bW D A (VW dA h ad (VS.s_jch (VS.s_jfill (VS.s_jblock (VS.s_junits (VS.s_jkept (VS.s_jsize x (min x.jsize x.jkept)) (min x.jsize x.jkept)) u9n) a9) b9) false)) t9) A) (by decide) (Nat.le_of_ble_eq_true rfl) ?_
  intro A p e s m below meth c ls hsz hB
  obtain ⟨hx, hb, hr, hml, hown, hin, hlk, hE, hK, hP, hD, hS, hA, hN, hl⟩ := hB
  have hown : s.vm.findClass "SeriesVault$Journal" = some m.cls := hown
  have hl : lv_has ls 2 [(0, .ref (ad 0))] := hl
  obtain ⟨H, hH⟩ : ∃ z, z = s.heap := ⟨_, rfl⟩
  have hP : va_P D vwCl (VW dA h ad x) H := by rw [hH]; exact hP
  have hS : va_S A s.heap H [] := by rw [hH]; exact hS
  rw [← hH]
  refine lv_aload_n hx hb d_J_forgetUnkept_0 rfl (lv_at hl 0 rfl) ?_
  refine lv_aload_n hx hb d_J_forgetUnkept_1 rfl (lv_at hl 0 rfl) ?_
  refine gF (v := .int (nI x.jsize)) hx hb hown hE hK hP 2 rfl rfl layJ 6 (by decide) w545 rfl d_J_forgetUnkept_2 ?_
  refine lv_aload_n hx hb d_J_forgetUnkept_5 rfl (lv_at hl 0 rfl) ?_
  refine gF (v := .int (nI x.jkept)) hx hb hown hE hK hP 2 rfl rfl layJ 7 (by decide) w546 rfl d_J_forgetUnkept_6 ?_
  refine va_mmin hx hb (hml.trans hl.1.symm) hown (hE.t w547 rfl) (hE.t w548 rfl) (hE.t w549 rfl) (hE.t w550 rfl) (Nat.le_of_ble_eq_true rfl) (Nat.le_of_ble_eq_true rfl) (Nat.le_of_ble_eq_true rfl) (Nat.le_of_ble_eq_true rfl) d_J_forgetUnkept_9 (tpi (y := nI (min x.jsize x.jkept)) (nI_min (a := x.jsize) (b := x.jkept) (by omega) (by omega)) ?_)
  refine pF (v := .int (nI (min x.jsize x.jkept))) hx hb hown hE hK hP hD hS 2 rfl rfl layJ tyJ tokJ nmJ 6 (by decide) w545 rfl rfl rfl (Nat.le_of_ble_eq_true rfl) d_J_forgetUnkept_12 (fun H locs hP hD hS => ?_)
  have hP : va_P D vwCl (VW dA h ad (VS.s_jsize x (min x.jsize x.jkept))) H := hP
  have hD : va_D A (VW dA h ad (VS.s_jsize x (min x.jsize x.jkept))) := hD
  refine lv_aload_n hx hb d_J_forgetUnkept_15 rfl (lv_at hl 0 rfl) ?_
  refine lv_aload_n hx hb d_J_forgetUnkept_16 rfl (lv_at hl 0 rfl) ?_
  refine gF (v := .int (nI (min x.jsize x.jkept))) hx hb hown hE hK hP 2 rfl rfl layJ 6 (by decide) w545 rfl d_J_forgetUnkept_17 ?_
  refine pF (v := .int (nI (min x.jsize x.jkept))) hx hb hown hE hK hP hD hS 2 rfl rfl layJ tyJ tokJ nmJ 7 (by decide) w546 rfl rfl rfl (Nat.le_of_ble_eq_true rfl) d_J_forgetUnkept_20 (fun H locs hP hD hS => ?_)
  have hP : va_P D vwCl (VW dA h ad (VS.s_jkept (VS.s_jsize x (min x.jsize x.jkept)) (min x.jsize x.jkept))) H := hP
  have hD : va_D A (VW dA h ad (VS.s_jkept (VS.s_jsize x (min x.jsize x.jkept)) (min x.jsize x.jkept))) := hD
  refine lv_aload_n hx hb d_J_forgetUnkept_23 rfl (lv_at hl 0 rfl) ?_
  refine lv_iconst (v := 0) hx hb d_J_forgetUnkept_24 (by decide) ?_
  refine pF (v := .int (bI false)) hx hb hown hE hK hP hD hS 2 rfl rfl layJ tyJ tokJ nmJ 12 (by decide) w551 rfl (bI_nar false) (bI_fit false) (Nat.le_of_ble_eq_true rfl) d_J_forgetUnkept_25 (fun H locs hP hD hS => ?_)
  have hP : va_P D vwCl (VW dA h ad (VS.s_jch (VS.s_jkept (VS.s_jsize x (min x.jsize x.jkept)) (min x.jsize x.jkept)) false)) H := hP
  have hD : va_D A (VW dA h ad (VS.s_jch (VS.s_jkept (VS.s_jsize x (min x.jsize x.jkept)) (min x.jsize x.jkept)) false)) := hD
  refine lv_aload_n hx hb d_J_forgetUnkept_28 rfl (lv_at hl 0 rfl) ?_
  refine lv_iconst (v := 0) hx hb d_J_forgetUnkept_29 (by decide) ?_
  refine pF (v := .int (nI 0)) hx hb hown hE hK hP hD hS 2 rfl rfl layJ tyJ tokJ nmJ 8 (by decide) w552 rfl rfl rfl (Nat.le_of_ble_eq_true rfl) d_J_forgetUnkept_30 (fun H locs hP hD hS => ?_)
  have hP : va_P D vwCl (VW dA h ad (VS.s_jch (VS.s_junits (VS.s_jkept (VS.s_jsize x (min x.jsize x.jkept)) (min x.jsize x.jkept)) 0) false)) H := hP
  have hD : va_D A (VW dA h ad (VS.s_jch (VS.s_junits (VS.s_jkept (VS.s_jsize x (min x.jsize x.jkept)) (min x.jsize x.jkept)) 0) false)) := hD
  refine lv_aload_n hx hb d_J_forgetUnkept_33 rfl (lv_at hl 0 rfl) ?_
  refine lv_iconst (v := 0) hx hb d_J_forgetUnkept_34 (by decide) ?_
  refine pF (v := .int (nI 0)) hx hb hown hE hK hP hD hS 2 rfl rfl layJ tyJ tokJ nmJ 10 (by decide) w553 rfl rfl rfl (Nat.le_of_ble_eq_true rfl) d_J_forgetUnkept_35 (fun H locs hP hD hS => ?_)
  have hP : va_P D vwCl (VW dA h ad (VS.s_jch (VS.s_jblock (VS.s_junits (VS.s_jkept (VS.s_jsize x (min x.jsize x.jkept)) (min x.jsize x.jkept)) 0) 0) false)) H := hP
  have hD : va_D A (VW dA h ad (VS.s_jch (VS.s_jblock (VS.s_junits (VS.s_jkept (VS.s_jsize x (min x.jsize x.jkept)) (min x.jsize x.jkept)) 0) 0) false)) := hD
  refine lv_aload_n hx hb d_J_forgetUnkept_38 rfl (lv_at hl 0 rfl) ?_
  refine lv_iconst (v := 0) hx hb d_J_forgetUnkept_39 (by decide) ?_
  refine pF (v := .int (nI 0)) hx hb hown hE hK hP hD hS 2 rfl rfl layJ tyJ tokJ nmJ 11 (by decide) w554 rfl rfl rfl (Nat.le_of_ble_eq_true rfl) d_J_forgetUnkept_40 (fun H locs hP hD hS => ?_)
  have hP : va_P D vwCl (VW dA h ad (VS.s_jch (VS.s_jfill (VS.s_jblock (VS.s_junits (VS.s_jkept (VS.s_jsize x (min x.jsize x.jkept)) (min x.jsize x.jkept)) 0) 0) 0) false)) H := hP
  have hD : va_D A (VW dA h ad (VS.s_jch (VS.s_jfill (VS.s_jblock (VS.s_junits (VS.s_jkept (VS.s_jsize x (min x.jsize x.jkept)) (min x.jsize x.jkept)) 0) 0) 0) false)) := hD
  refine lv_iconst (v := 0) hx hb d_J_forgetUnkept_43 (by decide) ?_
  refine lv_istore_n hx hb d_J_forgetUnkept_44 rfl hl (by decide) rfl (fun ls hl => ?_)
  have hl : lv_has ls 2 [(1, .int 0), (0, .ref (ad 0))] := hl
  have L45 : ∀ (k9 : Nat) (r : Nat) (a : Nat) (b : Nat) (u : Nat) (i1 : r ≤ min x.jsize x.jkept) (i2 : fgG x.jB x.jU r = (a, b, u)) (i3 : a < 65536) (i4 : b ≤ 126 * r) (hk9 : min x.jsize x.jkept - r = k9), ∀ (H : Heap) (locs : List Loc) (ls : Array Slot) (hP : va_P D vwCl (VW dA h ad (VS.s_jch (VS.s_jfill (VS.s_jblock (VS.s_junits (VS.s_jkept (VS.s_jsize x (min x.jsize x.jkept)) (min x.jsize x.jkept)) u) a) b) false)) H) (hD : va_D A (VW dA h ad (VS.s_jch (VS.s_jfill (VS.s_jblock (VS.s_junits (VS.s_jkept (VS.s_jsize x (min x.jsize x.jkept)) (min x.jsize x.jkept)) u) a) b) false))) (hS : va_S A s.heap H locs) (hl : lv_has ls 2 [(1, .int (nI r)), (0, .ref (ad 0))]), W p l e ({ frames := 1, cells := 0, slots := 0, locals := 14 } : Room) s m ([.ref (ad 0)] : List Value).toArray below meth c H locs 0 0 (MQ below (va_Qv (fun (u9 : Unit) => True) (fun (u9 : Unit) t9 => bW D A (VW dA h ad (VS.s_jch (VS.s_jfill (VS.s_jblock (VS.s_junits (VS.s_jkept (VS.s_jsize x (min x.jsize x.jkept)) (min x.jsize x.jkept)) u9n) a9) b9) false)) t9) A) ([.ref (ad 0)] : List Value).toArray s 0 0 A) (F0 m 45 ls []) := by
    intro k9
    induction k9 using Nat.strongRecOn with
    | ind k9 ih45 =>
      intro r a b u i1 i2 i3 i4 hk9 H locs ls hP hD hS hl
      refine lv_iload_n hx hb d_J_forgetUnkept_45 rfl (lv_at hl 0 rfl) ?_
      refine lv_aload_n hx hb d_J_forgetUnkept_46 rfl (lv_at hl 1 rfl) ?_
      refine gF (v := .int (nI (min x.jsize x.jkept))) hx hb hown hE hK hP 2 rfl rfl layJ 6 (by decide) w545 rfl d_J_forgetUnkept_47 ?_
      refine lv_icmp_ge hx hb d_J_forgetUnkept_50 (tgt := 121) rfl (fun g1 => ?_) (fun g1 => ?_)
      · have g1 := (nI_leI (a := min x.jsize x.jkept) (b := r) (by omega) (by omega)).mp g1
        have e9 : (VS.s_jch (VS.s_jfill (VS.s_jblock (VS.s_junits (VS.s_jkept (VS.s_jsize x (min x.jsize x.jkept)) (min x.jsize x.jkept)) u) a) b) false : VS) = VS.s_jch (VS.s_jfill (VS.s_jblock (VS.s_junits (VS.s_jkept (VS.s_jsize x (min x.jsize x.jkept)) (min x.jsize x.jkept)) u9n) a9) b9) false := by rw [show u9n = u from by (exact congrArg (fun z => z.2.2) (hfg.symm.trans ((congrArg (fgG x.jB x.jU) (show min x.jsize x.jkept = r by omega)).trans i2))), show a9 = a from by (exact congrArg (fun z => z.1) (hfg.symm.trans ((congrArg (fgG x.jB x.jU) (show min x.jsize x.jkept = r by omega)).trans i2))), show b9 = b from by (exact congrArg (fun z => z.2.1) (hfg.symm.trans ((congrArg (fgG x.jB x.jU) (show min x.jsize x.jkept = r by omega)).trans i2)))] <;> rfl
        exact rfV hx hb hr hlk hS () trivial (cvPv e9 hP) (cvDv e9 hD) (Nat.le_of_ble_eq_true rfl) (Nat.le_of_ble_eq_true rfl) d_J_forgetUnkept_121
      · have g1 := mt (nI_leI (a := min x.jsize x.jkept) (b := r) (by omega) (by omega)).mpr g1
        have b7 := h7 r (by omega)
        have b8 := b7.1
        have b6 := b7.2
        refine lv_aload_n hx hb d_J_forgetUnkept_53 rfl (lv_at hl 1 rfl) ?_
        have J87 : ∀ (v : Nat) (f1 : (if x.jB r = a then b + x.jU r else x.jU r) = v) (f2 : v ≤ 126 * (r + 1)), ∀ (H : Heap) (locs : List Loc) (ls : Array Slot) (hP : va_P D vwCl (VW dA h ad (VS.s_jch (VS.s_jfill (VS.s_jblock (VS.s_junits (VS.s_jkept (VS.s_jsize x (min x.jsize x.jkept)) (min x.jsize x.jkept)) u) a) b) false)) H) (hD : va_D A (VW dA h ad (VS.s_jch (VS.s_jfill (VS.s_jblock (VS.s_junits (VS.s_jkept (VS.s_jsize x (min x.jsize x.jkept)) (min x.jsize x.jkept)) u) a) b) false))) (hS : va_S A s.heap H locs) (hl : lv_has ls 2 [(1, .int (nI r)), (0, .ref (ad 0))]), W p l e ({ frames := 1, cells := 0, slots := 0, locals := 14 } : Room) s m ([.ref (ad 0)] : List Value).toArray below meth c H locs 0 0 (MQ below (va_Qv (fun (u9 : Unit) => True) (fun (u9 : Unit) t9 => bW D A (VW dA h ad (VS.s_jch (VS.s_jfill (VS.s_jblock (VS.s_junits (VS.s_jkept (VS.s_jsize x (min x.jsize x.jkept)) (min x.jsize x.jkept)) u9n) a9) b9) false)) t9) A) ([.ref (ad 0)] : List Value).toArray s 0 0 A) (F0 m 87 ls [.int (nI v), .ref (ad 0)]) := by
          intro v f1 f2 H locs ls hP hD hS hl
          refine pF (v := .int (nI v)) hx hb hown hE hK hP hD hS 2 rfl rfl layJ tyJ tokJ nmJ 11 (by decide) w554 rfl rfl rfl (Nat.le_of_ble_eq_true rfl) d_J_forgetUnkept_87 (fun H locs hP hD hS => ?_)
          have hP : va_P D vwCl (VW dA h ad (VS.s_jch (VS.s_jfill (VS.s_jblock (VS.s_junits (VS.s_jkept (VS.s_jsize x (min x.jsize x.jkept)) (min x.jsize x.jkept)) u) a) v) false)) H := hP
          have hD : va_D A (VW dA h ad (VS.s_jch (VS.s_jfill (VS.s_jblock (VS.s_junits (VS.s_jkept (VS.s_jsize x (min x.jsize x.jkept)) (min x.jsize x.jkept)) u) a) v) false)) := hD
          refine lv_aload_n hx hb d_J_forgetUnkept_90 rfl (lv_at hl 1 rfl) ?_
          refine lv_aload_n hx hb d_J_forgetUnkept_91 rfl (lv_at hl 1 rfl) ?_
          refine gF (v := .ref (x.jA 3)) hx hb hown hE hK hP 2 rfl rfl layJ 3 (by decide) w193 rfl d_J_forgetUnkept_92 ?_
          refine lv_iload_n hx hb d_J_forgetUnkept_95 rfl (lv_at hl 0 rfl) ?_
          refine nild (f := (fun z9 => nI (x.jB z9))) (n := x.jN) hx hb hK hP 6 1 rfl rfl (r) (by omega) (by omega) d_J_forgetUnkept_96 ?_
          refine pF (v := .int (nI (x.jB r))) hx hb hown hE hK hP hD hS 2 rfl rfl layJ tyJ tokJ nmJ 10 (by decide) w553 rfl rfl rfl (Nat.le_of_ble_eq_true rfl) d_J_forgetUnkept_97 (fun H locs hP hD hS => ?_)
          have hP : va_P D vwCl (VW dA h ad (VS.s_jch (VS.s_jfill (VS.s_jblock (VS.s_junits (VS.s_jkept (VS.s_jsize x (min x.jsize x.jkept)) (min x.jsize x.jkept)) u) (x.jB r)) v) false)) H := hP
          have hD : va_D A (VW dA h ad (VS.s_jch (VS.s_jfill (VS.s_jblock (VS.s_junits (VS.s_jkept (VS.s_jsize x (min x.jsize x.jkept)) (min x.jsize x.jkept)) u) (x.jB r)) v) false)) := hD
          refine lv_aload_n hx hb d_J_forgetUnkept_100 rfl (lv_at hl 1 rfl) ?_
          refine lv_dup hx hb d_J_forgetUnkept_101 rfl ?_
          refine gF (v := .int (nI u)) hx hb hown hE hK hP 2 rfl rfl layJ 8 (by decide) w552 rfl d_J_forgetUnkept_102 ?_
          refine lv_aload_n hx hb d_J_forgetUnkept_105 rfl (lv_at hl 1 rfl) ?_
          refine gF (v := .ref (x.jA 2)) hx hb hown hE hK hP 2 rfl rfl layJ 2 (by decide) w192 rfl d_J_forgetUnkept_106 ?_
          refine lv_iload_n hx hb d_J_forgetUnkept_109 rfl (lv_at hl 0 rfl) ?_
          refine nild (f := (fun z9 => nI (x.jU z9))) (n := x.jN) hx hb hK hP 5 1 rfl rfl (r) (by omega) (by omega) d_J_forgetUnkept_110 ?_
          refine lv_iadd hx hb d_J_forgetUnkept_111 (tpi (y := nI (u + (x.jU r))) (nI_add (u) (x.jU r)) ?_)
          refine pF (v := .int (nI (u + (x.jU r)))) hx hb hown hE hK hP hD hS 2 rfl rfl layJ tyJ tokJ nmJ 8 (by decide) w552 rfl rfl rfl (Nat.le_of_ble_eq_true rfl) d_J_forgetUnkept_112 (fun H locs hP hD hS => ?_)
          have hP : va_P D vwCl (VW dA h ad (VS.s_jch (VS.s_jfill (VS.s_jblock (VS.s_junits (VS.s_jkept (VS.s_jsize x (min x.jsize x.jkept)) (min x.jsize x.jkept)) (u + (x.jU r))) (x.jB r)) v) false)) H := hP
          have hD : va_D A (VW dA h ad (VS.s_jch (VS.s_jfill (VS.s_jblock (VS.s_junits (VS.s_jkept (VS.s_jsize x (min x.jsize x.jkept)) (min x.jsize x.jkept)) (u + (x.jU r))) (x.jB r)) v) false)) := hD
          refine lv_iinc (k := 0) (v := nI (r + 1)) hx hb d_J_forgetUnkept_115 hl rfl (iincN (r) 1 1 (by decide)) (by decide) rfl (fun ls hl => ?_)
          have hl : lv_has ls 2 [(1, .int (nI (r + 1))), (0, .ref (ad 0))] := hl
          refine lv_goto hx hb d_J_forgetUnkept_118 (tgt := 45) rfl ?_
          exact ih45 _ (by omega) (r + 1) (x.jB r) v (u + (x.jU r)) (by omega) (fg_s i2 f1) (by omega) (by omega) rfl H _ ls hP hD hS (lv_sub hl [0, 1] rfl)
        refine lv_aload_n hx hb d_J_forgetUnkept_54 rfl (lv_at hl 1 rfl) ?_
        refine gF (v := .ref (x.jA 3)) hx hb hown hE hK hP 2 rfl rfl layJ 3 (by decide) w193 rfl d_J_forgetUnkept_55 ?_
        refine lv_iload_n hx hb d_J_forgetUnkept_58 rfl (lv_at hl 0 rfl) ?_
        refine nild (f := (fun z9 => nI (x.jB z9))) (n := x.jN) hx hb hK hP 6 1 rfl rfl (r) (by omega) (by omega) d_J_forgetUnkept_59 ?_
        refine lv_aload_n hx hb d_J_forgetUnkept_60 rfl (lv_at hl 1 rfl) ?_
        refine gF (v := .int (nI a)) hx hb hown hE hK hP 2 rfl rfl layJ 10 (by decide) w553 rfl d_J_forgetUnkept_61 ?_
        refine lv_icmp_ne hx hb d_J_forgetUnkept_64 (tgt := 81) rfl (fun g2 => ?_) (fun g2 => ?_)
        · have g2 := mt (nI_eq (a := x.jB r) (b := a) (by omega) (by omega)).mpr g2
          refine lv_aload_n hx hb d_J_forgetUnkept_81 rfl (lv_at hl 1 rfl) ?_
          refine gF (v := .ref (x.jA 2)) hx hb hown hE hK hP 2 rfl rfl layJ 2 (by decide) w192 rfl d_J_forgetUnkept_82 ?_
          refine lv_iload_n hx hb d_J_forgetUnkept_85 rfl (lv_at hl 0 rfl) ?_
          refine nild (f := (fun z9 => nI (x.jU z9))) (n := x.jN) hx hb hK hP 5 1 rfl rfl (r) (by omega) (by omega) d_J_forgetUnkept_86 ?_
          exact J87 (x.jU r) (if_neg g2) (by omega) H _ ls hP hD hS (lv_sub hl [0, 1] rfl)
        · have g2 := (nI_eq (a := x.jB r) (b := a) (by omega) (by omega)).mp g2
          refine lv_aload_n hx hb d_J_forgetUnkept_67 rfl (lv_at hl 1 rfl) ?_
          refine gF (v := .int (nI b)) hx hb hown hE hK hP 2 rfl rfl layJ 11 (by decide) w554 rfl d_J_forgetUnkept_68 ?_
          refine lv_aload_n hx hb d_J_forgetUnkept_71 rfl (lv_at hl 1 rfl) ?_
          refine gF (v := .ref (x.jA 2)) hx hb hown hE hK hP 2 rfl rfl layJ 2 (by decide) w192 rfl d_J_forgetUnkept_72 ?_
          refine lv_iload_n hx hb d_J_forgetUnkept_75 rfl (lv_at hl 0 rfl) ?_
          refine nild (f := (fun z9 => nI (x.jU z9))) (n := x.jN) hx hb hK hP 5 1 rfl rfl (r) (by omega) (by omega) d_J_forgetUnkept_76 ?_
          refine lv_iadd hx hb d_J_forgetUnkept_77 (tpi (y := nI (b + (x.jU r))) (nI_add (b) (x.jU r)) ?_)
          refine lv_goto hx hb d_J_forgetUnkept_78 (tgt := 87) rfl ?_
          exact J87 (b + (x.jU r)) (if_pos g2) (by omega) H _ ls hP hD hS (lv_sub hl [0, 1] rfl)
  exact L45 _ 0 0 0 0 (Nat.zero_le _) rfl (by omega) (by omega) rfl H _ ls hP hD hS (lv_sub hl [0, 1] rfl)
