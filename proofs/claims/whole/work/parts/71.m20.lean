def MS.nmB (x : MS) (a b c d : Int32) (n : Nat) : Bool := decide (x.kind = 2) && (decide (x.too - x.frm = n) && (decide (x.atN x.frm = a) && (decide (x.atN (x.frm + 1) = b) && ((decide (n < 3) || decide (x.atN (x.frm + 2) = c)) && (decide (n < 4) || decide (x.atN (x.frm + 3) = d))))))
theorem d_M_isStart_0 : decode prog_14_method_63_code 0 = .ok (.aload_n 0, 1) := by decide +kernel
theorem d_M_isStart_1 : decode prog_14_method_63_code 1 = .ok (.aload_n 0, 1) := by decide +kernel
theorem d_M_isStart_2 : decode prog_14_method_63_code 2 = .ok (.getfield 345, 3) := by decide +kernel
theorem d_M_isStart_5 : decode prog_14_method_63_code 5 = .ok (.invokevirtual 348, 3) := by decide +kernel
theorem d_M_isStart_8 : decode prog_14_method_63_code 8 = .ok (.iload_n 1, 1) := by decide +kernel
theorem d_M_isStart_9 : decode prog_14_method_63_code 9 = .ok (.if_icmp .ne 35, 3) := by decide +kernel
theorem d_M_isStart_44 : decode prog_14_method_63_code 44 = .ok (.iconst 0, 1) := by decide +kernel
theorem d_M_isStart_45 : decode prog_14_method_63_code 45 = .ok (.ireturn, 1) := by decide +kernel
theorem d_M_isStart_12 : decode prog_14_method_63_code 12 = .ok (.aload_n 0, 1) := by decide +kernel
theorem d_M_isStart_13 : decode prog_14_method_63_code 13 = .ok (.aload_n 0, 1) := by decide +kernel
theorem d_M_isStart_14 : decode prog_14_method_63_code 14 = .ok (.getfield 345, 3) := by decide +kernel
theorem d_M_isStart_17 : decode prog_14_method_63_code 17 = .ok (.iconst 1, 1) := by decide +kernel
theorem d_M_isStart_18 : decode prog_14_method_63_code 18 = .ok (.iadd, 1) := by decide +kernel
theorem d_M_isStart_19 : decode prog_14_method_63_code 19 = .ok (.invokevirtual 348, 3) := by decide +kernel
theorem d_M_isStart_22 : decode prog_14_method_63_code 22 = .ok (.iload_n 2, 1) := by decide +kernel
theorem d_M_isStart_23 : decode prog_14_method_63_code 23 = .ok (.if_icmp .ne 21, 3) := by decide +kernel
theorem d_M_isStart_26 : decode prog_14_method_63_code 26 = .ok (.aload_n 0, 1) := by decide +kernel
theorem d_M_isStart_27 : decode prog_14_method_63_code 27 = .ok (.aload_n 0, 1) := by decide +kernel
theorem d_M_isStart_28 : decode prog_14_method_63_code 28 = .ok (.getfield 345, 3) := by decide +kernel
theorem d_M_isStart_31 : decode prog_14_method_63_code 31 = .ok (.iconst 2, 1) := by decide +kernel
theorem d_M_isStart_32 : decode prog_14_method_63_code 32 = .ok (.iadd, 1) := by decide +kernel
theorem d_M_isStart_33 : decode prog_14_method_63_code 33 = .ok (.invokevirtual 348, 3) := by decide +kernel
theorem d_M_isStart_36 : decode prog_14_method_63_code 36 = .ok (.iload_n 3, 1) := by decide +kernel
theorem d_M_isStart_37 : decode prog_14_method_63_code 37 = .ok (.if_icmp .ne 7, 3) := by decide +kernel
theorem d_M_isStart_40 : decode prog_14_method_63_code 40 = .ok (.iconst 1, 1) := by decide +kernel
theorem d_M_isStart_41 : decode prog_14_method_63_code 41 = .ok (.goto 4, 3) := by decide +kernel
set_option maxHeartbeats 4000000 in
set_option maxRecDepth 100000 in
theorem k_isStart (l : Launch) (D : va_G) (dA : Nat → ClassId) (sz : Nat) (h : Nat) (ad : Nat → Nat) (x : MS) (a : Int32) (b : Int32) (c7 : Int32) (hl1 : x.length ≤ 65536) (hfr : x.frm ≤ x.too) (hto : x.too ≤ 65537) : Met l ⟨"SeriesVaultModel", "isStart", "(CCC)Z"⟩ [Cond.code ⟨"SeriesVaultModel", "isStart", "(CCC)Z"⟩ prog_14_method_63_code 4 (some FieldType.boolean)] { frames := 2, cells := 0, slots := 0, locals := 21 } (pC D dA [.ref h, .int a, .int b, .int c7] (MW dA h ad x) sz) (va_Qi (fun (r9 : Int32) (u9 : Unit) => r9 = bI (x.stB a b c7)) (fun (u9 : Unit) t9 => bW D (va_A (MW dA h ad x) sz) (MW dA h ad x) t9) (va_A (MW dA h ad x) sz)) 0 0 (va_A (MW dA h ad x) sz) := by
  refine mkC (y := ⟨"SeriesVaultModel", "isStart", "(CCC)Z"⟩) (cc := prog_14_method_63_code) (maxL := 4) (av := [.ref h, .int a, .int b, .int c7]) (ws := MW dA h ad x) (sz := sz) (Qc := fun A => va_Qi (fun (r9 : Int32) (u9 : Unit) => r9 = bI (x.stB a b c7)) (fun (u9 : Unit) t9 => bW D A (MW dA h ad x) t9) A) (by decide) (Nat.le_of_ble_eq_true rfl) ?_
  intro A p e s m below meth c ls hsz hB
  obtain ⟨hx, hb, hr, hml, hown, hin, hlk, hE, hK, hP, hD, hS, hA, hN, hl⟩ := hB
  have hown : s.vm.findClass "SeriesVaultModel" = some m.cls := hown
  have hl : lv_has ls 4 [(0, .ref h), (1, .int a), (2, .int b), (3, .int c7)] := hl
  obtain ⟨H, hH⟩ : ∃ z, z = s.heap := ⟨_, rfl⟩
  have hP : va_P D vwCl (MW dA h ad x) H := by rw [hH]; exact hP
  have hS : va_S A s.heap H [] := by rw [hH]; exact hS
  rw [← hH]
  refine lv_aload_n hx hb d_M_isStart_0 rfl (lv_at hl 0 rfl) ?_
  refine lv_aload_n hx hb d_M_isStart_1 rfl (lv_at hl 0 rfl) ?_
  refine gF (v := .int (nI x.frm)) hx hb hown hE hK hP 0 rfl rfl layM 45 (by decide) w464 rfl d_M_isStart_2 ?_
  refine jfI (rnV (As := [.int (nI x.frm)]) (rest := []) hx hb hml hown hE hK (hN _ _ hS) hP hD (k_at l D dA H.size h ad x x.frm (show x.frm < 2 ^ 31 from by omega) (show x.length ≤ 65536 from by omega)) (q0 := 0) rfl rfl w466 w465 w467 w468 w328 rfl rfl ⟨⟨by decide, by decide⟩, rfl⟩ ⟨(Nat.le_of_ble_eq_true rfl), (Nat.le_of_ble_eq_true rfl)⟩ rfl hl.1 rfl (Nat.le_of_ble_eq_true rfl) d_M_isStart_5 ⟨(Nat.le_of_ble_eq_true rfl), (Nat.le_of_ble_eq_true rfl)⟩) hP hD hS hA (fun r1 u2 H locs hp9 hP hD hS => ?_)
  have hP : va_P D vwCl (MW dA h ad x) H := hP
  have hD : va_D A (MW dA h ad x) := hD
  replace hp9 : x.atN x.frm = r1 := Eq.symm hp9
  subst hp9
  refine lv_iload_n hx hb d_M_isStart_8 rfl (lv_at hl 1 rfl) ?_
  refine lv_icmp_ne hx hb d_M_isStart_9 (tgt := 44) rfl (fun g3 => ?_) (fun g3 => ?_)
  · have g3 := g3
    refine lv_iconst (v := 0) hx hb d_M_isStart_44 (by decide) ?_
    exact rfZ hx hb hr (bI_nar false) hlk hS () (by simp [MS.stB, bI, *]) hP hD (Nat.le_of_ble_eq_true rfl) (Nat.le_of_ble_eq_true rfl) d_M_isStart_45
  · have g3 := g3
    refine lv_aload_n hx hb d_M_isStart_12 rfl (lv_at hl 0 rfl) ?_
    refine lv_aload_n hx hb d_M_isStart_13 rfl (lv_at hl 0 rfl) ?_
    refine gF (v := .int (nI x.frm)) hx hb hown hE hK hP 0 rfl rfl layM 45 (by decide) w464 rfl d_M_isStart_14 ?_
    refine lv_iconst (v := 1) hx hb d_M_isStart_17 (by decide) ?_
    refine lv_iadd hx hb d_M_isStart_18 (tpi (y := nI (x.frm + 1)) (nI_add (x.frm) (1)) ?_)
    refine jfI (rnV (As := [.int (nI (x.frm + 1))]) (rest := []) hx hb hml hown hE hK (hN _ _ hS) hP hD (k_at l D dA H.size h ad x (x.frm + 1) (show (x.frm + 1) < 2 ^ 31 from by omega) (show x.length ≤ 65536 from by omega)) (q0 := 0) rfl rfl w466 w465 w467 w468 w328 rfl rfl ⟨⟨by decide, by decide⟩, rfl⟩ ⟨(Nat.le_of_ble_eq_true rfl), (Nat.le_of_ble_eq_true rfl)⟩ rfl hl.1 rfl (Nat.le_of_ble_eq_true rfl) d_M_isStart_19 ⟨(Nat.le_of_ble_eq_true rfl), (Nat.le_of_ble_eq_true rfl)⟩) hP hD hS hA (fun r4 u5 H locs hp9 hP hD hS => ?_)
    have hP : va_P D vwCl (MW dA h ad x) H := hP
    have hD : va_D A (MW dA h ad x) := hD
    replace hp9 : x.atN (x.frm + 1) = r4 := Eq.symm hp9
    subst hp9
    refine lv_iload_n hx hb d_M_isStart_22 rfl (lv_at hl 2 rfl) ?_
    refine lv_icmp_ne hx hb d_M_isStart_23 (tgt := 44) rfl (fun g6 => ?_) (fun g6 => ?_)
    · have g6 := g6
      refine lv_iconst (v := 0) hx hb d_M_isStart_44 (by decide) ?_
      exact rfZ hx hb hr (bI_nar false) hlk hS () (by simp [MS.stB, bI, *]) hP hD (Nat.le_of_ble_eq_true rfl) (Nat.le_of_ble_eq_true rfl) d_M_isStart_45
    · have g6 := g6
      refine lv_aload_n hx hb d_M_isStart_26 rfl (lv_at hl 0 rfl) ?_
      refine lv_aload_n hx hb d_M_isStart_27 rfl (lv_at hl 0 rfl) ?_
      refine gF (v := .int (nI x.frm)) hx hb hown hE hK hP 0 rfl rfl layM 45 (by decide) w464 rfl d_M_isStart_28 ?_
      refine lv_iconst (v := 2) hx hb d_M_isStart_31 (by decide) ?_
      refine lv_iadd hx hb d_M_isStart_32 (tpi (y := nI (x.frm + 2)) (nI_add (x.frm) (2)) ?_)
      refine jfI (rnV (As := [.int (nI (x.frm + 2))]) (rest := []) hx hb hml hown hE hK (hN _ _ hS) hP hD (k_at l D dA H.size h ad x (x.frm + 2) (show (x.frm + 2) < 2 ^ 31 from by omega) (show x.length ≤ 65536 from by omega)) (q0 := 0) rfl rfl w466 w465 w467 w468 w328 rfl rfl ⟨⟨by decide, by decide⟩, rfl⟩ ⟨(Nat.le_of_ble_eq_true rfl), (Nat.le_of_ble_eq_true rfl)⟩ rfl hl.1 rfl (Nat.le_of_ble_eq_true rfl) d_M_isStart_33 ⟨(Nat.le_of_ble_eq_true rfl), (Nat.le_of_ble_eq_true rfl)⟩) hP hD hS hA (fun r7 u8 H locs hp9 hP hD hS => ?_)
      have hP : va_P D vwCl (MW dA h ad x) H := hP
      have hD : va_D A (MW dA h ad x) := hD
      replace hp9 : x.atN (x.frm + 2) = r7 := Eq.symm hp9
      subst hp9
      refine lv_iload_n hx hb d_M_isStart_36 rfl (lv_at hl 3 rfl) ?_
      refine lv_icmp_ne hx hb d_M_isStart_37 (tgt := 44) rfl (fun g9 => ?_) (fun g9 => ?_)
      · have g9 := g9
        refine lv_iconst (v := 0) hx hb d_M_isStart_44 (by decide) ?_
        exact rfZ hx hb hr (bI_nar false) hlk hS () (by simp [MS.stB, bI, *]) hP hD (Nat.le_of_ble_eq_true rfl) (Nat.le_of_ble_eq_true rfl) d_M_isStart_45
      · have g9 := g9
        refine lv_iconst (v := 1) hx hb d_M_isStart_40 (by decide) ?_
        refine lv_goto hx hb d_M_isStart_41 (tgt := 45) rfl ?_
        exact rfZ hx hb hr (bI_nar true) hlk hS () (by simp [MS.stB, bI, *]) hP hD (Nat.le_of_ble_eq_true rfl) (Nat.le_of_ble_eq_true rfl) d_M_isStart_45
theorem d_M_isName_0 : decode prog_14_method_61_code 0 = .ok (.aload_n 0, 1) := by decide +kernel
theorem d_M_isName_1 : decode prog_14_method_61_code 1 = .ok (.getfield 351, 3) := by decide +kernel
theorem d_M_isName_4 : decode prog_14_method_61_code 4 = .ok (.iconst 2, 1) := by decide +kernel
theorem d_M_isName_5 : decode prog_14_method_61_code 5 = .ok (.if_icmp .ne 88, 3) := by decide +kernel
theorem d_M_isName_93 : decode prog_14_method_61_code 93 = .ok (.iconst 0, 1) := by decide +kernel
theorem d_M_isName_94 : decode prog_14_method_61_code 94 = .ok (.ireturn, 1) := by decide +kernel
theorem d_M_isName_8 : decode prog_14_method_61_code 8 = .ok (.aload_n 0, 1) := by decide +kernel
theorem d_M_isName_9 : decode prog_14_method_61_code 9 = .ok (.getfield 342, 3) := by decide +kernel
theorem d_M_isName_12 : decode prog_14_method_61_code 12 = .ok (.aload_n 0, 1) := by decide +kernel
theorem d_M_isName_13 : decode prog_14_method_61_code 13 = .ok (.getfield 345, 3) := by decide +kernel
theorem d_M_isName_16 : decode prog_14_method_61_code 16 = .ok (.isub, 1) := by decide +kernel
theorem d_M_isName_17 : decode prog_14_method_61_code 17 = .ok (.iload 5, 2) := by decide +kernel
theorem d_M_isName_19 : decode prog_14_method_61_code 19 = .ok (.if_icmp .ne 74, 3) := by decide +kernel
theorem d_M_isName_22 : decode prog_14_method_61_code 22 = .ok (.aload_n 0, 1) := by decide +kernel
theorem d_M_isName_23 : decode prog_14_method_61_code 23 = .ok (.aload_n 0, 1) := by decide +kernel
theorem d_M_isName_24 : decode prog_14_method_61_code 24 = .ok (.getfield 345, 3) := by decide +kernel
theorem d_M_isName_27 : decode prog_14_method_61_code 27 = .ok (.invokevirtual 348, 3) := by decide +kernel
theorem d_M_isName_30 : decode prog_14_method_61_code 30 = .ok (.iload_n 1, 1) := by decide +kernel
theorem d_M_isName_31 : decode prog_14_method_61_code 31 = .ok (.if_icmp .ne 62, 3) := by decide +kernel
theorem d_M_isName_34 : decode prog_14_method_61_code 34 = .ok (.aload_n 0, 1) := by decide +kernel
theorem d_M_isName_35 : decode prog_14_method_61_code 35 = .ok (.aload_n 0, 1) := by decide +kernel
theorem d_M_isName_36 : decode prog_14_method_61_code 36 = .ok (.getfield 345, 3) := by decide +kernel
theorem d_M_isName_39 : decode prog_14_method_61_code 39 = .ok (.iconst 1, 1) := by decide +kernel
theorem d_M_isName_40 : decode prog_14_method_61_code 40 = .ok (.iadd, 1) := by decide +kernel
theorem d_M_isName_41 : decode prog_14_method_61_code 41 = .ok (.invokevirtual 348, 3) := by decide +kernel
theorem d_M_isName_44 : decode prog_14_method_61_code 44 = .ok (.iload_n 2, 1) := by decide +kernel
theorem d_M_isName_45 : decode prog_14_method_61_code 45 = .ok (.if_icmp .ne 48, 3) := by decide +kernel
theorem d_M_isName_48 : decode prog_14_method_61_code 48 = .ok (.iload 5, 2) := by decide +kernel
theorem d_M_isName_50 : decode prog_14_method_61_code 50 = .ok (.iconst 3, 1) := by decide +kernel
theorem d_M_isName_51 : decode prog_14_method_61_code 51 = .ok (.if_icmp .lt 17, 3) := by decide +kernel
theorem d_M_isName_68 : decode prog_14_method_61_code 68 = .ok (.iload 5, 2) := by decide +kernel
theorem d_M_isName_70 : decode prog_14_method_61_code 70 = .ok (.iconst 4, 1) := by decide +kernel
theorem d_M_isName_71 : decode prog_14_method_61_code 71 = .ok (.if_icmp .lt 18, 3) := by decide +kernel
theorem d_M_isName_89 : decode prog_14_method_61_code 89 = .ok (.iconst 1, 1) := by decide +kernel
theorem d_M_isName_90 : decode prog_14_method_61_code 90 = .ok (.goto 4, 3) := by decide +kernel
theorem d_M_isName_74 : decode prog_14_method_61_code 74 = .ok (.aload_n 0, 1) := by decide +kernel
theorem d_M_isName_75 : decode prog_14_method_61_code 75 = .ok (.aload_n 0, 1) := by decide +kernel
theorem d_M_isName_76 : decode prog_14_method_61_code 76 = .ok (.getfield 345, 3) := by decide +kernel
theorem d_M_isName_79 : decode prog_14_method_61_code 79 = .ok (.iconst 3, 1) := by decide +kernel
theorem d_M_isName_80 : decode prog_14_method_61_code 80 = .ok (.iadd, 1) := by decide +kernel
theorem d_M_isName_81 : decode prog_14_method_61_code 81 = .ok (.invokevirtual 348, 3) := by decide +kernel
theorem d_M_isName_84 : decode prog_14_method_61_code 84 = .ok (.iload 4, 2) := by decide +kernel
theorem d_M_isName_86 : decode prog_14_method_61_code 86 = .ok (.if_icmp .ne 7, 3) := by decide +kernel
theorem d_M_isName_54 : decode prog_14_method_61_code 54 = .ok (.aload_n 0, 1) := by decide +kernel
theorem d_M_isName_55 : decode prog_14_method_61_code 55 = .ok (.aload_n 0, 1) := by decide +kernel
theorem d_M_isName_56 : decode prog_14_method_61_code 56 = .ok (.getfield 345, 3) := by decide +kernel
theorem d_M_isName_59 : decode prog_14_method_61_code 59 = .ok (.iconst 2, 1) := by decide +kernel
theorem d_M_isName_60 : decode prog_14_method_61_code 60 = .ok (.iadd, 1) := by decide +kernel
theorem d_M_isName_61 : decode prog_14_method_61_code 61 = .ok (.invokevirtual 348, 3) := by decide +kernel
theorem d_M_isName_64 : decode prog_14_method_61_code 64 = .ok (.iload_n 3, 1) := by decide +kernel
theorem d_M_isName_65 : decode prog_14_method_61_code 65 = .ok (.if_icmp .ne 28, 3) := by decide +kernel
set_option maxHeartbeats 4000000 in
set_option maxRecDepth 100000 in
theorem k_isName (l : Launch) (D : va_G) (dA : Nat → ClassId) (sz : Nat) (h : Nat) (ad : Nat → Nat) (x : MS) (a : Int32) (b : Int32) (c7 : Int32) (d : Int32) (n : Nat) (hl1 : x.length ≤ 65536) (hfr : x.frm ≤ x.too) (hto : x.too ≤ 65537) (hn : n ≤ 4) : Met l ⟨"SeriesVaultModel", "isName", "(CCCCI)Z"⟩ [Cond.code ⟨"SeriesVaultModel", "isName", "(CCCCI)Z"⟩ prog_14_method_61_code 6 (some FieldType.boolean)] { frames := 2, cells := 0, slots := 0, locals := 21 } (pC D dA [.ref h, .int a, .int b, .int c7, .int d, .int (nI n)] (MW dA h ad x) sz) (va_Qi (fun (r9 : Int32) (u9 : Unit) => r9 = bI (x.nmB a b c7 d n)) (fun (u9 : Unit) t9 => bW D (va_A (MW dA h ad x) sz) (MW dA h ad x) t9) (va_A (MW dA h ad x) sz)) 0 0 (va_A (MW dA h ad x) sz) := by
  refine mkC (y := ⟨"SeriesVaultModel", "isName", "(CCCCI)Z"⟩) (cc := prog_14_method_61_code) (maxL := 6) (av := [.ref h, .int a, .int b, .int c7, .int d, .int (nI n)]) (ws := MW dA h ad x) (sz := sz) (Qc := fun A => va_Qi (fun (r9 : Int32) (u9 : Unit) => r9 = bI (x.nmB a b c7 d n)) (fun (u9 : Unit) t9 => bW D A (MW dA h ad x) t9) A) (by decide) (Nat.le_of_ble_eq_true rfl) ?_
  intro A p e s m below meth c ls hsz hB
  obtain ⟨hx, hb, hr, hml, hown, hin, hlk, hE, hK, hP, hD, hS, hA, hN, hl⟩ := hB
  have hown : s.vm.findClass "SeriesVaultModel" = some m.cls := hown
  have hl : lv_has ls 6 [(0, .ref h), (1, .int a), (2, .int b), (3, .int c7), (4, .int d), (5, .int (nI n))] := hl
  obtain ⟨H, hH⟩ : ∃ z, z = s.heap := ⟨_, rfl⟩
  have hP : va_P D vwCl (MW dA h ad x) H := by rw [hH]; exact hP
  have hS : va_S A s.heap H [] := by rw [hH]; exact hS
  rw [← hH]
  refine lv_aload_n hx hb d_M_isName_0 rfl (lv_at hl 0 rfl) ?_
  refine gF (v := .int x.kind) hx hb hown hE hK hP 0 rfl rfl layM 44 (by decide) w469 rfl d_M_isName_1 ?_
  refine lv_iconst (v := 2) hx hb d_M_isName_4 (by decide) ?_
  refine lv_icmp_ne hx hb d_M_isName_5 (tgt := 93) rfl (fun g1 => ?_) (fun g1 => ?_)
  · have g1 := g1
    refine lv_iconst (v := 0) hx hb d_M_isName_93 (by decide) ?_
    exact rfZ hx hb hr (bI_nar false) hlk hS () (by simp [MS.nmB, bI, *]) hP hD (Nat.le_of_ble_eq_true rfl) (Nat.le_of_ble_eq_true rfl) d_M_isName_94
  · have g1 := g1
    refine lv_aload_n hx hb d_M_isName_8 rfl (lv_at hl 0 rfl) ?_
    refine gF (v := .int (nI x.too)) hx hb hown hE hK hP 0 rfl rfl layM 46 (by decide) w463 rfl d_M_isName_9 ?_
    refine lv_aload_n hx hb d_M_isName_12 rfl (lv_at hl 0 rfl) ?_
    refine gF (v := .int (nI x.frm)) hx hb hown hE hK hP 0 rfl rfl layM 45 (by decide) w464 rfl d_M_isName_13 ?_
    refine lv_isub hx hb d_M_isName_16 (tpi (y := nI (x.too - x.frm)) (pk_sub (a := x.too) (b := x.frm) (by omega)) ?_)
    refine lv_iload hx hb d_M_isName_17 (lv_at hl 5 rfl) ?_
    refine lv_icmp_ne hx hb d_M_isName_19 (tgt := 93) rfl (fun g2 => ?_) (fun g2 => ?_)
    · have g2 := mt (nI_eq (a := x.too - x.frm) (b := n) (by omega) (by omega)).mpr g2
      refine lv_iconst (v := 0) hx hb d_M_isName_93 (by decide) ?_
      exact rfZ hx hb hr (bI_nar false) hlk hS () (by simp [MS.nmB, bI, *]) hP hD (Nat.le_of_ble_eq_true rfl) (Nat.le_of_ble_eq_true rfl) d_M_isName_94
    · have g2 := (nI_eq (a := x.too - x.frm) (b := n) (by omega) (by omega)).mp g2
      refine lv_aload_n hx hb d_M_isName_22 rfl (lv_at hl 0 rfl) ?_
      refine lv_aload_n hx hb d_M_isName_23 rfl (lv_at hl 0 rfl) ?_
      refine gF (v := .int (nI x.frm)) hx hb hown hE hK hP 0 rfl rfl layM 45 (by decide) w464 rfl d_M_isName_24 ?_
      refine jfI (rnV (As := [.int (nI x.frm)]) (rest := []) hx hb hml hown hE hK (hN _ _ hS) hP hD (k_at l D dA H.size h ad x x.frm (show x.frm < 2 ^ 31 from by omega) (show x.length ≤ 65536 from by omega)) (q0 := 0) rfl rfl w466 w465 w467 w468 w328 rfl rfl ⟨⟨by decide, by decide⟩, rfl⟩ ⟨(Nat.le_of_ble_eq_true rfl), (Nat.le_of_ble_eq_true rfl)⟩ rfl hl.1 rfl (Nat.le_of_ble_eq_true rfl) d_M_isName_27 ⟨(Nat.le_of_ble_eq_true rfl), (Nat.le_of_ble_eq_true rfl)⟩) hP hD hS hA (fun r3 u4 H locs hp9 hP hD hS => ?_)
      have hP : va_P D vwCl (MW dA h ad x) H := hP
      have hD : va_D A (MW dA h ad x) := hD
      replace hp9 : x.atN x.frm = r3 := Eq.symm hp9
      subst hp9
      refine lv_iload_n hx hb d_M_isName_30 rfl (lv_at hl 1 rfl) ?_
      refine lv_icmp_ne hx hb d_M_isName_31 (tgt := 93) rfl (fun g5 => ?_) (fun g5 => ?_)
      · have g5 := g5
        refine lv_iconst (v := 0) hx hb d_M_isName_93 (by decide) ?_
        exact rfZ hx hb hr (bI_nar false) hlk hS () (by simp [MS.nmB, bI, *]) hP hD (Nat.le_of_ble_eq_true rfl) (Nat.le_of_ble_eq_true rfl) d_M_isName_94
      · have g5 := g5
        refine lv_aload_n hx hb d_M_isName_34 rfl (lv_at hl 0 rfl) ?_
        refine lv_aload_n hx hb d_M_isName_35 rfl (lv_at hl 0 rfl) ?_
        refine gF (v := .int (nI x.frm)) hx hb hown hE hK hP 0 rfl rfl layM 45 (by decide) w464 rfl d_M_isName_36 ?_
        refine lv_iconst (v := 1) hx hb d_M_isName_39 (by decide) ?_
        refine lv_iadd hx hb d_M_isName_40 (tpi (y := nI (x.frm + 1)) (nI_add (x.frm) (1)) ?_)
        refine jfI (rnV (As := [.int (nI (x.frm + 1))]) (rest := []) hx hb hml hown hE hK (hN _ _ hS) hP hD (k_at l D dA H.size h ad x (x.frm + 1) (show (x.frm + 1) < 2 ^ 31 from by omega) (show x.length ≤ 65536 from by omega)) (q0 := 0) rfl rfl w466 w465 w467 w468 w328 rfl rfl ⟨⟨by decide, by decide⟩, rfl⟩ ⟨(Nat.le_of_ble_eq_true rfl), (Nat.le_of_ble_eq_true rfl)⟩ rfl hl.1 rfl (Nat.le_of_ble_eq_true rfl) d_M_isName_41 ⟨(Nat.le_of_ble_eq_true rfl), (Nat.le_of_ble_eq_true rfl)⟩) hP hD hS hA (fun r6 u7 H locs hp9 hP hD hS => ?_)
        have hP : va_P D vwCl (MW dA h ad x) H := hP
        have hD : va_D A (MW dA h ad x) := hD
        replace hp9 : x.atN (x.frm + 1) = r6 := Eq.symm hp9
        subst hp9
        refine lv_iload_n hx hb d_M_isName_44 rfl (lv_at hl 2 rfl) ?_
        refine lv_icmp_ne hx hb d_M_isName_45 (tgt := 93) rfl (fun g8 => ?_) (fun g8 => ?_)
        · have g8 := g8
          refine lv_iconst (v := 0) hx hb d_M_isName_93 (by decide) ?_
          exact rfZ hx hb hr (bI_nar false) hlk hS () (by simp [MS.nmB, bI, *]) hP hD (Nat.le_of_ble_eq_true rfl) (Nat.le_of_ble_eq_true rfl) d_M_isName_94
        · have g8 := g8
          refine lv_iload hx hb d_M_isName_48 (lv_at hl 5 rfl) ?_
          refine lv_iconst (v := 3) hx hb d_M_isName_50 (by decide) ?_
          refine lv_icmp_lt hx hb d_M_isName_51 (tgt := 68) rfl (fun g9 => ?_) (fun g9 => ?_)
          · have g9 := (nI_ltI (a := n) (b := 3) (by omega) (by omega)).mp g9
            refine lv_iload hx hb d_M_isName_68 (lv_at hl 5 rfl) ?_
            refine lv_iconst (v := 4) hx hb d_M_isName_70 (by decide) ?_
            refine lv_icmp_lt hx hb d_M_isName_71 (tgt := 89) rfl (fun g10 => ?_) (fun g10 => ?_)
            · have g10 := (nI_ltI (a := n) (b := 4) (by omega) (by omega)).mp g10
              refine lv_iconst (v := 1) hx hb d_M_isName_89 (by decide) ?_
              refine lv_goto hx hb d_M_isName_90 (tgt := 94) rfl ?_
              exact rfZ hx hb hr (bI_nar true) hlk hS () (by simp [MS.nmB, bI, *]) hP hD (Nat.le_of_ble_eq_true rfl) (Nat.le_of_ble_eq_true rfl) d_M_isName_94
            · have g10 := mt (nI_ltI (a := n) (b := 4) (by omega) (by omega)).mpr g10
              refine lv_aload_n hx hb d_M_isName_74 rfl (lv_at hl 0 rfl) ?_
              refine lv_aload_n hx hb d_M_isName_75 rfl (lv_at hl 0 rfl) ?_
              refine gF (v := .int (nI x.frm)) hx hb hown hE hK hP 0 rfl rfl layM 45 (by decide) w464 rfl d_M_isName_76 ?_
              refine lv_iconst (v := 3) hx hb d_M_isName_79 (by decide) ?_
              refine lv_iadd hx hb d_M_isName_80 (tpi (y := nI (x.frm + 3)) (nI_add (x.frm) (3)) ?_)
              refine jfI (rnV (As := [.int (nI (x.frm + 3))]) (rest := []) hx hb hml hown hE hK (hN _ _ hS) hP hD (k_at l D dA H.size h ad x (x.frm + 3) (show (x.frm + 3) < 2 ^ 31 from by omega) (show x.length ≤ 65536 from by omega)) (q0 := 0) rfl rfl w466 w465 w467 w468 w328 rfl rfl ⟨⟨by decide, by decide⟩, rfl⟩ ⟨(Nat.le_of_ble_eq_true rfl), (Nat.le_of_ble_eq_true rfl)⟩ rfl hl.1 rfl (Nat.le_of_ble_eq_true rfl) d_M_isName_81 ⟨(Nat.le_of_ble_eq_true rfl), (Nat.le_of_ble_eq_true rfl)⟩) hP hD hS hA (fun r11 u12 H locs hp9 hP hD hS => ?_)
              have hP : va_P D vwCl (MW dA h ad x) H := hP
              have hD : va_D A (MW dA h ad x) := hD
              replace hp9 : x.atN (x.frm + 3) = r11 := Eq.symm hp9
              subst hp9
              refine lv_iload hx hb d_M_isName_84 (lv_at hl 4 rfl) ?_
              refine lv_icmp_ne hx hb d_M_isName_86 (tgt := 93) rfl (fun g13 => ?_) (fun g13 => ?_)
              · have g13 := g13
                refine lv_iconst (v := 0) hx hb d_M_isName_93 (by decide) ?_
                exact rfZ hx hb hr (bI_nar false) hlk hS () (by simp [MS.nmB, bI, *]) hP hD (Nat.le_of_ble_eq_true rfl) (Nat.le_of_ble_eq_true rfl) d_M_isName_94
              · have g13 := g13
                refine lv_iconst (v := 1) hx hb d_M_isName_89 (by decide) ?_
                refine lv_goto hx hb d_M_isName_90 (tgt := 94) rfl ?_
                exact rfZ hx hb hr (bI_nar true) hlk hS () (by simp [MS.nmB, bI, *]) hP hD (Nat.le_of_ble_eq_true rfl) (Nat.le_of_ble_eq_true rfl) d_M_isName_94
          · have g9 := mt (nI_ltI (a := n) (b := 3) (by omega) (by omega)).mpr g9
            refine lv_aload_n hx hb d_M_isName_54 rfl (lv_at hl 0 rfl) ?_
            refine lv_aload_n hx hb d_M_isName_55 rfl (lv_at hl 0 rfl) ?_
            refine gF (v := .int (nI x.frm)) hx hb hown hE hK hP 0 rfl rfl layM 45 (by decide) w464 rfl d_M_isName_56 ?_
            refine lv_iconst (v := 2) hx hb d_M_isName_59 (by decide) ?_
            refine lv_iadd hx hb d_M_isName_60 (tpi (y := nI (x.frm + 2)) (nI_add (x.frm) (2)) ?_)
            refine jfI (rnV (As := [.int (nI (x.frm + 2))]) (rest := []) hx hb hml hown hE hK (hN _ _ hS) hP hD (k_at l D dA H.size h ad x (x.frm + 2) (show (x.frm + 2) < 2 ^ 31 from by omega) (show x.length ≤ 65536 from by omega)) (q0 := 0) rfl rfl w466 w465 w467 w468 w328 rfl rfl ⟨⟨by decide, by decide⟩, rfl⟩ ⟨(Nat.le_of_ble_eq_true rfl), (Nat.le_of_ble_eq_true rfl)⟩ rfl hl.1 rfl (Nat.le_of_ble_eq_true rfl) d_M_isName_61 ⟨(Nat.le_of_ble_eq_true rfl), (Nat.le_of_ble_eq_true rfl)⟩) hP hD hS hA (fun r14 u15 H locs hp9 hP hD hS => ?_)
            have hP : va_P D vwCl (MW dA h ad x) H := hP
            have hD : va_D A (MW dA h ad x) := hD
            replace hp9 : x.atN (x.frm + 2) = r14 := Eq.symm hp9
            subst hp9
            refine lv_iload_n hx hb d_M_isName_64 rfl (lv_at hl 3 rfl) ?_
            refine lv_icmp_ne hx hb d_M_isName_65 (tgt := 93) rfl (fun g16 => ?_) (fun g16 => ?_)
            · have g16 := g16
              refine lv_iconst (v := 0) hx hb d_M_isName_93 (by decide) ?_
              exact rfZ hx hb hr (bI_nar false) hlk hS () (by simp [MS.nmB, bI, *]) hP hD (Nat.le_of_ble_eq_true rfl) (Nat.le_of_ble_eq_true rfl) d_M_isName_94
            · have g16 := g16
              refine lv_iload hx hb d_M_isName_68 (lv_at hl 5 rfl) ?_
              refine lv_iconst (v := 4) hx hb d_M_isName_70 (by decide) ?_
              refine lv_icmp_lt hx hb d_M_isName_71 (tgt := 89) rfl (fun g17 => ?_) (fun g17 => ?_)
              · have g17 := (nI_ltI (a := n) (b := 4) (by omega) (by omega)).mp g17
                refine lv_iconst (v := 1) hx hb d_M_isName_89 (by decide) ?_
                refine lv_goto hx hb d_M_isName_90 (tgt := 94) rfl ?_
                exact rfZ hx hb hr (bI_nar true) hlk hS () (by simp [MS.nmB, bI, *]) hP hD (Nat.le_of_ble_eq_true rfl) (Nat.le_of_ble_eq_true rfl) d_M_isName_94
              · have g17 := mt (nI_ltI (a := n) (b := 4) (by omega) (by omega)).mpr g17
                refine lv_aload_n hx hb d_M_isName_74 rfl (lv_at hl 0 rfl) ?_
                refine lv_aload_n hx hb d_M_isName_75 rfl (lv_at hl 0 rfl) ?_
                refine gF (v := .int (nI x.frm)) hx hb hown hE hK hP 0 rfl rfl layM 45 (by decide) w464 rfl d_M_isName_76 ?_
                refine lv_iconst (v := 3) hx hb d_M_isName_79 (by decide) ?_
                refine lv_iadd hx hb d_M_isName_80 (tpi (y := nI (x.frm + 3)) (nI_add (x.frm) (3)) ?_)
                refine jfI (rnV (As := [.int (nI (x.frm + 3))]) (rest := []) hx hb hml hown hE hK (hN _ _ hS) hP hD (k_at l D dA H.size h ad x (x.frm + 3) (show (x.frm + 3) < 2 ^ 31 from by omega) (show x.length ≤ 65536 from by omega)) (q0 := 0) rfl rfl w466 w465 w467 w468 w328 rfl rfl ⟨⟨by decide, by decide⟩, rfl⟩ ⟨(Nat.le_of_ble_eq_true rfl), (Nat.le_of_ble_eq_true rfl)⟩ rfl hl.1 rfl (Nat.le_of_ble_eq_true rfl) d_M_isName_81 ⟨(Nat.le_of_ble_eq_true rfl), (Nat.le_of_ble_eq_true rfl)⟩) hP hD hS hA (fun r18 u19 H locs hp9 hP hD hS => ?_)
                have hP : va_P D vwCl (MW dA h ad x) H := hP
                have hD : va_D A (MW dA h ad x) := hD
                replace hp9 : x.atN (x.frm + 3) = r18 := Eq.symm hp9
                subst hp9
                refine lv_iload hx hb d_M_isName_84 (lv_at hl 4 rfl) ?_
                refine lv_icmp_ne hx hb d_M_isName_86 (tgt := 93) rfl (fun g20 => ?_) (fun g20 => ?_)
                · have g20 := g20
                  refine lv_iconst (v := 0) hx hb d_M_isName_93 (by decide) ?_
                  exact rfZ hx hb hr (bI_nar false) hlk hS () (by simp [MS.nmB, bI, *]) hP hD (Nat.le_of_ble_eq_true rfl) (Nat.le_of_ble_eq_true rfl) d_M_isName_94
                · have g20 := g20
                  refine lv_iconst (v := 1) hx hb d_M_isName_89 (by decide) ?_
                  refine lv_goto hx hb d_M_isName_90 (tgt := 94) rfl ?_
                  exact rfZ hx hb hr (bI_nar true) hlk hS () (by simp [MS.nmB, bI, *]) hP hD (Nat.le_of_ble_eq_true rfl) (Nat.le_of_ble_eq_true rfl) d_M_isName_94
