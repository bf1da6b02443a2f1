def MS.isPar (x : MS) (k : Nat) : Bool := decide (x.signs k = 40)
def MS.opnB (x : MS) : Bool := anyB x.signCount x.isPar
theorem d_M_isOpen_0 : decode prog_14_method_87_code 0 = .ok (.iconst 0, 1) := by decide +kernel
theorem d_M_isOpen_1 : decode prog_14_method_87_code 1 = .ok (.istore_n 1, 1) := by decide +kernel
theorem d_M_isOpen_2 : decode prog_14_method_87_code 2 = .ok (.iconst 0, 1) := by decide +kernel
theorem d_M_isOpen_3 : decode prog_14_method_87_code 3 = .ok (.istore_n 2, 1) := by decide +kernel
theorem d_M_isOpen_4 : decode prog_14_method_87_code 4 = .ok (.iload_n 2, 1) := by decide +kernel
theorem d_M_isOpen_5 : decode prog_14_method_87_code 5 = .ok (.aload_n 0, 1) := by decide +kernel
theorem d_M_isOpen_6 : decode prog_14_method_87_code 6 = .ok (.getfield 439, 3) := by decide +kernel
theorem d_M_isOpen_9 : decode prog_14_method_87_code 9 = .ok (.if_icmp .ge 30, 3) := by decide +kernel
theorem d_M_isOpen_39 : decode prog_14_method_87_code 39 = .ok (.iload_n 1, 1) := by decide +kernel
theorem d_M_isOpen_40 : decode prog_14_method_87_code 40 = .ok (.ireturn, 1) := by decide +kernel
theorem d_M_isOpen_12 : decode prog_14_method_87_code 12 = .ok (.iload_n 1, 1) := by decide +kernel
theorem d_M_isOpen_13 : decode prog_14_method_87_code 13 = .ok (.ifCond .ne 14, 3) := by decide +kernel
theorem d_M_isOpen_27 : decode prog_14_method_87_code 27 = .ok (.iconst 1, 1) := by decide +kernel
theorem d_M_isOpen_28 : decode prog_14_method_87_code 28 = .ok (.goto 4, 3) := by decide +kernel
theorem d_M_isOpen_32 : decode prog_14_method_87_code 32 = .ok (.istore_n 1, 1) := by decide +kernel
theorem d_M_isOpen_33 : decode prog_14_method_87_code 33 = .ok (.iinc 2 1, 3) := by decide +kernel
theorem d_M_isOpen_36 : decode prog_14_method_87_code 36 = .ok (.goto (-32), 3) := by decide +kernel
theorem d_M_isOpen_16 : decode prog_14_method_87_code 16 = .ok (.aload_n 0, 1) := by decide +kernel
theorem d_M_isOpen_17 : decode prog_14_method_87_code 17 = .ok (.getfield 126, 3) := by decide +kernel
theorem d_M_isOpen_20 : decode prog_14_method_87_code 20 = .ok (.iload_n 2, 1) := by decide +kernel
theorem d_M_isOpen_21 : decode prog_14_method_87_code 21 = .ok (.iaload, 1) := by decide +kernel
theorem d_M_isOpen_22 : decode prog_14_method_87_code 22 = .ok (.bipush 40, 2) := by decide +kernel
theorem d_M_isOpen_24 : decode prog_14_method_87_code 24 = .ok (.if_icmp .ne 7, 3) := by decide +kernel
theorem d_M_isOpen_31 : decode prog_14_method_87_code 31 = .ok (.iconst 0, 1) := by decide +kernel
set_option maxHeartbeats 4000000 in
set_option maxRecDepth 100000 in
theorem k_isOpen (l : Launch) (D : va_G) (dA : Nat → ClassId) (sz : Nat) (h : Nat) (ad : Nat → Nat) (x : MS) (h1 : x.signCount ≤ 32) (h2 : ∀ k : Nat, k < x.signCount → x.signs k < 65536) : Met l ⟨"SeriesVaultModel", "isOpen", "()Z"⟩ [Cond.code ⟨"SeriesVaultModel", "isOpen", "()Z"⟩ prog_14_method_87_code 3 (some FieldType.boolean)] { frames := 1, cells := 0, slots := 0, locals := 0 } (pC D dA [.ref h] (MW dA h ad x) sz) (va_Qi (fun (r9 : Int32) (u9 : Unit) => r9 = bI x.opnB) (fun (u9 : Unit) t9 => bW D (va_A (MW dA h ad x) sz) (MW dA h ad x) t9) (va_A (MW dA h ad x) sz)) 0 0 (va_A (MW dA h ad x) sz) := by
  refine mkC (y := ⟨"SeriesVaultModel", "isOpen", "()Z"⟩) (cc := prog_14_method_87_code) (maxL := 3) (av := [.ref h]) (ws := MW dA h ad x) (sz := sz) (Qc := fun A => va_Qi (fun (r9 : Int32) (u9 : Unit) => r9 = bI x.opnB) (fun (u9 : Unit) t9 => bW D A (MW dA h ad x) t9) A) (by decide) (Nat.le_of_ble_eq_true rfl) ?_
  intro A p e s m below meth c ls hsz hB
  obtain ⟨hx, hb, hr, hml, hown, hin, hlk, hE, hK, hP, hD, hS, hA, hN, hl⟩ := hB
  have hown : s.vm.findClass "SeriesVaultModel" = some m.cls := hown
  have hl : lv_has ls 3 [(0, .ref h)] := hl
  obtain ⟨H, hH⟩ : ∃ z, z = s.heap := ⟨_, rfl⟩
  have hP : va_P D vwCl (MW dA h ad x) H := by rw [hH]; exact hP
  have hS : va_S A s.heap H [] := by rw [hH]; exact hS
  rw [← hH]
  refine lv_iconst (v := 0) hx hb d_M_isOpen_0 (by decide) ?_
  refine lv_istore_n hx hb d_M_isOpen_1 rfl hl (by decide) rfl (fun ls hl => ?_)
  have hl : lv_has ls 3 [(1, .int 0), (0, .ref h)] := hl
  refine lv_iconst (v := 0) hx hb d_M_isOpen_2 (by decide) ?_
  refine lv_istore_n hx hb d_M_isOpen_3 rfl hl (by decide) rfl (fun ls hl => ?_)
  have hl : lv_has ls 3 [(2, .int 0), (1, .int 0), (0, .ref h)] := hl
  have L4 : ∀ (k9 : Nat) (k : Nat) (v : Bool) (i1 : k ≤ x.signCount) (i2 : anyB k x.isPar = v) (hk9 : x.signCount - k = k9), ∀ (H : Heap) (locs : List Loc) (ls : Array Slot) (hP : va_P D vwCl (MW dA h ad x) H) (hD : va_D A (MW dA h ad x)) (hS : va_S A s.heap H locs) (hl : lv_has ls 3 [(2, .int (nI k)), (1, .int (bI v)), (0, .ref h)]), W p l e ({ frames := 1, cells := 0, slots := 0, locals := 0 } : Room) s m ([.ref h] : List Value).toArray below meth c H locs 0 0 (MQ below (va_Qi (fun (r9 : Int32) (u9 : Unit) => r9 = bI x.opnB) (fun (u9 : Unit) t9 => bW D A (MW dA h ad x) t9) A) ([.ref h] : List Value).toArray s 0 0 A) (F0 m 4 ls []) := by
    intro k9
    induction k9 using Nat.strongRecOn with
    | ind k9 ih4 =>
      intro k v i1 i2 hk9 H locs ls hP hD hS hl
      refine lv_iload_n hx hb d_M_isOpen_4 rfl (lv_at hl 0 rfl) ?_
      refine lv_aload_n hx hb d_M_isOpen_5 rfl (lv_at hl 2 rfl) ?_
      refine gF (v := .int (nI x.signCount)) hx hb hown hE hK hP 0 rfl rfl layM 68 (by decide) w477 rfl d_M_isOpen_6 ?_
      refine lv_icmp_ge hx hb d_M_isOpen_9 (tgt := 39) rfl (fun g1 => ?_) (fun g1 => ?_)
      · have g1 := (nI_leI (a := x.signCount) (b := k) (by omega) (by omega)).mp g1
        refine lv_iload_n hx hb d_M_isOpen_39 rfl (lv_at hl 1 rfl) ?_
        exact rfZ hx hb hr (bI_nar v) hlk hS () (by rw [← i2, show k = x.signCount by omega]; rfl) hP hD (Nat.le_of_ble_eq_true rfl) (Nat.le_of_ble_eq_true rfl) d_M_isOpen_40
      · have g1 := mt (nI_leI (a := x.signCount) (b := k) (by omega) (by omega)).mpr g1
        refine lv_iload_n hx hb d_M_isOpen_12 rfl (lv_at hl 1 rfl) ?_
        refine lv_if_ne hx hb d_M_isOpen_13 (tgt := 27) rfl (fun g2 => ?_) (fun g2 => ?_)
        · have g2 := bI_n0 g2
          refine lv_iconst (v := 1) hx hb d_M_isOpen_27 (by decide) ?_
          refine lv_goto hx hb d_M_isOpen_28 (tgt := 32) rfl ?_
          refine lv_istore_n hx hb d_M_isOpen_32 rfl hl (by decide) rfl (fun ls hl => ?_)
          have hl : lv_has ls 3 [(1, .int 1), (2, .int (nI k)), (0, .ref h)] := hl
          refine lv_iinc (k := 1) (v := nI (k + 1)) hx hb d_M_isOpen_33 hl rfl (iincN (k) 1 1 (by decide)) (by decide) rfl (fun ls hl => ?_)
          have hl : lv_has ls 3 [(2, .int (nI (k + 1))), (1, .int 1), (0, .ref h)] := hl
          refine lv_goto hx hb d_M_isOpen_36 (tgt := 4) rfl ?_
          exact ih4 _ (by omega) (k + 1) true (by omega) (by rw [anyB_s, i2, g2]; rfl) rfl H _ ls hP hD hS (lv_sub hl [0, 1, 2] rfl)
        · have g2 := bI_0 g2
          refine lv_aload_n hx hb d_M_isOpen_16 rfl (lv_at hl 2 rfl) ?_
          refine gF (v := .ref (ad 66)) hx hb hown hE hK hP 0 rfl rfl layM 66 (by decide) w532 rfl d_M_isOpen_17 ?_
          refine lv_iload_n hx hb d_M_isOpen_20 rfl (lv_at hl 0 rfl) ?_
          refine nild (f := (fun z9 => nI (x.signs z9))) hx hb hK hP 33 1 rfl rfl (k) (by omega) (by decide) d_M_isOpen_21 ?_
          refine lv_bipush (v := 40) hx hb d_M_isOpen_22 (by decide) ?_
          have b1 := h2 k (by omega)
          refine lv_icmp_ne hx hb d_M_isOpen_24 (tgt := 31) rfl (fun g3 => ?_) (fun g3 => ?_)
          · have g3 := mt (nI_eq (a := x.signs k) (b := 40) (by omega) (by omega)).mpr g3
            refine lv_iconst (v := 0) hx hb d_M_isOpen_31 (by decide) ?_
            refine lv_istore_n hx hb d_M_isOpen_32 rfl hl (by decide) rfl (fun ls hl => ?_)
            have hl : lv_has ls 3 [(1, .int 0), (2, .int (nI k)), (0, .ref h)] := hl
            refine lv_iinc (k := 1) (v := nI (k + 1)) hx hb d_M_isOpen_33 hl rfl (iincN (k) 1 1 (by decide)) (by decide) rfl (fun ls hl => ?_)
            have hl : lv_has ls 3 [(2, .int (nI (k + 1))), (1, .int 0), (0, .ref h)] := hl
            refine lv_goto hx hb d_M_isOpen_36 (tgt := 4) rfl ?_
            exact ih4 _ (by omega) (k + 1) false (by omega) (by rw [anyB_s, i2, g2, Bool.false_or]; exact decide_eq_false g3) rfl H _ ls hP hD hS (lv_sub hl [0, 1, 2] rfl)
          · have g3 := (nI_eq (a := x.signs k) (b := 40) (by omega) (by omega)).mp g3
            refine lv_iconst (v := 1) hx hb d_M_isOpen_27 (by decide) ?_
            refine lv_goto hx hb d_M_isOpen_28 (tgt := 32) rfl ?_
            refine lv_istore_n hx hb d_M_isOpen_32 rfl hl (by decide) rfl (fun ls hl => ?_)
            have hl : lv_has ls 3 [(1, .int 1), (2, .int (nI k)), (0, .ref h)] := hl
            refine lv_iinc (k := 1) (v := nI (k + 1)) hx hb d_M_isOpen_33 hl rfl (iincN (k) 1 1 (by decide)) (by decide) rfl (fun ls hl => ?_)
            have hl : lv_has ls 3 [(2, .int (nI (k + 1))), (1, .int 1), (0, .ref h)] := hl
            refine lv_goto hx hb d_M_isOpen_36 (tgt := 4) rfl ?_
            exact ih4 _ (by omega) (k + 1) true (by omega) (by rw [anyB_s, i2, g2, Bool.false_or]; exact decide_eq_true g3) rfl H _ ls hP hD hS (lv_sub hl [0, 1, 2] rfl)
  exact L4 _ 0 false (Nat.zero_le _) rfl rfl H _ ls hP hD hS (lv_sub hl [0, 1, 2] rfl)
