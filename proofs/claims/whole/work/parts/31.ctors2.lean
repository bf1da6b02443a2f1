theorem d_Q_init_0 : decode prog_6_method_1_code 0 = .ok (.aload_n 0, 1) := by decide +kernel
theorem d_Q_init_1 : decode prog_6_method_1_code 1 = .ok (.invokespecial 3, 3) := by decide +kernel
theorem d_Q_init_4 : decode prog_6_method_1_code 4 = .ok (.aload_n 0, 1) := by decide +kernel
theorem d_Q_init_5 : decode prog_6_method_1_code 5 = .ok (.iconst 0, 1) := by decide +kernel
theorem d_Q_init_6 : decode prog_6_method_1_code 6 = .ok (.newarray .byte, 2) := by decide +kernel
theorem d_Q_init_8 : decode prog_6_method_1_code 8 = .ok (.putfield 9, 3) := by decide +kernel
theorem d_Q_init_11 : decode prog_6_method_1_code 11 = .ok (.aload_n 0, 1) := by decide +kernel
theorem d_Q_init_12 : decode prog_6_method_1_code 12 = .ok (.new 15, 3) := by decide +kernel
theorem dfL : ∀ j, j < 3 → defaultValue (tyL j) = vp_V [.null, .int 0, .int 0] j := by decide +kernel
theorem d_Q_init_15 : decode prog_6_method_1_code 15 = .ok (.dup, 1) := by decide +kernel
theorem d_Q_init_16 : decode prog_6_method_1_code 16 = .ok (.invokespecial 17, 3) := by decide +kernel
theorem d_Q_init_19 : decode prog_6_method_1_code 19 = .ok (.putfield 18, 3) := by decide +kernel
theorem d_Q_init_22 : decode prog_6_method_1_code 22 = .ok (.return_, 1) := by decide +kernel
theorem w790 : Cond.methodLink "SeriesVault$Question" 3 ⟨"java/lang/Object", "<init>", "()V"⟩ ∈ aW := aw_of (tb_1 (List.mem_of_getElem? (i := 218) rfl)) rfl
theorem w791 : Cond.classLink "SeriesVault$Question" 15 "java/util/ArrayList" ∈ aW := aw_of (tb_1 (List.mem_of_getElem? (i := 219) rfl)) rfl
theorem w792 : Cond.instantiable "java/util/ArrayList" 3 ∈ aW := aw_of (tb_1 (List.mem_of_getElem? (i := 220) rfl)) rfl
theorem w793 : Cond.methodLink "SeriesVault$Question" 17 ⟨"java/util/ArrayList", "<init>", "()V"⟩ ∈ aW := aw_of (tb_1 (List.mem_of_getElem? (i := 221) rfl)) rfl
theorem w794 : Cond.code ⟨"java/util/ArrayList", "<init>", "()V"⟩ prog_37_method_2_code 1 none ∈ aW := aw_of (tb_1 (List.mem_of_getElem? (i := 223) rfl)) rfl
theorem w795 : Cond.instanceMethod ⟨"java/util/ArrayList", "<init>", "()V"⟩ ∈ aW := aw_of (tb_1 (List.mem_of_getElem? (i := 222) rfl)) rfl
set_option maxHeartbeats 4000000 in
set_option maxRecDepth 100000 in
theorem c_Q_init (l : Launch) (D : va_G) (dA : Nat → ClassId) (sz : Nat) (e0 : Nat) (h : Nat) : Met l ⟨"SeriesVault$Question", "<init>", "()V"⟩ [Cond.code ⟨"SeriesVault$Question", "<init>", "()V"⟩ prog_6_method_1_code 1 none] { frames := 4, cells := 2, slots := 3, locals := 72 } (pCz D dA e0 [.ref h] [(h, .inr (5, [.null, .int 0, .int 0, .int 0, .int 0, .long 0, .int 0, .int 0, .null]))] sz) (va_Qv (fun (_ : Nat × Nat) => True) (fun (u9 : Nat × Nat) t9 => bW D (va_A [(h, .inr (5, [.null, .int 0, .int 0, .int 0, .int 0, .long 0, .int 0, .int 0, .null]))] sz) [(h, .inr (5, [.ref u9.1, .int 0, .int 0, .int 0, .int 0, .long 0, .int 0, .int 0, .ref u9.2])), (u9.1, .inl (dA 0, 0, .inl (fun _ => 0))), (u9.2, .inr (6, [.ref e0, .int 0, .int 0]))] t9) (va_A [(h, .inr (5, [.null, .int 0, .int 0, .int 0, .int 0, .long 0, .int 0, .int 0, .null]))] sz)) 2 3 (va_A [(h, .inr (5, [.null, .int 0, .int 0, .int 0, .int 0, .long 0, .int 0, .int 0, .null]))] sz) := by
  refine mkZ (y := ⟨"SeriesVault$Question", "<init>", "()V"⟩) (cc := prog_6_method_1_code) (maxL := 1) (av := [.ref h]) (ws := [(h, .inr (5, [.null, .int 0, .int 0, .int 0, .int 0, .long 0, .int 0, .int 0, .null]))]) (sz := sz) (Qc := fun A => va_Qv (fun (_ : Nat × Nat) => True) (fun (u9 : Nat × Nat) t9 => bW D A [(h, .inr (5, [.ref u9.1, .int 0, .int 0, .int 0, .int 0, .long 0, .int 0, .int 0, .ref u9.2])), (u9.1, .inl (dA 0, 0, .inl (fun _ => 0))), (u9.2, .inr (6, [.ref e0, .int 0, .int 0]))] t9) A) (by decide) (Nat.le_of_ble_eq_true rfl) ?_
  intro A p e s m below meth c ls hsz hZ hT hB
  obtain ⟨hx, hb, hr, hml, hown, hin, hlk, hE, hK, hP, hD, hS, hA, hN, hl⟩ := hB
  have hown : s.vm.findClass "SeriesVault$Question" = some m.cls := hown
  have hin : meth.name = "<init>" := hin
  have hl : lv_has ls 1 [(0, .ref h)] := hl
  obtain ⟨H, hH⟩ : ∃ z, z = s.heap := ⟨_, rfl⟩
  have hP : va_P D vwCl [(h, .inr (5, [.null, .int 0, .int 0, .int 0, .int 0, .long 0, .int 0, .int 0, .null]))] H := by rw [hH]; exact hP
  have hS : va_S A s.heap H [] := by rw [hH]; exact hS
  rw [← hH]
  refine lv_aload_n hx hb d_Q_init_0 rfl (lv_at hl 0 rfl) ?_
  refine oI hx hb hown hE w790 w182 w183 (hl.1.trans hml.symm) d_Q_init_1 (Nat.le_of_ble_eq_true rfl) (Nat.le_of_ble_eq_true rfl) ?_
  refine lv_aload_n hx hb d_Q_init_4 rfl (lv_at hl 0 rfl) ?_
  refine lv_iconst (v := 0) hx hb d_Q_init_5 (by decide) ?_
  refine nwA (atype := .byte) (ty := .byte) (n := 0) (N' := 0) (a0 := (0, .inl (fun _ => 0))) hx hb hE rfl w496 hK hP hD hS hA 0 rfl (fun _ => rfl) (by decide) (by decide) (Nat.le_of_ble_eq_true rfl) (Nat.le_of_ble_eq_true rfl) (Nat.le_of_ble_eq_true rfl) d_Q_init_6 (fun q1 H hP hD hS => ?_)
  have hP : va_P D vwCl [(h, .inr (5, [.null, .int 0, .int 0, .int 0, .int 0, .long 0, .int 0, .int 0, .null])), (q1, .inl (dA 0, 0, .inl (fun _ => 0)))] H := hP
  have hD : va_D A [(h, .inr (5, [.null, .int 0, .int 0, .int 0, .int 0, .long 0, .int 0, .int 0, .null])), (q1, .inl (dA 0, 0, .inl (fun _ => 0)))] := hD
  refine pF hx hb hown hE hK hP hD hS 0 rfl rfl layQ tyQ tokQ nmQ 0 (by decide) w677 rfl rfl rfl (Nat.le_of_ble_eq_true rfl) d_Q_init_8 (fun H locs hP hD hS => ?_)
  have hP : va_P D vwCl [(h, .inr (5, [.ref q1, .int 0, .int 0, .int 0, .int 0, .long 0, .int 0, .int 0, .null])), (q1, .inl (dA 0, 0, .inl (fun _ => 0)))] H := hP
  have hD : va_D A [(h, .inr (5, [.ref q1, .int 0, .int 0, .int 0, .int 0, .long 0, .int 0, .int 0, .null])), (q1, .inl (dA 0, 0, .inl (fun _ => 0)))] := hD
  refine lv_aload_n hx hb d_Q_init_11 rfl (lv_at hl 0 rfl) ?_
  refine nO hx hb hown hE hK hP hD hS hA (ci := 6) rfl layL tyL tokL w791 w792 w680 (fs := [.null, .int 0, .int 0]) dfL (Nat.le_of_ble_eq_true rfl) (Nat.le_of_ble_eq_true rfl) d_Q_init_12 (fun q2 H hP hD hS => ?_)
  have hP : va_P D vwCl [(h, .inr (5, [.ref q1, .int 0, .int 0, .int 0, .int 0, .long 0, .int 0, .int 0, .null])), (q1, .inl (dA 0, 0, .inl (fun _ => 0))), (q2, .inr (6, [.null, .int 0, .int 0]))] H := hP
  have hD : va_D A [(h, .inr (5, [.ref q1, .int 0, .int 0, .int 0, .int 0, .long 0, .int 0, .int 0, .null])), (q1, .inl (dA 0, 0, .inl (fun _ => 0))), (q2, .inr (6, [.null, .int 0, .int 0]))] := hD
  refine lv_dup hx hb d_Q_init_15 rfl ?_
  have hPc := hP.sub (ws' := [(q2, .inr (6, [.null, .int 0, .int 0]))]) [2] rfl
  have hDc := hD.sub (ws' := [(q2, .inr (6, [.null, .int 0, .int 0]))]) [2] (by decide) rfl
  refine jnV (rnIz (As := []) (rest := [.ref q2, .ref h]) hx hb hml hown hE hK hZ hT hS (hN _ _ hS) hPc hDc (c_L_init l D dA H.size e0 q2 ([.null, .int 0, .int 0]) rfl) w794 w793 w795 w680 rfl rfl rfl ⟨⟨by decide, by decide⟩, rfl⟩ ⟨(Nat.le_of_ble_eq_true rfl), (Nat.le_of_ble_eq_true rfl)⟩ rfl hl.1 rfl (Nat.le_of_ble_eq_true rfl) d_Q_init_16 ⟨(Nat.le_of_ble_eq_true rfl), (Nat.le_of_ble_eq_true rfl)⟩) hP hD hS hA [2] [0, 1] (wr := [(h, .inr (5, [.ref q1, .int 0, .int 0, .int 0, .int 0, .long 0, .int 0, .int 0, .null])), (q1, .inl (dA 0, 0, .inl (fun _ => 0)))]) rfl rfl (by decide) (by decide) (fun u9 H locs hp9 hP hD hS => ?_)
  have hP : va_P D vwCl [(h, .inr (5, [.ref q1, .int 0, .int 0, .int 0, .int 0, .long 0, .int 0, .int 0, .null])), (q1, .inl (dA 0, 0, .inl (fun _ => 0))), (q2, .inr (6, [.ref e0, .int 0, .int 0]))] H := hP
  have hD : va_D A [(h, .inr (5, [.ref q1, .int 0, .int 0, .int 0, .int 0, .long 0, .int 0, .int 0, .null])), (q1, .inl (dA 0, 0, .inl (fun _ => 0))), (q2, .inr (6, [.ref e0, .int 0, .int 0]))] := hD
  refine pFF hx hb hown hE hK hP hD hS 0 rfl rfl layQ tyQ tokQ nmQ 8 (by decide) w678 rfl hin rfl rfl rfl (Nat.le_of_ble_eq_true rfl) d_Q_init_19 (fun H locs hP hD hS => ?_)
  have hP : va_P D vwCl [(h, .inr (5, [.ref q1, .int 0, .int 0, .int 0, .int 0, .long 0, .int 0, .int 0, .ref q2])), (q1, .inl (dA 0, 0, .inl (fun _ => 0))), (q2, .inr (6, [.ref e0, .int 0, .int 0]))] H := hP
  have hD : va_D A [(h, .inr (5, [.ref q1, .int 0, .int 0, .int 0, .int 0, .long 0, .int 0, .int 0, .ref q2])), (q1, .inl (dA 0, 0, .inl (fun _ => 0))), (q2, .inr (6, [.ref e0, .int 0, .int 0]))] := hD
  exact rtV hx hb hr hlk hP hD hS (q1, q2) trivial [0, 1, 2] rfl rfl (by decide) (Nat.le_of_ble_eq_true rfl) (Nat.le_of_ble_eq_true rfl) d_Q_init_22
theorem d_A_init_0 : decode prog_2_method_1_code 0 = .ok (.aload_n 0, 1) := by decide +kernel
theorem d_A_init_1 : decode prog_2_method_1_code 1 = .ok (.invokespecial 3, 3) := by decide +kernel
theorem d_A_init_4 : decode prog_2_method_1_code 4 = .ok (.aload_n 0, 1) := by decide +kernel
theorem d_A_init_5 : decode prog_2_method_1_code 5 = .ok (.new 9, 3) := by decide +kernel
theorem d_A_init_8 : decode prog_2_method_1_code 8 = .ok (.dup, 1) := by decide +kernel
theorem d_A_init_9 : decode prog_2_method_1_code 9 = .ok (.invokespecial 11, 3) := by decide +kernel
theorem d_A_init_12 : decode prog_2_method_1_code 12 = .ok (.putfield 12, 3) := by decide +kernel
theorem d_A_init_15 : decode prog_2_method_1_code 15 = .ok (.aload_n 0, 1) := by decide +kernel
theorem d_A_init_16 : decode prog_2_method_1_code 16 = .ok (.sipush 256, 3) := by decide +kernel
theorem d_A_init_19 : decode prog_2_method_1_code 19 = .ok (.newarray .int, 2) := by decide +kernel
theorem d_A_init_21 : decode prog_2_method_1_code 21 = .ok (.putfield 18, 3) := by decide +kernel
theorem d_A_init_24 : decode prog_2_method_1_code 24 = .ok (.aload_n 0, 1) := by decide +kernel
theorem d_A_init_25 : decode prog_2_method_1_code 25 = .ok (.sipush 256, 3) := by decide +kernel
theorem d_A_init_28 : decode prog_2_method_1_code 28 = .ok (.newarray .boolean, 2) := by decide +kernel
theorem d_A_init_30 : decode prog_2_method_1_code 30 = .ok (.putfield 22, 3) := by decide +kernel
theorem d_A_init_33 : decode prog_2_method_1_code 33 = .ok (.aload_n 0, 1) := by decide +kernel
theorem d_A_init_34 : decode prog_2_method_1_code 34 = .ok (.sipush 256, 3) := by decide +kernel
theorem d_A_init_37 : decode prog_2_method_1_code 37 = .ok (.newarray .long, 2) := by decide +kernel
theorem d_A_init_39 : decode prog_2_method_1_code 39 = .ok (.putfield 26, 3) := by decide +kernel
theorem d_A_init_42 : decode prog_2_method_1_code 42 = .ok (.aload_n 0, 1) := by decide +kernel
theorem d_A_init_43 : decode prog_2_method_1_code 43 = .ok (.bipush 64, 2) := by decide +kernel
theorem d_A_init_45 : decode prog_2_method_1_code 45 = .ok (.newarray .long, 2) := by decide +kernel
theorem d_A_init_47 : decode prog_2_method_1_code 47 = .ok (.putfield 30, 3) := by decide +kernel
theorem d_A_init_50 : decode prog_2_method_1_code 50 = .ok (.aload_n 0, 1) := by decide +kernel
theorem d_A_init_51 : decode prog_2_method_1_code 51 = .ok (.bipush 64, 2) := by decide +kernel
theorem d_A_init_53 : decode prog_2_method_1_code 53 = .ok (.newarray .int, 2) := by decide +kernel
theorem d_A_init_55 : decode prog_2_method_1_code 55 = .ok (.putfield 33, 3) := by decide +kernel
theorem d_A_init_58 : decode prog_2_method_1_code 58 = .ok (.aload_n 0, 1) := by decide +kernel
theorem d_A_init_59 : decode prog_2_method_1_code 59 = .ok (.getfield 12, 3) := by decide +kernel
theorem d_A_init_62 : decode prog_2_method_1_code 62 = .ok (.new 36, 3) := by decide +kernel
theorem dfT : ∀ j, j < 7 → defaultValue (tyT j) = vp_V [.null, .int 0, .int 0, .int 0, .null, .null, .null] j := by decide +kernel
theorem d_A_init_65 : decode prog_2_method_1_code 65 = .ok (.dup, 1) := by decide +kernel
theorem d_A_init_66 : decode prog_2_method_1_code 66 = .ok (.invokespecial 38, 3) := by decide +kernel
theorem d_A_init_69 : decode prog_2_method_1_code 69 = .ok (.invokevirtual 39, 3) := by decide +kernel
theorem d_A_init_72 : decode prog_2_method_1_code 72 = .ok (.pop, 1) := by decide +kernel
theorem d_A_init_73 : decode prog_2_method_1_code 73 = .ok (.return_, 1) := by decide +kernel
theorem w796 : Cond.methodLink "SeriesVault$Answers" 3 ⟨"java/lang/Object", "<init>", "()V"⟩ ∈ aW := aw_of (tb_2 (List.mem_of_getElem? (i := 41) rfl)) rfl
theorem w797 : Cond.classLink "SeriesVault$Answers" 9 "java/util/ArrayList" ∈ aW := aw_of (tb_2 (List.mem_of_getElem? (i := 42) rfl)) rfl
theorem w798 : Cond.methodLink "SeriesVault$Answers" 11 ⟨"java/util/ArrayList", "<init>", "()V"⟩ ∈ aW := aw_of (tb_2 (List.mem_of_getElem? (i := 43) rfl)) rfl
theorem w799 : Cond.fieldLink "SeriesVault$Answers" 12 "SeriesVault$Answers" "stack" "Ljava/util/ArrayList;" ∈ aW := aw_of (tb_2 (List.mem_of_getElem? (i := 149) rfl)) rfl
theorem w800 : Cond.fieldLink "SeriesVault$Answers" 18 "SeriesVault$Answers" "rowOf" "[I" ∈ aW := aw_of (tb_2 (List.mem_of_getElem? (i := 151) rfl)) rfl
theorem w801 : Cond.fieldLink "SeriesVault$Answers" 22 "SeriesVault$Answers" "hasBefore" "[Z" ∈ aW := aw_of (tb_2 (List.mem_of_getElem? (i := 152) rfl)) rfl
theorem w802 : Cond.fieldLink "SeriesVault$Answers" 26 "SeriesVault$Answers" "before" "[J" ∈ aW := aw_of (tb_2 (List.mem_of_getElem? (i := 153) rfl)) rfl
theorem w803 : Cond.fieldLink "SeriesVault$Answers" 30 "SeriesVault$Answers" "bestTimes" "[J" ∈ aW := aw_of (tb_2 (List.mem_of_getElem? (i := 154) rfl)) rfl
theorem w804 : Cond.fieldLink "SeriesVault$Answers" 33 "SeriesVault$Answers" "bestOwners" "[I" ∈ aW := aw_of (tb_2 (List.mem_of_getElem? (i := 155) rfl)) rfl
theorem w805 : Cond.classLink "SeriesVault$Answers" 36 "SeriesVault$Table" ∈ aW := aw_of (tb_2 (List.mem_of_getElem? (i := 44) rfl)) rfl
theorem w806 : Cond.instantiable "SeriesVault$Table" 7 ∈ aW := aw_of (tb_2 (List.mem_of_getElem? (i := 45) rfl)) rfl
theorem w807 : Cond.initialized "SeriesVault$Table" ∈ aW := aw_of (tb_1 (List.mem_of_getElem? (i := 11) rfl)) rfl
theorem w808 : Cond.methodLink "SeriesVault$Answers" 38 ⟨"SeriesVault$Table", "<init>", "()V"⟩ ∈ aW := aw_of (tb_2 (List.mem_of_getElem? (i := 46) rfl)) rfl
theorem w809 : Cond.code ⟨"SeriesVault$Table", "<init>", "()V"⟩ prog_11_method_1_code 1 none ∈ aW := aw_of (tb_2 (List.mem_of_getElem? (i := 48) rfl)) rfl
theorem w810 : Cond.instanceMethod ⟨"SeriesVault$Table", "<init>", "()V"⟩ ∈ aW := aw_of (tb_2 (List.mem_of_getElem? (i := 47) rfl)) rfl
theorem w811 : Cond.methodLink "SeriesVault$Answers" 39 ⟨"java/util/ArrayList", "add", "(Ljava/lang/Object;)Z"⟩ ∈ aW := aw_of (tb_2 (List.mem_of_getElem? (i := 81) rfl)) rfl
theorem w812 : Cond.code ⟨"java/util/ArrayList", "add", "(Ljava/lang/Object;)Z"⟩ prog_37_method_25_code 2 (some FieldType.boolean) ∈ aW := aw_of (tb_2 (List.mem_of_getElem? (i := 84) rfl)) rfl
theorem w813 : Cond.instanceMethod ⟨"java/util/ArrayList", "add", "(Ljava/lang/Object;)Z"⟩ ∈ aW := aw_of (tb_2 (List.mem_of_getElem? (i := 82) rfl)) rfl
theorem w814 : Cond.selects "java/util/ArrayList" ⟨"java/util/ArrayList", "add", "(Ljava/lang/Object;)Z"⟩ ⟨"java/util/ArrayList", "add", "(Ljava/lang/Object;)Z"⟩ ∈ aW := aw_of (tb_2 (List.mem_of_getElem? (i := 83) rfl)) rfl
set_option maxHeartbeats 4000000 in
set_option maxRecDepth 100000 in
theorem c_A_init (l : Launch) (D : va_G) (dA : Nat → ClassId) (sz : Nat) (e0 : Nat) (h : Nat) : Met l ⟨"SeriesVault$Answers", "<init>", "()V"⟩ [Cond.code ⟨"SeriesVault$Answers", "<init>", "()V"⟩ prog_2_method_1_code 1 none] { frames := 5, cells := 12, slots := 1498, locals := 101 } (pCz D dA e0 [.ref h] [(h, .inr (7, [.null, .int 0, .null, .null, .null, .null, .null, .long 0, .long 0, .int 0]))] sz) (va_Qv (fun (_ : Nat × Nat × Nat × Nat × Nat × Nat) => True) (fun (u9 : Nat × Nat × Nat × Nat × Nat × Nat) t9 => bW D (va_A [(h, .inr (7, [.null, .int 0, .null, .null, .null, .null, .null, .long 0, .long 0, .int 0]))] sz) [(h, .inr (7, [.ref u9.1, .int 0, .ref u9.2.1, .ref u9.2.2.1, .ref u9.2.2.2.1, .ref u9.2.2.2.2.1, .ref u9.2.2.2.2.2, .long 0, .long 0, .int 0]))] t9) (va_A [(h, .inr (7, [.null, .int 0, .null, .null, .null, .null, .null, .long 0, .long 0, .int 0]))] sz)) 12 1498 (va_A [(h, .inr (7, [.null, .int 0, .null, .null, .null, .null, .null, .long 0, .long 0, .int 0]))] sz) := by
  refine mkZ (y := ⟨"SeriesVault$Answers", "<init>", "()V"⟩) (cc := prog_2_method_1_code) (maxL := 1) (av := [.ref h]) (ws := [(h, .inr (7, [.null, .int 0, .null, .null, .null, .null, .null, .long 0, .long 0, .int 0]))]) (sz := sz) (Qc := fun A => va_Qv (fun (_ : Nat × Nat × Nat × Nat × Nat × Nat) => True) (fun (u9 : Nat × Nat × Nat × Nat × Nat × Nat) t9 => bW D A [(h, .inr (7, [.ref u9.1, .int 0, .ref u9.2.1, .ref u9.2.2.1, .ref u9.2.2.2.1, .ref u9.2.2.2.2.1, .ref u9.2.2.2.2.2, .long 0, .long 0, .int 0]))] t9) A) (by decide) (Nat.le_of_ble_eq_true rfl) ?_
  intro A p e s m below meth c ls hsz hZ hT hB
  obtain ⟨hx, hb, hr, hml, hown, hin, hlk, hE, hK, hP, hD, hS, hA, hN, hl⟩ := hB
  have hown : s.vm.findClass "SeriesVault$Answers" = some m.cls := hown
  have hin : meth.name = "<init>" := hin
  have hl : lv_has ls 1 [(0, .ref h)] := hl
  obtain ⟨H, hH⟩ : ∃ z, z = s.heap := ⟨_, rfl⟩
  have hP : va_P D vwCl [(h, .inr (7, [.null, .int 0, .null, .null, .null, .null, .null, .long 0, .long 0, .int 0]))] H := by rw [hH]; exact hP
  have hS : va_S A s.heap H [] := by rw [hH]; exact hS
  rw [← hH]
  refine lv_aload_n hx hb d_A_init_0 rfl (lv_at hl 0 rfl) ?_
  refine oI hx hb hown hE w796 w182 w183 (hl.1.trans hml.symm) d_A_init_1 (Nat.le_of_ble_eq_true rfl) (Nat.le_of_ble_eq_true rfl) ?_
  refine lv_aload_n hx hb d_A_init_4 rfl (lv_at hl 0 rfl) ?_
  refine nO hx hb hown hE hK hP hD hS hA (ci := 6) rfl layL tyL tokL w797 w792 w680 (fs := [.null, .int 0, .int 0]) dfL (Nat.le_of_ble_eq_true rfl) (Nat.le_of_ble_eq_true rfl) d_A_init_5 (fun q1 H hP hD hS => ?_)
  have hP : va_P D vwCl [(h, .inr (7, [.null, .int 0, .null, .null, .null, .null, .null, .long 0, .long 0, .int 0])), (q1, .inr (6, [.null, .int 0, .int 0]))] H := hP
  have hD : va_D A [(h, .inr (7, [.null, .int 0, .null, .null, .null, .null, .null, .long 0, .long 0, .int 0])), (q1, .inr (6, [.null, .int 0, .int 0]))] := hD
  refine lv_dup hx hb d_A_init_8 rfl ?_
  have hPc := hP.sub (ws' := [(q1, .inr (6, [.null, .int 0, .int 0]))]) [1] rfl
  have hDc := hD.sub (ws' := [(q1, .inr (6, [.null, .int 0, .int 0]))]) [1] (by decide) rfl
  refine jnV (rnIz (As := []) (rest := [.ref q1, .ref h]) hx hb hml hown hE hK hZ hT hS (hN _ _ hS) hPc hDc (c_L_init l D dA H.size e0 q1 ([.null, .int 0, .int 0]) rfl) w794 w798 w795 w680 rfl rfl rfl ⟨⟨by decide, by decide⟩, rfl⟩ ⟨(Nat.le_of_ble_eq_true rfl), (Nat.le_of_ble_eq_true rfl)⟩ rfl hl.1 rfl (Nat.le_of_ble_eq_true rfl) d_A_init_9 ⟨(Nat.le_of_ble_eq_true rfl), (Nat.le_of_ble_eq_true rfl)⟩) hP hD hS hA [1] [0] (wr := [(h, .inr (7, [.null, .int 0, .null, .null, .null, .null, .null, .long 0, .long 0, .int 0]))]) rfl rfl (by decide) (by decide) (fun u9 H locs hp9 hP hD hS => ?_)
  have hP : va_P D vwCl [(h, .inr (7, [.null, .int 0, .null, .null, .null, .null, .null, .long 0, .long 0, .int 0])), (q1, .inr (6, [.ref e0, .int 0, .int 0]))] H := hP
  have hD : va_D A [(h, .inr (7, [.null, .int 0, .null, .null, .null, .null, .null, .long 0, .long 0, .int 0])), (q1, .inr (6, [.ref e0, .int 0, .int 0]))] := hD
  refine pFF hx hb hown hE hK hP hD hS 0 rfl rfl layA tyA tokA nmA 0 (by decide) w799 rfl hin rfl rfl rfl (Nat.le_of_ble_eq_true rfl) d_A_init_12 (fun H locs hP hD hS => ?_)
  have hP : va_P D vwCl [(h, .inr (7, [.ref q1, .int 0, .null, .null, .null, .null, .null, .long 0, .long 0, .int 0])), (q1, .inr (6, [.ref e0, .int 0, .int 0]))] H := hP
  have hD : va_D A [(h, .inr (7, [.ref q1, .int 0, .null, .null, .null, .null, .null, .long 0, .long 0, .int 0])), (q1, .inr (6, [.ref e0, .int 0, .int 0]))] := hD
  refine lv_aload_n hx hb d_A_init_15 rfl (lv_at hl 0 rfl) ?_
  refine lv_sipush (v := 256) hx hb d_A_init_16 (by decide) ?_
  refine nwA (atype := .int) (ty := .int) (n := 256) (N' := 256) (a0 := (256, .inl (fun _ => 0))) hx hb hE rfl w184 hK hP hD hS hA 1 rfl (fun _ => rfl) (by decide) (by decide) (Nat.le_of_ble_eq_true rfl) (Nat.le_of_ble_eq_true rfl) (Nat.le_of_ble_eq_true rfl) d_A_init_19 (fun q3 H hP hD hS => ?_)
  have hP : va_P D vwCl [(h, .inr (7, [.ref q1, .int 0, .null, .null, .null, .null, .null, .long 0, .long 0, .int 0])), (q1, .inr (6, [.ref e0, .int 0, .int 0])), (q3, .inl (dA 1, 256, .inl (fun _ => 0)))] H := hP
  have hD : va_D A [(h, .inr (7, [.ref q1, .int 0, .null, .null, .null, .null, .null, .long 0, .long 0, .int 0])), (q1, .inr (6, [.ref e0, .int 0, .int 0])), (q3, .inl (dA 1, 256, .inl (fun _ => 0)))] := hD
  refine pFF hx hb hown hE hK hP hD hS 0 rfl rfl layA tyA tokA nmA 2 (by decide) w800 rfl hin rfl rfl rfl (Nat.le_of_ble_eq_true rfl) d_A_init_21 (fun H locs hP hD hS => ?_)
  have hP : va_P D vwCl [(h, .inr (7, [.ref q1, .int 0, .ref q3, .null, .null, .null, .null, .long 0, .long 0, .int 0])), (q1, .inr (6, [.ref e0, .int 0, .int 0])), (q3, .inl (dA 1, 256, .inl (fun _ => 0)))] H := hP
  have hD : va_D A [(h, .inr (7, [.ref q1, .int 0, .ref q3, .null, .null, .null, .null, .long 0, .long 0, .int 0])), (q1, .inr (6, [.ref e0, .int 0, .int 0])), (q3, .inl (dA 1, 256, .inl (fun _ => 0)))] := hD
  refine lv_aload_n hx hb d_A_init_24 rfl (lv_at hl 0 rfl) ?_
  refine lv_sipush (v := 256) hx hb d_A_init_25 (by decide) ?_
  refine nwA (atype := .boolean) (ty := .boolean) (n := 256) (N' := 256) (a0 := (256, .inl (fun _ => 0))) hx hb hE rfl w525 hK hP hD hS hA 3 rfl (fun _ => rfl) (by decide) (by decide) (Nat.le_of_ble_eq_true rfl) (Nat.le_of_ble_eq_true rfl) (Nat.le_of_ble_eq_true rfl) d_A_init_28 (fun q4 H hP hD hS => ?_)
  have hP : va_P D vwCl [(h, .inr (7, [.ref q1, .int 0, .ref q3, .null, .null, .null, .null, .long 0, .long 0, .int 0])), (q1, .inr (6, [.ref e0, .int 0, .int 0])), (q3, .inl (dA 1, 256, .inl (fun _ => 0))), (q4, .inl (dA 3, 256, .inl (fun _ => 0)))] H := hP
  have hD : va_D A [(h, .inr (7, [.ref q1, .int 0, .ref q3, .null, .null, .null, .null, .long 0, .long 0, .int 0])), (q1, .inr (6, [.ref e0, .int 0, .int 0])), (q3, .inl (dA 1, 256, .inl (fun _ => 0))), (q4, .inl (dA 3, 256, .inl (fun _ => 0)))] := hD
  refine pFF hx hb hown hE hK hP hD hS 0 rfl rfl layA tyA tokA nmA 3 (by decide) w801 rfl hin rfl rfl rfl (Nat.le_of_ble_eq_true rfl) d_A_init_30 (fun H locs hP hD hS => ?_)
  have hP : va_P D vwCl [(h, .inr (7, [.ref q1, .int 0, .ref q3, .ref q4, .null, .null, .null, .long 0, .long 0, .int 0])), (q1, .inr (6, [.ref e0, .int 0, .int 0])), (q3, .inl (dA 1, 256, .inl (fun _ => 0))), (q4, .inl (dA 3, 256, .inl (fun _ => 0)))] H := hP
  have hD : va_D A [(h, .inr (7, [.ref q1, .int 0, .ref q3, .ref q4, .null, .null, .null, .long 0, .long 0, .int 0])), (q1, .inr (6, [.ref e0, .int 0, .int 0])), (q3, .inl (dA 1, 256, .inl (fun _ => 0))), (q4, .inl (dA 3, 256, .inl (fun _ => 0)))] := hD
  refine lv_aload_n hx hb d_A_init_33 rfl (lv_at hl 0 rfl) ?_
  refine lv_sipush (v := 256) hx hb d_A_init_34 (by decide) ?_
  refine nwA (atype := .long) (ty := .long) (n := 256) (N' := 256) (a0 := (256, .inr (.inl (fun _ => 0)))) hx hb hE rfl w186 hK hP hD hS hA 2 rfl (fun _ => rfl) (by decide) (by decide) (Nat.le_of_ble_eq_true rfl) (Nat.le_of_ble_eq_true rfl) (Nat.le_of_ble_eq_true rfl) d_A_init_37 (fun q5 H hP hD hS => ?_)
  have hP : va_P D vwCl [(h, .inr (7, [.ref q1, .int 0, .ref q3, .ref q4, .null, .null, .null, .long 0, .long 0, .int 0])), (q1, .inr (6, [.ref e0, .int 0, .int 0])), (q3, .inl (dA 1, 256, .inl (fun _ => 0))), (q4, .inl (dA 3, 256, .inl (fun _ => 0))), (q5, .inl (dA 2, 256, .inr (.inl (fun _ => 0))))] H := hP
  have hD : va_D A [(h, .inr (7, [.ref q1, .int 0, .ref q3, .ref q4, .null, .null, .null, .long 0, .long 0, .int 0])), (q1, .inr (6, [.ref e0, .int 0, .int 0])), (q3, .inl (dA 1, 256, .inl (fun _ => 0))), (q4, .inl (dA 3, 256, .inl (fun _ => 0))), (q5, .inl (dA 2, 256, .inr (.inl (fun _ => 0))))] := hD
  refine pFF hx hb hown hE hK hP hD hS 0 rfl rfl layA tyA tokA nmA 4 (by decide) w802 rfl hin rfl rfl rfl (Nat.le_of_ble_eq_true rfl) d_A_init_39 (fun H locs hP hD hS => ?_)
  have hP : va_P D vwCl [(h, .inr (7, [.ref q1, .int 0, .ref q3, .ref q4, .ref q5, .null, .null, .long 0, .long 0, .int 0])), (q1, .inr (6, [.ref e0, .int 0, .int 0])), (q3, .inl (dA 1, 256, .inl (fun _ => 0))), (q4, .inl (dA 3, 256, .inl (fun _ => 0))), (q5, .inl (dA 2, 256, .inr (.inl (fun _ => 0))))] H := hP
  have hD : va_D A [(h, .inr (7, [.ref q1, .int 0, .ref q3, .ref q4, .ref q5, .null, .null, .long 0, .long 0, .int 0])), (q1, .inr (6, [.ref e0, .int 0, .int 0])), (q3, .inl (dA 1, 256, .inl (fun _ => 0))), (q4, .inl (dA 3, 256, .inl (fun _ => 0))), (q5, .inl (dA 2, 256, .inr (.inl (fun _ => 0))))] := hD
  refine lv_aload_n hx hb d_A_init_42 rfl (lv_at hl 0 rfl) ?_
  refine lv_bipush (v := 64) hx hb d_A_init_43 (by decide) ?_
  refine nwA (atype := .long) (ty := .long) (n := 64) (N' := 64) (a0 := (64, .inr (.inl (fun _ => 0)))) hx hb hE rfl w186 hK hP hD hS hA 2 rfl (fun _ => rfl) (by decide) (by decide) (Nat.le_of_ble_eq_true rfl) (Nat.le_of_ble_eq_true rfl) (Nat.le_of_ble_eq_true rfl) d_A_init_45 (fun q6 H hP hD hS => ?_)
  have hP : va_P D vwCl [(h, .inr (7, [.ref q1, .int 0, .ref q3, .ref q4, .ref q5, .null, .null, .long 0, .long 0, .int 0])), (q1, .inr (6, [.ref e0, .int 0, .int 0])), (q3, .inl (dA 1, 256, .inl (fun _ => 0))), (q4, .inl (dA 3, 256, .inl (fun _ => 0))), (q5, .inl (dA 2, 256, .inr (.inl (fun _ => 0)))), (q6, .inl (dA 2, 64, .inr (.inl (fun _ => 0))))] H := hP
  have hD : va_D A [(h, .inr (7, [.ref q1, .int 0, .ref q3, .ref q4, .ref q5, .null, .null, .long 0, .long 0, .int 0])), (q1, .inr (6, [.ref e0, .int 0, .int 0])), (q3, .inl (dA 1, 256, .inl (fun _ => 0))), (q4, .inl (dA 3, 256, .inl (fun _ => 0))), (q5, .inl (dA 2, 256, .inr (.inl (fun _ => 0)))), (q6, .inl (dA 2, 64, .inr (.inl (fun _ => 0))))] := hD
  refine pF hx hb hown hE hK hP hD hS 0 rfl rfl layA tyA tokA nmA 5 (by decide) w803 rfl rfl rfl (Nat.le_of_ble_eq_true rfl) d_A_init_47 (fun H locs hP hD hS => ?_)
  have hP : va_P D vwCl [(h, .inr (7, [.ref q1, .int 0, .ref q3, .ref q4, .ref q5, .ref q6, .null, .long 0, .long 0, .int 0])), (q1, .inr (6, [.ref e0, .int 0, .int 0])), (q3, .inl (dA 1, 256, .inl (fun _ => 0))), (q4, .inl (dA 3, 256, .inl (fun _ => 0))), (q5, .inl (dA 2, 256, .inr (.inl (fun _ => 0)))), (q6, .inl (dA 2, 64, .inr (.inl (fun _ => 0))))] H := hP
  have hD : va_D A [(h, .inr (7, [.ref q1, .int 0, .ref q3, .ref q4, .ref q5, .ref q6, .null, .long 0, .long 0, .int 0])), (q1, .inr (6, [.ref e0, .int 0, .int 0])), (q3, .inl (dA 1, 256, .inl (fun _ => 0))), (q4, .inl (dA 3, 256, .inl (fun _ => 0))), (q5, .inl (dA 2, 256, .inr (.inl (fun _ => 0)))), (q6, .inl (dA 2, 64, .inr (.inl (fun _ => 0))))] := hD
  refine lv_aload_n hx hb d_A_init_50 rfl (lv_at hl 0 rfl) ?_
  refine lv_bipush (v := 64) hx hb d_A_init_51 (by decide) ?_
  refine nwA (atype := .int) (ty := .int) (n := 64) (N' := 64) (a0 := (64, .inl (fun _ => 0))) hx hb hE rfl w184 hK hP hD hS hA 1 rfl (fun _ => rfl) (by decide) (by decide) (Nat.le_of_ble_eq_true rfl) (Nat.le_of_ble_eq_true rfl) (Nat.le_of_ble_eq_true rfl) d_A_init_53 (fun q7 H hP hD hS => ?_)
  have hP : va_P D vwCl [(h, .inr (7, [.ref q1, .int 0, .ref q3, .ref q4, .ref q5, .ref q6, .null, .long 0, .long 0, .int 0])), (q1, .inr (6, [.ref e0, .int 0, .int 0])), (q3, .inl (dA 1, 256, .inl (fun _ => 0))), (q4, .inl (dA 3, 256, .inl (fun _ => 0))), (q5, .inl (dA 2, 256, .inr (.inl (fun _ => 0)))), (q6, .inl (dA 2, 64, .inr (.inl (fun _ => 0)))), (q7, .inl (dA 1, 64, .inl (fun _ => 0)))] H := hP
  have hD : va_D A [(h, .inr (7, [.ref q1, .int 0, .ref q3, .ref q4, .ref q5, .ref q6, .null, .long 0, .long 0, .int 0])), (q1, .inr (6, [.ref e0, .int 0, .int 0])), (q3, .inl (dA 1, 256, .inl (fun _ => 0))), (q4, .inl (dA 3, 256, .inl (fun _ => 0))), (q5, .inl (dA 2, 256, .inr (.inl (fun _ => 0)))), (q6, .inl (dA 2, 64, .inr (.inl (fun _ => 0)))), (q7, .inl (dA 1, 64, .inl (fun _ => 0)))] := hD
  refine pF hx hb hown hE hK hP hD hS 0 rfl rfl layA tyA tokA nmA 6 (by decide) w804 rfl rfl rfl (Nat.le_of_ble_eq_true rfl) d_A_init_55 (fun H locs hP hD hS => ?_)
  have hP : va_P D vwCl [(h, .inr (7, [.ref q1, .int 0, .ref q3, .ref q4, .ref q5, .ref q6, .ref q7, .long 0, .long 0, .int 0])), (q1, .inr (6, [.ref e0, .int 0, .int 0])), (q3, .inl (dA 1, 256, .inl (fun _ => 0))), (q4, .inl (dA 3, 256, .inl (fun _ => 0))), (q5, .inl (dA 2, 256, .inr (.inl (fun _ => 0)))), (q6, .inl (dA 2, 64, .inr (.inl (fun _ => 0)))), (q7, .inl (dA 1, 64, .inl (fun _ => 0)))] H := hP
  have hD : va_D A [(h, .inr (7, [.ref q1, .int 0, .ref q3, .ref q4, .ref q5, .ref q6, .ref q7, .long 0, .long 0, .int 0])), (q1, .inr (6, [.ref e0, .int 0, .int 0])), (q3, .inl (dA 1, 256, .inl (fun _ => 0))), (q4, .inl (dA 3, 256, .inl (fun _ => 0))), (q5, .inl (dA 2, 256, .inr (.inl (fun _ => 0)))), (q6, .inl (dA 2, 64, .inr (.inl (fun _ => 0)))), (q7, .inl (dA 1, 64, .inl (fun _ => 0)))] := hD
  refine lv_aload_n hx hb d_A_init_58 rfl (lv_at hl 0 rfl) ?_
  refine gF (v := .ref q1) hx hb hown hE hK hP 0 rfl rfl layA 0 (by decide) w799 rfl d_A_init_59 ?_
  refine nO hx hb hown hE hK hP hD hS hA (ci := 8) rfl layT tyT tokT w805 w806 w807 (fs := [.null, .int 0, .int 0, .int 0, .null, .null, .null]) dfT (Nat.le_of_ble_eq_true rfl) (Nat.le_of_ble_eq_true rfl) d_A_init_62 (fun q8 H hP hD hS => ?_)
  have hP : va_P D vwCl [(h, .inr (7, [.ref q1, .int 0, .ref q3, .ref q4, .ref q5, .ref q6, .ref q7, .long 0, .long 0, .int 0])), (q1, .inr (6, [.ref e0, .int 0, .int 0])), (q3, .inl (dA 1, 256, .inl (fun _ => 0))), (q4, .inl (dA 3, 256, .inl (fun _ => 0))), (q5, .inl (dA 2, 256, .inr (.inl (fun _ => 0)))), (q6, .inl (dA 2, 64, .inr (.inl (fun _ => 0)))), (q7, .inl (dA 1, 64, .inl (fun _ => 0))), (q8, .inr (8, [.null, .int 0, .int 0, .int 0, .null, .null, .null]))] H := hP
  have hD : va_D A [(h, .inr (7, [.ref q1, .int 0, .ref q3, .ref q4, .ref q5, .ref q6, .ref q7, .long 0, .long 0, .int 0])), (q1, .inr (6, [.ref e0, .int 0, .int 0])), (q3, .inl (dA 1, 256, .inl (fun _ => 0))), (q4, .inl (dA 3, 256, .inl (fun _ => 0))), (q5, .inl (dA 2, 256, .inr (.inl (fun _ => 0)))), (q6, .inl (dA 2, 64, .inr (.inl (fun _ => 0)))), (q7, .inl (dA 1, 64, .inl (fun _ => 0))), (q8, .inr (8, [.null, .int 0, .int 0, .int 0, .null, .null, .null]))] := hD
  refine lv_dup hx hb d_A_init_65 rfl ?_
  have hPc := hP.sub (ws' := [(q8, .inr (8, [.null, .int 0, .int 0, .int 0, .null, .null, .null]))]) [7] rfl
  have hDc := hD.sub (ws' := [(q8, .inr (8, [.null, .int 0, .int 0, .int 0, .null, .null, .null]))]) [7] (by decide) rfl
  refine jnV (rnI (As := []) (rest := [.ref q8, .ref q1]) hx hb hml hown hE hK (hN _ _ hS) hPc hDc (c_T_init l D dA H.size q8) w809 w808 w810 w807 rfl rfl rfl ⟨⟨by decide, by decide⟩, rfl⟩ ⟨(Nat.le_of_ble_eq_true rfl), (Nat.le_of_ble_eq_true rfl)⟩ rfl hl.1 rfl (Nat.le_of_ble_eq_true rfl) d_A_init_66 ⟨(Nat.le_of_ble_eq_true rfl), (Nat.le_of_ble_eq_true rfl)⟩) hP hD hS hA [7] [0, 1, 2, 3, 4, 5, 6] (wr := [(h, .inr (7, [.ref q1, .int 0, .ref q3, .ref q4, .ref q5, .ref q6, .ref q7, .long 0, .long 0, .int 0])), (q1, .inr (6, [.ref e0, .int 0, .int 0])), (q3, .inl (dA 1, 256, .inl (fun _ => 0))), (q4, .inl (dA 3, 256, .inl (fun _ => 0))), (q5, .inl (dA 2, 256, .inr (.inl (fun _ => 0)))), (q6, .inl (dA 2, 64, .inr (.inl (fun _ => 0)))), (q7, .inl (dA 1, 64, .inl (fun _ => 0)))]) rfl rfl (by decide) (by decide) (fun u9 H locs hp9 hP hD hS => ?_)
  obtain ⟨q9, q10, q11, q12⟩ := u9
  have hP : va_P D vwCl [(h, .inr (7, [.ref q1, .int 0, .ref q3, .ref q4, .ref q5, .ref q6, .ref q7, .long 0, .long 0, .int 0])), (q1, .inr (6, [.ref e0, .int 0, .int 0])), (q3, .inl (dA 1, 256, .inl (fun _ => 0))), (q4, .inl (dA 3, 256, .inl (fun _ => 0))), (q5, .inl (dA 2, 256, .inr (.inl (fun _ => 0)))), (q6, .inl (dA 2, 64, .inr (.inl (fun _ => 0)))), (q7, .inl (dA 1, 64, .inl (fun _ => 0))), (q8, .inr (8, [.ref q9, .int 0, .int 0, .int 0, .ref q10, .ref q11, .ref q12])), (q9, .inl (dA 6, 6, .inr (.inr (.inr (.inr (fun _ => none)))))), (q10, .inl (dA 5, 256, .inr (.inr (.inr (.inr (fun _ => none)))))), (q11, .inl (dA 2, 256, .inr (.inl (fun _ => 0)))), (q12, .inl (dA 2, 64, .inr (.inl (fun _ => 0))))] H := hP
  have hD : va_D A [(h, .inr (7, [.ref q1, .int 0, .ref q3, .ref q4, .ref q5, .ref q6, .ref q7, .long 0, .long 0, .int 0])), (q1, .inr (6, [.ref e0, .int 0, .int 0])), (q3, .inl (dA 1, 256, .inl (fun _ => 0))), (q4, .inl (dA 3, 256, .inl (fun _ => 0))), (q5, .inl (dA 2, 256, .inr (.inl (fun _ => 0)))), (q6, .inl (dA 2, 64, .inr (.inl (fun _ => 0)))), (q7, .inl (dA 1, 64, .inl (fun _ => 0))), (q8, .inr (8, [.ref q9, .int 0, .int 0, .int 0, .ref q10, .ref q11, .ref q12])), (q9, .inl (dA 6, 6, .inr (.inr (.inr (.inr (fun _ => none)))))), (q10, .inl (dA 5, 256, .inr (.inr (.inr (.inr (fun _ => none)))))), (q11, .inl (dA 2, 256, .inr (.inl (fun _ => 0)))), (q12, .inl (dA 2, 64, .inr (.inl (fun _ => 0))))] := hD
  have hPc := hP.sub (ws' := [(q1, .inr (6, [.ref e0, .int 0, .int 0])), (q8, .inr (8, [.ref q9, .int 0, .int 0, .int 0, .ref q10, .ref q11, .ref q12]))]) [1, 7] rfl
  have hDc := hD.sub (ws' := [(q1, .inr (6, [.ref e0, .int 0, .int 0])), (q8, .inr (8, [.ref q9, .int 0, .int 0, .int 0, .ref q10, .ref q11, .ref q12]))]) [1, 7] (by decide) rfl
  refine jnI (rnVz (As := [.ref q8]) (rest := []) hx hb hml hown hE hK hZ hT hS (hN _ _ hS) hPc hDc (c_L_add l D dA H.size e0 q1 ([.ref e0, .int 0, .int 0]) q8 ([.ref q9, .int 0, .int 0, .int 0, .ref q10, .ref q11, .ref q12]) 0 rfl rfl rfl rfl rfl) (q0 := 0) rfl rfl w812 w811 w813 w814 w680 rfl rfl ⟨⟨by decide, by decide⟩, rfl⟩ ⟨(Nat.le_of_ble_eq_true rfl), (Nat.le_of_ble_eq_true rfl)⟩ rfl hl.1 rfl (Nat.le_of_ble_eq_true rfl) d_A_init_69 ⟨(Nat.le_of_ble_eq_true rfl), (Nat.le_of_ble_eq_true rfl)⟩) hP hD hS hA [1, 7] [0, 2, 3, 4, 5, 6, 8, 9, 10, 11] (wr := [(h, .inr (7, [.ref q1, .int 0, .ref q3, .ref q4, .ref q5, .ref q6, .ref q7, .long 0, .long 0, .int 0])), (q3, .inl (dA 1, 256, .inl (fun _ => 0))), (q4, .inl (dA 3, 256, .inl (fun _ => 0))), (q5, .inl (dA 2, 256, .inr (.inl (fun _ => 0)))), (q6, .inl (dA 2, 64, .inr (.inl (fun _ => 0)))), (q7, .inl (dA 1, 64, .inl (fun _ => 0))), (q9, .inl (dA 6, 6, .inr (.inr (.inr (.inr (fun _ => none)))))), (q10, .inl (dA 5, 256, .inr (.inr (.inr (.inr (fun _ => none)))))), (q11, .inl (dA 2, 256, .inr (.inl (fun _ => 0)))), (q12, .inl (dA 2, 64, .inr (.inl (fun _ => 0))))]) rfl rfl (by decide) (by decide) (fun r15 q14 H locs hp9 hP hD hS => ?_)
  have hP : va_P D vwCl [(h, .inr (7, [.ref q1, .int 0, .ref q3, .ref q4, .ref q5, .ref q6, .ref q7, .long 0, .long 0, .int 0])), (q3, .inl (dA 1, 256, .inl (fun _ => 0))), (q4, .inl (dA 3, 256, .inl (fun _ => 0))), (q5, .inl (dA 2, 256, .inr (.inl (fun _ => 0)))), (q6, .inl (dA 2, 64, .inr (.inl (fun _ => 0)))), (q7, .inl (dA 1, 64, .inl (fun _ => 0))), (q9, .inl (dA 6, 6, .inr (.inr (.inr (.inr (fun _ => none)))))), (q10, .inl (dA 5, 256, .inr (.inr (.inr (.inr (fun _ => none)))))), (q11, .inl (dA 2, 256, .inr (.inl (fun _ => 0)))), (q12, .inl (dA 2, 64, .inr (.inl (fun _ => 0)))), (q1, .inr (6, [.ref q14, .int 1, .int (0 + 1)])), (q8, .inr (8, [.ref q9, .int 0, .int 0, .int 0, .ref q10, .ref q11, .ref q12])), (q14, .inl (dA 7, 10, .inr (.inr (.inr (.inr (va_up (fun _ => none) 0 (some q8)))))))] H := hP
  have hD : va_D A [(h, .inr (7, [.ref q1, .int 0, .ref q3, .ref q4, .ref q5, .ref q6, .ref q7, .long 0, .long 0, .int 0])), (q3, .inl (dA 1, 256, .inl (fun _ => 0))), (q4, .inl (dA 3, 256, .inl (fun _ => 0))), (q5, .inl (dA 2, 256, .inr (.inl (fun _ => 0)))), (q6, .inl (dA 2, 64, .inr (.inl (fun _ => 0)))), (q7, .inl (dA 1, 64, .inl (fun _ => 0))), (q9, .inl (dA 6, 6, .inr (.inr (.inr (.inr (fun _ => none)))))), (q10, .inl (dA 5, 256, .inr (.inr (.inr (.inr (fun _ => none)))))), (q11, .inl (dA 2, 256, .inr (.inl (fun _ => 0)))), (q12, .inl (dA 2, 64, .inr (.inl (fun _ => 0)))), (q1, .inr (6, [.ref q14, .int 1, .int (0 + 1)])), (q8, .inr (8, [.ref q9, .int 0, .int 0, .int 0, .ref q10, .ref q11, .ref q12])), (q14, .inl (dA 7, 10, .inr (.inr (.inr (.inr (va_up (fun _ => none) 0 (some q8)))))))] := hD
  have hp9 : 1 = r15 := Eq.symm hp9
  subst hp9
  refine lv_pop hx hb d_A_init_72 rfl ?_
  exact rtV hx hb hr hlk hP hD hS (q1, q3, q4, q5, q6, q7) trivial [0] rfl rfl (by decide) (Nat.le_of_ble_eq_true rfl) (Nat.le_of_ble_eq_true rfl) d_A_init_73
