theorem d_AbstractCollection_init_0 : decode prog_35_method_1_code 0 = .ok (.aload_n 0, 1) := by decide +kernel
theorem d_AbstractCollection_init_1 : decode prog_35_method_1_code 1 = .ok (.invokespecial 1, 3) := by decide +kernel
theorem d_AbstractCollection_init_4 : decode prog_35_method_1_code 4 = .ok (.return_, 1) := by decide +kernel
theorem w752 : Cond.methodLink "java/util/AbstractCollection" 1 ⟨"java/lang/Object", "<init>", "()V"⟩ ∈ aW := aw_of (tb_1 (List.mem_of_getElem? (i := 230) rfl)) rfl
set_option maxHeartbeats 4000000 in
set_option maxRecDepth 100000 in
theorem c_AC_init (l : Launch) (D : va_G) (dA : Nat → ClassId) (sz : Nat) (a : Nat) (fs : List Value) (hl_fs : fs.length = 3) : Met l ⟨"java/util/AbstractCollection", "<init>", "()V"⟩ [Cond.code ⟨"java/util/AbstractCollection", "<init>", "()V"⟩ prog_35_method_1_code 1 none] { frames := 1, cells := 0, slots := 0, locals := 12 } (pC D dA [.ref a] [(a, .inr (6, fs))] sz) (va_Qv (fun (_ : Unit) => True) (fun (u9 : Unit) t9 => bW D (va_A [(a, .inr (6, fs))] sz) [(a, .inr (6, fs))] t9) (va_A [(a, .inr (6, fs))] sz)) 0 0 (va_A [(a, .inr (6, fs))] sz) := by
  refine mkC (y := ⟨"java/util/AbstractCollection", "<init>", "()V"⟩) (cc := prog_35_method_1_code) (maxL := 1) (av := [.ref a]) (ws := [(a, .inr (6, fs))]) (sz := sz) (Qc := fun A => va_Qv (fun (_ : Unit) => True) (fun (u9 : Unit) t9 => bW D A [(a, .inr (6, fs))] t9) A) (by decide) (Nat.le_of_ble_eq_true rfl) ?_
  intro A p e s m below meth c ls hsz hB
  obtain ⟨hx, hb, hr, hml, hown, hin, hlk, hE, hK, hP, hD, hS, hA, hN, hl⟩ := hB
  have hown : s.vm.findClass "java/util/AbstractCollection" = some m.cls := hown
  have hin : meth.name = "<init>" := hin
  have hl : lv_has ls 1 [(0, .ref a)] := hl
  obtain ⟨H, hH⟩ : ∃ z, z = s.heap := ⟨_, rfl⟩
  have hP : va_P D vwCl [(a, .inr (6, fs))] H := by rw [hH]; exact hP
  have hS : va_S A s.heap H [] := by rw [hH]; exact hS
  rw [← hH]
  refine lv_aload_n hx hb d_AbstractCollection_init_0 rfl (lv_at hl 0 rfl) ?_
  refine oI hx hb hown hE w752 w182 w183 (hl.1.trans hml.symm) d_AbstractCollection_init_1 (Nat.le_of_ble_eq_true rfl) (Nat.le_of_ble_eq_true rfl) ?_
  exact rtV hx hb hr hlk hP hD hS () trivial [0] rfl rfl (by decide) (Nat.le_of_ble_eq_true rfl) (Nat.le_of_ble_eq_true rfl) d_AbstractCollection_init_4
theorem d_AbstractList_init_0 : decode prog_36_method_1_code 0 = .ok (.aload_n 0, 1) := by decide +kernel
theorem d_AbstractList_init_1 : decode prog_36_method_1_code 1 = .ok (.invokespecial 1, 3) := by decide +kernel
theorem d_AbstractList_init_4 : decode prog_36_method_1_code 4 = .ok (.aload_n 0, 1) := by decide +kernel
theorem d_AbstractList_init_5 : decode prog_36_method_1_code 5 = .ok (.iconst 0, 1) := by decide +kernel
theorem d_AbstractList_init_6 : decode prog_36_method_1_code 6 = .ok (.putfield 7, 3) := by decide +kernel
theorem d_AbstractList_init_9 : decode prog_36_method_1_code 9 = .ok (.return_, 1) := by decide +kernel
theorem w753 : Cond.methodLink "java/util/AbstractList" 1 ⟨"java/util/AbstractCollection", "<init>", "()V"⟩ ∈ aW := aw_of (tb_1 (List.mem_of_getElem? (i := 227) rfl)) rfl
theorem w754 : Cond.initialized "java/util/AbstractCollection" ∈ aW := aw_of (tb_1 (List.mem_of_getElem? (i := 7) rfl)) rfl
theorem w755 : Cond.code ⟨"java/util/AbstractCollection", "<init>", "()V"⟩ prog_35_method_1_code 1 none ∈ aW := aw_of (tb_1 (List.mem_of_getElem? (i := 229) rfl)) rfl
theorem w756 : Cond.instanceMethod ⟨"java/util/AbstractCollection", "<init>", "()V"⟩ ∈ aW := aw_of (tb_1 (List.mem_of_getElem? (i := 228) rfl)) rfl
theorem w757 : Cond.fieldLink "java/util/AbstractList" 7 "java/util/AbstractList" "modCount" "I" ∈ aW := aw_of (tb_1 (List.mem_of_getElem? (i := 235) rfl)) rfl
set_option maxHeartbeats 4000000 in
set_option maxRecDepth 100000 in
theorem c_ALI_init (l : Launch) (D : va_G) (dA : Nat → ClassId) (sz : Nat) (a : Nat) (fs : List Value) (hl_fs : fs.length = 3) : Met l ⟨"java/util/AbstractList", "<init>", "()V"⟩ [Cond.code ⟨"java/util/AbstractList", "<init>", "()V"⟩ prog_36_method_1_code 1 none] { frames := 2, cells := 0, slots := 0, locals := 32 } (pC D dA [.ref a] [(a, .inr (6, fs))] sz) (va_Qv (fun (_ : Unit) => True) (fun (u9 : Unit) t9 => bW D (va_A [(a, .inr (6, fs))] sz) [(a, .inr (6, (fs.set 2 (.int 0))))] t9) (va_A [(a, .inr (6, fs))] sz)) 0 0 (va_A [(a, .inr (6, fs))] sz) := by
  refine mkC (y := ⟨"java/util/AbstractList", "<init>", "()V"⟩) (cc := prog_36_method_1_code) (maxL := 1) (av := [.ref a]) (ws := [(a, .inr (6, fs))]) (sz := sz) (Qc := fun A => va_Qv (fun (_ : Unit) => True) (fun (u9 : Unit) t9 => bW D A [(a, .inr (6, (fs.set 2 (.int 0))))] t9) A) (by decide) (Nat.le_of_ble_eq_true rfl) ?_
  intro A p e s m below meth c ls hsz hB
  obtain ⟨hx, hb, hr, hml, hown, hin, hlk, hE, hK, hP, hD, hS, hA, hN, hl⟩ := hB
  have hown : s.vm.findClass "java/util/AbstractList" = some m.cls := hown
  have hin : meth.name = "<init>" := hin
  have hl : lv_has ls 1 [(0, .ref a)] := hl
  obtain ⟨H, hH⟩ : ∃ z, z = s.heap := ⟨_, rfl⟩
  have hP : va_P D vwCl [(a, .inr (6, fs))] H := by rw [hH]; exact hP
  have hS : va_S A s.heap H [] := by rw [hH]; exact hS
  rw [← hH]
  refine lv_aload_n hx hb d_AbstractList_init_0 rfl (lv_at hl 0 rfl) ?_
  have hPc := hP.sub (ws' := [(a, .inr (6, fs))]) [0] rfl
  have hDc := hD.sub (ws' := [(a, .inr (6, fs))]) [0] (by decide) rfl
  refine jnV (rnI (As := []) (rest := []) hx hb hml hown hE hK (hN _ _ hS) hPc hDc (c_AC_init l D dA H.size a fs hl_fs) w755 w753 w756 w754 rfl rfl rfl ⟨⟨by decide, by decide⟩, rfl⟩ ⟨(Nat.le_of_ble_eq_true rfl), (Nat.le_of_ble_eq_true rfl)⟩ rfl hl.1 rfl (Nat.le_of_ble_eq_true rfl) d_AbstractList_init_1 ⟨(Nat.le_of_ble_eq_true rfl), (Nat.le_of_ble_eq_true rfl)⟩) hP hD hS hA [0] [] (wr := []) rfl rfl (by decide) (by decide) (fun u9 H locs hp9 hP hD hS => ?_)
  have hP : va_P D vwCl [(a, .inr (6, fs))] H := hP
  have hD : va_D A [(a, .inr (6, fs))] := hD
  refine lv_aload_n hx hb d_AbstractList_init_4 rfl (lv_at hl 0 rfl) ?_
  refine lv_iconst (v := 0) hx hb d_AbstractList_init_5 (by decide) ?_
  refine pF hx hb hown hE hK hP hD hS 0 rfl rfl layL tyL tokL nmL 2 (by decide) w757 rfl rfl rfl (by simp [hl_fs]) d_AbstractList_init_6 (fun H locs hP hD hS => ?_)
  have hP : va_P D vwCl [(a, .inr (6, (fs.set 2 (.int 0))))] H := hP
  have hD : va_D A [(a, .inr (6, (fs.set 2 (.int 0))))] := hD
  exact rtV hx hb hr hlk hP hD hS () trivial [0] rfl rfl (by decide) (Nat.le_of_ble_eq_true rfl) (Nat.le_of_ble_eq_true rfl) d_AbstractList_init_9
theorem d_L_init_0 : decode prog_37_method_2_code 0 = .ok (.aload_n 0, 1) := by decide +kernel
theorem d_L_init_1 : decode prog_37_method_2_code 1 = .ok (.invokespecial 1, 3) := by decide +kernel
theorem d_L_init_4 : decode prog_37_method_2_code 4 = .ok (.aload_n 0, 1) := by decide +kernel
theorem d_L_init_5 : decode prog_37_method_2_code 5 = .ok (.getstatic 39, 3) := by decide +kernel
theorem d_L_init_8 : decode prog_37_method_2_code 8 = .ok (.putfield 9, 3) := by decide +kernel
theorem d_L_init_11 : decode prog_37_method_2_code 11 = .ok (.return_, 1) := by decide +kernel
theorem w758 : Cond.methodLink "java/util/ArrayList" 1 ⟨"java/util/AbstractList", "<init>", "()V"⟩ ∈ aW := aw_of (tb_1 (List.mem_of_getElem? (i := 224) rfl)) rfl
theorem w759 : Cond.initialized "java/util/AbstractList" ∈ aW := aw_of (tb_1 (List.mem_of_getElem? (i := 8) rfl)) rfl
theorem w760 : Cond.code ⟨"java/util/AbstractList", "<init>", "()V"⟩ prog_36_method_1_code 1 none ∈ aW := aw_of (tb_1 (List.mem_of_getElem? (i := 226) rfl)) rfl
theorem w761 : Cond.instanceMethod ⟨"java/util/AbstractList", "<init>", "()V"⟩ ∈ aW := aw_of (tb_1 (List.mem_of_getElem? (i := 225) rfl)) rfl
theorem w762 : Cond.fieldLink "java/util/ArrayList" 39 "java/util/ArrayList" "DEFAULTCAPACITY_EMPTY_ELEMENTDATA" "[Ljava/lang/Object;" ∈ aW := aw_of (tb_1 (List.mem_of_getElem? (i := 231) rfl)) rfl
set_option maxHeartbeats 4000000 in
set_option maxRecDepth 100000 in
theorem c_L_init (l : Launch) (D : va_G) (dA : Nat → ClassId) (sz : Nat) (e0 : Nat) (a : Nat) (fs : List Value) (hl_fs : fs.length = 3) : Met l ⟨"java/util/ArrayList", "<init>", "()V"⟩ [Cond.code ⟨"java/util/ArrayList", "<init>", "()V"⟩ prog_37_method_2_code 1 none] { frames := 3, cells := 0, slots := 0, locals := 52 } (pCz D dA e0 [.ref a] [(a, .inr (6, fs))] sz) (va_Qv (fun (_ : Unit) => True) (fun (u9 : Unit) t9 => bW D (va_A [(a, .inr (6, fs))] sz) [(a, .inr (6, ((fs.set 2 (.int 0)).set 0 (.ref e0))))] t9) (va_A [(a, .inr (6, fs))] sz)) 0 0 (va_A [(a, .inr (6, fs))] sz) := by
  refine mkZ (y := ⟨"java/util/ArrayList", "<init>", "()V"⟩) (cc := prog_37_method_2_code) (maxL := 1) (av := [.ref a]) (ws := [(a, .inr (6, fs))]) (sz := sz) (Qc := fun A => va_Qv (fun (_ : Unit) => True) (fun (u9 : Unit) t9 => bW D A [(a, .inr (6, ((fs.set 2 (.int 0)).set 0 (.ref e0))))] t9) A) (by decide) (Nat.le_of_ble_eq_true rfl) ?_
  intro A p e s m below meth c ls hsz hZ hT hB
  obtain ⟨hx, hb, hr, hml, hown, hin, hlk, hE, hK, hP, hD, hS, hA, hN, hl⟩ := hB
  have hown : s.vm.findClass "java/util/ArrayList" = some m.cls := hown
  have hin : meth.name = "<init>" := hin
  have hl : lv_has ls 1 [(0, .ref a)] := hl
  obtain ⟨H, hH⟩ : ∃ z, z = s.heap := ⟨_, rfl⟩
  have hP : va_P D vwCl [(a, .inr (6, fs))] H := by rw [hH]; exact hP
  have hS : va_S A s.heap H [] := by rw [hH]; exact hS
  rw [← hH]
  refine lv_aload_n hx hb d_L_init_0 rfl (lv_at hl 0 rfl) ?_
  have hPc := hP.sub (ws' := [(a, .inr (6, fs))]) [0] rfl
  have hDc := hD.sub (ws' := [(a, .inr (6, fs))]) [0] (by decide) rfl
  refine jnV (rnI (As := []) (rest := []) hx hb hml hown hE hK (hN _ _ hS) hPc hDc (c_ALI_init l D dA H.size a fs hl_fs) w760 w758 w761 w759 rfl rfl rfl ⟨⟨by decide, by decide⟩, rfl⟩ ⟨(Nat.le_of_ble_eq_true rfl), (Nat.le_of_ble_eq_true rfl)⟩ rfl hl.1 rfl (Nat.le_of_ble_eq_true rfl) d_L_init_1 ⟨(Nat.le_of_ble_eq_true rfl), (Nat.le_of_ble_eq_true rfl)⟩) hP hD hS hA [0] [] (wr := []) rfl rfl (by decide) (by decide) (fun u9 H locs hp9 hP hD hS => ?_)
  have hP : va_P D vwCl [(a, .inr (6, (fs.set 2 (.int 0))))] H := hP
  have hD : va_D A [(a, .inr (6, (fs.set 2 (.int 0))))] := hD
  refine lv_aload_n hx hb d_L_init_4 rfl (lv_at hl 0 rfl) ?_
  refine va_gets hx hb hZ hS hown (hE.t w762 rfl) (fun _ h => h) d_L_init_5 ?_
  refine pF hx hb hown hE hK hP hD hS 0 rfl rfl layL tyL tokL nmL 0 (by decide) w656 rfl rfl rfl (by simp [hl_fs]) d_L_init_8 (fun H locs hP hD hS => ?_)
  have hP : va_P D vwCl [(a, .inr (6, ((fs.set 2 (.int 0)).set 0 (.ref e0))))] H := hP
  have hD : va_D A [(a, .inr (6, ((fs.set 2 (.int 0)).set 0 (.ref e0))))] := hD
  exact rtV hx hb hr hlk hP hD hS () trivial [0] rfl rfl (by decide) (Nat.le_of_ble_eq_true rfl) (Nat.le_of_ble_eq_true rfl) d_L_init_11
theorem d_L_grow_6cd_0 : decode prog_37_method_6_code 0 = .ok (.aload_n 0, 1) := by decide +kernel
theorem d_L_grow_6cd_1 : decode prog_37_method_6_code 1 = .ok (.getfield 9, 3) := by decide +kernel
theorem d_L_grow_6cd_4 : decode prog_37_method_6_code 4 = .ok (.arraylength, 1) := by decide +kernel
theorem d_L_grow_6cd_5 : decode prog_37_method_6_code 5 = .ok (.istore_n 2, 1) := by decide +kernel
theorem d_L_grow_6cd_6 : decode prog_37_method_6_code 6 = .ok (.iload_n 2, 1) := by decide +kernel
theorem d_L_grow_6cd_7 : decode prog_37_method_6_code 7 = .ok (.ifCond .gt 13, 3) := by decide +kernel
theorem d_L_grow_6cd_10 : decode prog_37_method_6_code 10 = .ok (.aload_n 0, 1) := by decide +kernel
theorem d_L_grow_6cd_11 : decode prog_37_method_6_code 11 = .ok (.getfield 9, 3) := by decide +kernel
theorem d_L_grow_6cd_14 : decode prog_37_method_6_code 14 = .ok (.getstatic 39, 3) := by decide +kernel
theorem d_L_grow_6cd_17 : decode prog_37_method_6_code 17 = .ok (.if_acmp .eq 28, 3) := by decide +kernel
theorem d_L_grow_6cd_45 : decode prog_37_method_6_code 45 = .ok (.aload_n 0, 1) := by decide +kernel
theorem d_L_grow_6cd_46 : decode prog_37_method_6_code 46 = .ok (.bipush 10, 2) := by decide +kernel
theorem d_L_grow_6cd_48 : decode prog_37_method_6_code 48 = .ok (.iload_n 1, 1) := by decide +kernel
theorem d_L_grow_6cd_49 : decode prog_37_method_6_code 49 = .ok (.invokestatic 79, 3) := by decide +kernel
theorem d_L_grow_6cd_52 : decode prog_37_method_6_code 52 = .ok (.anewarray 7, 3) := by decide +kernel
theorem d_L_grow_6cd_55 : decode prog_37_method_6_code 55 = .ok (.dup_x1, 1) := by decide +kernel
theorem d_L_grow_6cd_56 : decode prog_37_method_6_code 56 = .ok (.putfield 9, 3) := by decide +kernel
theorem d_L_grow_6cd_59 : decode prog_37_method_6_code 59 = .ok (.areturn, 1) := by decide +kernel
theorem w763 : Cond.methodLink "java/util/ArrayList" 79 ⟨"java/lang/Math", "max", "(II)I"⟩ ∈ aW := aw_of (tb_2 (List.mem_of_getElem? (i := 147) rfl)) rfl
theorem w764 : Cond.static ⟨"java/lang/Math", "max", "(II)I"⟩ ∈ aW := aw_of (tb_2 (List.mem_of_getElem? (i := 101) rfl)) rfl
theorem w765 : Cond.code ⟨"java/lang/Math", "max", "(II)I"⟩ prog_26_method_65_code 2 (some FieldType.int) ∈ aW := aw_of (tb_2 (List.mem_of_getElem? (i := 102) rfl)) rfl
theorem w766 : Cond.classLink "java/util/ArrayList" 7 "java/lang/Object" ∈ aW := aw_of (tb_2 (List.mem_of_getElem? (i := 148) rfl)) rfl
theorem w767 : Cond.arrayOver (FieldType.object "java/lang/Object") ∈ aW := aw_of (tb_2 (List.mem_of_getElem? (i := 139) rfl)) rfl
set_option maxHeartbeats 4000000 in
set_option maxRecDepth 100000 in
theorem c_L_grow1 (l : Launch) (D : va_G) (dA : Nat → ClassId) (sz : Nat) (e0 : Nat) (a : Nat) (fs : List Value) (h_fs_elementData : fs[0]? = some (.ref e0)) (hl_fs : fs.length = 3) : Met l ⟨"java/util/ArrayList", "grow", "(I)[Ljava/lang/Object;"⟩ [Cond.code ⟨"java/util/ArrayList", "grow", "(I)[Ljava/lang/Object;"⟩ prog_37_method_6_code 4 (some (FieldType.array (FieldType.object "java/lang/Object")))] { frames := 1, cells := 1, slots := 10, locals := 14 } (pCz D dA e0 [.ref a, .int 1] [(a, .inr (6, fs))] sz) (va_Qr (fun (_ : Unit) => True) (fun (u9 : Unit) (ra : Nat) t9 => bW D (va_A [(a, .inr (6, fs))] sz) [(a, .inr (6, (fs.set 0 (.ref ra)))), (ra, .inl (dA 7, 10, .inr (.inr (.inr (.inr (fun _ => none))))))] t9) (va_A [(a, .inr (6, fs))] sz)) 1 10 (va_A [(a, .inr (6, fs))] sz) := by
  refine mkZ (y := ⟨"java/util/ArrayList", "grow", "(I)[Ljava/lang/Object;"⟩) (cc := prog_37_method_6_code) (maxL := 4) (av := [.ref a, .int 1]) (ws := [(a, .inr (6, fs))]) (sz := sz) (Qc := fun A => va_Qr (fun (_ : Unit) => True) (fun (u9 : Unit) (ra : Nat) t9 => bW D A [(a, .inr (6, (fs.set 0 (.ref ra)))), (ra, .inl (dA 7, 10, .inr (.inr (.inr (.inr (fun _ => none))))))] t9) A) (by decide) (Nat.le_of_ble_eq_true rfl) ?_
  intro A p e s m below meth c ls hsz hZ hT hB
  obtain ⟨hx, hb, hr, hml, hown, hin, hlk, hE, hK, hP, hD, hS, hA, hN, hl⟩ := hB
  have hown : s.vm.findClass "java/util/ArrayList" = some m.cls := hown
  have hin : meth.name = "grow" := hin
  have hl : lv_has ls 4 [(0, .ref a), (1, .int 1)] := hl
  obtain ⟨H, hH⟩ : ∃ z, z = s.heap := ⟨_, rfl⟩
  have hP : va_P D vwCl [(a, .inr (6, fs))] H := by rw [hH]; exact hP
  have hS : va_S A s.heap H [] := by rw [hH]; exact hS
  rw [← hH]
  refine lv_aload_n hx hb d_L_grow_6cd_0 rfl (lv_at hl 0 rfl) ?_
  refine gF (v := .ref e0) hx hb hown hE hK hP 0 rfl rfl layL 0 (by decide) w656 h_fs_elementData d_L_grow_6cd_1 ?_
  refine va_tlen (v := 0) hx hb hT hS (by decide) d_L_grow_6cd_4 ?_
  refine lv_istore_n hx hb d_L_grow_6cd_5 rfl hl (by decide) rfl (fun ls hl => ?_)
  have hl : lv_has ls 4 [(2, .int 0), (0, .ref a), (1, .int 1)] := hl
  refine lv_iload_n hx hb d_L_grow_6cd_6 rfl (lv_at hl 0 rfl) ?_
  refine lv_if_gt hx hb d_L_grow_6cd_7 (tgt := 20) rfl (fun h9 => absurd h9 (by decide)) (fun _ => ?_)
  refine lv_aload_n hx hb d_L_grow_6cd_10 rfl (lv_at hl 1 rfl) ?_
  refine gF (v := .ref e0) hx hb hown hE hK hP 0 rfl rfl layL 0 (by decide) w656 h_fs_elementData d_L_grow_6cd_11 ?_
  refine va_gets hx hb hZ hS hown (hE.t w762 rfl) (fun _ h => h) d_L_grow_6cd_14 ?_
  refine lv_acmp_eq (rx := some e0) (ry := some e0) hx hb d_L_grow_6cd_17 (tgt := 45) rfl (fun _ => ?_) (fun h9 => absurd rfl h9)
  refine lv_aload_n hx hb d_L_grow_6cd_45 rfl (lv_at hl 1 rfl) ?_
  refine lv_bipush (v := 10) hx hb d_L_grow_6cd_46 (by decide) ?_
  refine lv_iload_n hx hb d_L_grow_6cd_48 rfl (lv_at hl 2 rfl) ?_
  refine va_mmax hx hb (hml.trans hl.1.symm) hown (hE.t w763 rfl) (hE.t w764 rfl) (hE.t w549 rfl) (hE.t w765 rfl) (Nat.le_of_ble_eq_true rfl) (Nat.le_of_ble_eq_true rfl) (Nat.le_of_ble_eq_true rfl) (Nat.le_of_ble_eq_true rfl) d_L_grow_6cd_49 (tpi (y := 10) (by decide) ?_)
  refine nwQ hx hb hown hE w766 w767 hK hP hD hS hA 7 rfl (n := 10) (N' := 10) (by decide) (by decide) (Nat.le_of_ble_eq_true rfl) (Nat.le_of_ble_eq_true rfl) (Nat.le_of_ble_eq_true rfl) d_L_grow_6cd_52 (fun q1 H hP hD hS => ?_)
  have hP : va_P D vwCl [(a, .inr (6, fs)), (q1, .inl (dA 7, 10, .inr (.inr (.inr (.inr (fun _ => none))))))] H := hP
  have hD : va_D A [(a, .inr (6, fs)), (q1, .inl (dA 7, 10, .inr (.inr (.inr (.inr (fun _ => none))))))] := hD
  refine lv_dup_x1 hx hb d_L_grow_6cd_55 rfl rfl ?_
  refine pF hx hb hown hE hK hP hD hS 0 rfl rfl layL tyL tokL nmL 0 (by decide) w656 rfl rfl rfl (by simp [hl_fs]) d_L_grow_6cd_56 (fun H locs hP hD hS => ?_)
  have hP : va_P D vwCl [(a, .inr (6, (fs.set 0 (.ref q1)))), (q1, .inl (dA 7, 10, .inr (.inr (.inr (.inr (fun _ => none))))))] H := hP
  have hD : va_D A [(a, .inr (6, (fs.set 0 (.ref q1)))), (q1, .inl (dA 7, 10, .inr (.inr (.inr (.inr (fun _ => none))))))] := hD
  exact rtR hx hb hr (Or.inr ⟨_, rfl⟩) hlk hP hD hS () trivial [0, 1] rfl rfl (by decide) (Nat.le_of_ble_eq_true rfl) (Nat.le_of_ble_eq_true rfl) d_L_grow_6cd_59
theorem d_L_grow_d81_0 : decode prog_37_method_7_code 0 = .ok (.aload_n 0, 1) := by decide +kernel
theorem d_L_grow_d81_1 : decode prog_37_method_7_code 1 = .ok (.aload_n 0, 1) := by decide +kernel
theorem d_L_grow_d81_2 : decode prog_37_method_7_code 2 = .ok (.getfield 48, 3) := by decide +kernel
theorem d_L_grow_d81_5 : decode prog_37_method_7_code 5 = .ok (.iconst 1, 1) := by decide +kernel
theorem d_L_grow_d81_6 : decode prog_37_method_7_code 6 = .ok (.iadd, 1) := by decide +kernel
theorem d_L_grow_d81_7 : decode prog_37_method_7_code 7 = .ok (.invokevirtual 69, 3) := by decide +kernel
theorem d_L_grow_d81_10 : decode prog_37_method_7_code 10 = .ok (.areturn, 1) := by decide +kernel
theorem w768 : Cond.methodLink "java/util/ArrayList" 69 ⟨"java/util/ArrayList", "grow", "(I)[Ljava/lang/Object;"⟩ ∈ aW := aw_of (tb_2 (List.mem_of_getElem? (i := 93) rfl)) rfl
theorem w769 : Cond.code ⟨"java/util/ArrayList", "grow", "(I)[Ljava/lang/Object;"⟩ prog_37_method_6_code 4 (some (FieldType.array (FieldType.object "java/lang/Object"))) ∈ aW := aw_of (tb_2 (List.mem_of_getElem? (i := 96) rfl)) rfl
theorem w770 : Cond.instanceMethod ⟨"java/util/ArrayList", "grow", "(I)[Ljava/lang/Object;"⟩ ∈ aW := aw_of (tb_2 (List.mem_of_getElem? (i := 95) rfl)) rfl
theorem w771 : Cond.selects "java/util/ArrayList" ⟨"java/util/ArrayList", "grow", "(I)[Ljava/lang/Object;"⟩ ⟨"java/util/ArrayList", "grow", "(I)[Ljava/lang/Object;"⟩ ∈ aW := aw_pr (List.mem_map.mpr ⟨_, pv_1 (List.mem_of_getElem? (i := 2) rfl), rfl⟩) rfl
set_option maxHeartbeats 4000000 in
set_option maxRecDepth 100000 in
theorem c_L_grow (l : Launch) (D : va_G) (dA : Nat → ClassId) (sz : Nat) (e0 : Nat) (a : Nat) (fs : List Value) (h_fs_elementData : fs[0]? = some (.ref e0)) (h_fs_size : fs[1]? = some (.int 0)) (hl_fs : fs.length = 3) : Met l ⟨"java/util/ArrayList", "grow", "()[Ljava/lang/Object;"⟩ [Cond.code ⟨"java/util/ArrayList", "grow", "()[Ljava/lang/Object;"⟩ prog_37_method_7_code 1 (some (FieldType.array (FieldType.object "java/lang/Object")))] { frames := 2, cells := 1, slots := 10, locals := 37 } (pCz D dA e0 [.ref a] [(a, .inr (6, fs))] sz) (va_Qr (fun (_ : Unit) => True) (fun (u9 : Unit) (ra : Nat) t9 => bW D (va_A [(a, .inr (6, fs))] sz) [(a, .inr (6, (fs.set 0 (.ref ra)))), (ra, .inl (dA 7, 10, .inr (.inr (.inr (.inr (fun _ => none))))))] t9) (va_A [(a, .inr (6, fs))] sz)) 1 10 (va_A [(a, .inr (6, fs))] sz) := by
  refine mkZ (y := ⟨"java/util/ArrayList", "grow", "()[Ljava/lang/Object;"⟩) (cc := prog_37_method_7_code) (maxL := 1) (av := [.ref a]) (ws := [(a, .inr (6, fs))]) (sz := sz) (Qc := fun A => va_Qr (fun (_ : Unit) => True) (fun (u9 : Unit) (ra : Nat) t9 => bW D A [(a, .inr (6, (fs.set 0 (.ref ra)))), (ra, .inl (dA 7, 10, .inr (.inr (.inr (.inr (fun _ => none))))))] t9) A) (by decide) (Nat.le_of_ble_eq_true rfl) ?_
  intro A p e s m below meth c ls hsz hZ hT hB
  obtain ⟨hx, hb, hr, hml, hown, hin, hlk, hE, hK, hP, hD, hS, hA, hN, hl⟩ := hB
  have hown : s.vm.findClass "java/util/ArrayList" = some m.cls := hown
  have hin : meth.name = "grow" := hin
  have hl : lv_has ls 1 [(0, .ref a)] := hl
  obtain ⟨H, hH⟩ : ∃ z, z = s.heap := ⟨_, rfl⟩
  have hP : va_P D vwCl [(a, .inr (6, fs))] H := by rw [hH]; exact hP
  have hS : va_S A s.heap H [] := by rw [hH]; exact hS
  rw [← hH]
  refine lv_aload_n hx hb d_L_grow_d81_0 rfl (lv_at hl 0 rfl) ?_
  refine lv_aload_n hx hb d_L_grow_d81_1 rfl (lv_at hl 0 rfl) ?_
  refine gF (v := .int 0) hx hb hown hE hK hP 0 rfl rfl layL 1 (by decide) w657 h_fs_size d_L_grow_d81_2 ?_
  refine lv_iconst (v := 1) hx hb d_L_grow_d81_5 (by decide) ?_
  refine lv_iadd hx hb d_L_grow_d81_6 (tpi (y := 1) (by decide) ?_)
  have hPc := hP.sub (ws' := [(a, .inr (6, fs))]) [0] rfl
  have hDc := hD.sub (ws' := [(a, .inr (6, fs))]) [0] (by decide) rfl
  refine jnR (rnVz (As := [.int 1]) (rest := []) hx hb hml hown hE hK hZ hT hS (hN _ _ hS) hPc hDc (c_L_grow1 l D dA H.size e0 a fs h_fs_elementData hl_fs) (q0 := 0) rfl rfl w769 w768 w770 w771 w680 rfl rfl ⟨⟨by decide, by decide⟩, rfl⟩ ⟨(Nat.le_of_ble_eq_true rfl), (Nat.le_of_ble_eq_true rfl)⟩ rfl hl.1 rfl (Nat.le_of_ble_eq_true rfl) d_L_grow_d81_7 ⟨(Nat.le_of_ble_eq_true rfl), (Nat.le_of_ble_eq_true rfl)⟩) hP hD hS hA [0] [] (wr := []) rfl rfl (by decide) (by decide) (fun u9 r1 H locs hp9 hP hD hS => ?_)
  have hP : va_P D vwCl [(a, .inr (6, (fs.set 0 (.ref r1)))), (r1, .inl (dA 7, 10, .inr (.inr (.inr (.inr (fun _ => none))))))] H := hP
  have hD : va_D A [(a, .inr (6, (fs.set 0 (.ref r1)))), (r1, .inl (dA 7, 10, .inr (.inr (.inr (.inr (fun _ => none))))))] := hD
  exact rtR hx hb hr (Or.inr ⟨_, rfl⟩) hlk hP hD hS () trivial [0, 1] rfl rfl (by decide) (Nat.le_of_ble_eq_true rfl) (Nat.le_of_ble_eq_true rfl) d_L_grow_d81_10
theorem d_L_add_faf_0 : decode prog_37_method_24_code 0 = .ok (.iload_n 3, 1) := by decide +kernel
theorem d_L_add_faf_1 : decode prog_37_method_24_code 1 = .ok (.aload_n 2, 1) := by decide +kernel
theorem d_L_add_faf_2 : decode prog_37_method_24_code 2 = .ok (.arraylength, 1) := by decide +kernel
theorem d_L_add_faf_3 : decode prog_37_method_24_code 3 = .ok (.if_icmp .ne 8, 3) := by decide +kernel
theorem d_L_add_faf_6 : decode prog_37_method_24_code 6 = .ok (.aload_n 0, 1) := by decide +kernel
theorem d_L_add_faf_7 : decode prog_37_method_24_code 7 = .ok (.invokevirtual 129, 3) := by decide +kernel
theorem d_L_add_faf_10 : decode prog_37_method_24_code 10 = .ok (.astore_n 2, 1) := by decide +kernel
theorem d_L_add_faf_11 : decode prog_37_method_24_code 11 = .ok (.aload_n 2, 1) := by decide +kernel
theorem d_L_add_faf_12 : decode prog_37_method_24_code 12 = .ok (.iload_n 3, 1) := by decide +kernel
theorem d_L_add_faf_13 : decode prog_37_method_24_code 13 = .ok (.aload_n 1, 1) := by decide +kernel
theorem d_L_add_faf_14 : decode prog_37_method_24_code 14 = .ok (.aastore, 1) := by decide +kernel
theorem d_L_add_faf_15 : decode prog_37_method_24_code 15 = .ok (.aload_n 0, 1) := by decide +kernel
theorem d_L_add_faf_16 : decode prog_37_method_24_code 16 = .ok (.iload_n 3, 1) := by decide +kernel
theorem d_L_add_faf_17 : decode prog_37_method_24_code 17 = .ok (.iconst 1, 1) := by decide +kernel
theorem d_L_add_faf_18 : decode prog_37_method_24_code 18 = .ok (.iadd, 1) := by decide +kernel
theorem d_L_add_faf_19 : decode prog_37_method_24_code 19 = .ok (.putfield 48, 3) := by decide +kernel
theorem d_L_add_faf_22 : decode prog_37_method_24_code 22 = .ok (.return_, 1) := by decide +kernel
theorem w772 : Cond.methodLink "java/util/ArrayList" 129 ⟨"java/util/ArrayList", "grow", "()[Ljava/lang/Object;"⟩ ∈ aW := aw_of (tb_2 (List.mem_of_getElem? (i := 89) rfl)) rfl
theorem w773 : Cond.code ⟨"java/util/ArrayList", "grow", "()[Ljava/lang/Object;"⟩ prog_37_method_7_code 1 (some (FieldType.array (FieldType.object "java/lang/Object"))) ∈ aW := aw_of (tb_2 (List.mem_of_getElem? (i := 92) rfl)) rfl
theorem w774 : Cond.instanceMethod ⟨"java/util/ArrayList", "grow", "()[Ljava/lang/Object;"⟩ ∈ aW := aw_of (tb_2 (List.mem_of_getElem? (i := 91) rfl)) rfl
theorem w775 : Cond.selects "java/util/ArrayList" ⟨"java/util/ArrayList", "grow", "()[Ljava/lang/Object;"⟩ ⟨"java/util/ArrayList", "grow", "()[Ljava/lang/Object;"⟩ ∈ aW := aw_pr (List.mem_map.mpr ⟨_, pv_1 (List.mem_of_getElem? (i := 1) rfl), rfl⟩) rfl
theorem w776 : Cond.castable "SeriesVault$Table" "java/lang/Object" ∈ aW := aw_of (tb_11 (List.mem_of_getElem? (i := 103) rfl)) rfl
set_option maxHeartbeats 4000000 in
set_option maxRecDepth 100000 in
theorem c_L_add3 (l : Launch) (D : va_G) (dA : Nat → ClassId) (sz : Nat) (e0 : Nat) (a : Nat) (fs : List Value) (b : Nat) (gs : List Value) (h_fs_elementData : fs[0]? = some (.ref e0)) (h_fs_size : fs[1]? = some (.int 0)) (hl_fs : fs.length = 3) (hl_gs : gs.length = 7) : Met l ⟨"java/util/ArrayList", "add", "(Ljava/lang/Object;[Ljava/lang/Object;I)V"⟩ [Cond.code ⟨"java/util/ArrayList", "add", "(Ljava/lang/Object;[Ljava/lang/Object;I)V"⟩ prog_37_method_24_code 4 none] { frames := 3, cells := 1, slots := 10, locals := 57 } (pCz D dA e0 [.ref a, .ref b, .ref e0, .int 0] [(a, .inr (6, fs)), (b, .inr (8, gs))] sz) (va_Qv (fun (_ : Nat) => True) (fun (u9 : Nat) t9 => bW D (va_A [(a, .inr (6, fs)), (b, .inr (8, gs))] sz) [(a, .inr (6, ((fs.set 0 (.ref u9)).set 1 (.int 1)))), (b, .inr (8, gs)), (u9, .inl (dA 7, 10, .inr (.inr (.inr (.inr (va_up (fun _ => none) 0 (some b)))))))] t9) (va_A [(a, .inr (6, fs)), (b, .inr (8, gs))] sz)) 1 10 (va_A [(a, .inr (6, fs)), (b, .inr (8, gs))] sz) := by
  refine mkZ (y := ⟨"java/util/ArrayList", "add", "(Ljava/lang/Object;[Ljava/lang/Object;I)V"⟩) (cc := prog_37_method_24_code) (maxL := 4) (av := [.ref a, .ref b, .ref e0, .int 0]) (ws := [(a, .inr (6, fs)), (b, .inr (8, gs))]) (sz := sz) (Qc := fun A => va_Qv (fun (_ : Nat) => True) (fun (u9 : Nat) t9 => bW D A [(a, .inr (6, ((fs.set 0 (.ref u9)).set 1 (.int 1)))), (b, .inr (8, gs)), (u9, .inl (dA 7, 10, .inr (.inr (.inr (.inr (va_up (fun _ => none) 0 (some b)))))))] t9) A) (by decide) (Nat.le_of_ble_eq_true rfl) ?_
  intro A p e s m below meth c ls hsz hZ hT hB
  obtain ⟨hx, hb, hr, hml, hown, hin, hlk, hE, hK, hP, hD, hS, hA, hN, hl⟩ := hB
  have hown : s.vm.findClass "java/util/ArrayList" = some m.cls := hown
  have hin : meth.name = "add" := hin
  have hl : lv_has ls 4 [(0, .ref a), (1, .ref b), (2, .ref e0), (3, .int 0)] := hl
  obtain ⟨H, hH⟩ : ∃ z, z = s.heap := ⟨_, rfl⟩
  have hP : va_P D vwCl [(a, .inr (6, fs)), (b, .inr (8, gs))] H := by rw [hH]; exact hP
  have hS : va_S A s.heap H [] := by rw [hH]; exact hS
  rw [← hH]
  refine lv_iload_n hx hb d_L_add_faf_0 rfl (lv_at hl 3 rfl) ?_
  refine lv_aload_n hx hb d_L_add_faf_1 rfl (lv_at hl 2 rfl) ?_
  refine va_tlen (v := 0) hx hb hT hS (by decide) d_L_add_faf_2 ?_
  refine lv_icmp_ne hx hb d_L_add_faf_3 (tgt := 11) rfl (fun h9 => absurd (by decide) h9) (fun _ => ?_)
  refine lv_aload_n hx hb d_L_add_faf_6 rfl (lv_at hl 0 rfl) ?_
  have hPc := hP.sub (ws' := [(a, .inr (6, fs))]) [0] rfl
  have hDc := hD.sub (ws' := [(a, .inr (6, fs))]) [0] (by decide) rfl
  refine jnR (rnVz (As := []) (rest := []) hx hb hml hown hE hK hZ hT hS (hN _ _ hS) hPc hDc (c_L_grow l D dA H.size e0 a fs h_fs_elementData h_fs_size hl_fs) (q0 := 0) rfl rfl w773 w772 w774 w775 w680 rfl rfl ⟨⟨by decide, by decide⟩, rfl⟩ ⟨(Nat.le_of_ble_eq_true rfl), (Nat.le_of_ble_eq_true rfl)⟩ rfl hl.1 rfl (Nat.le_of_ble_eq_true rfl) d_L_add_faf_7 ⟨(Nat.le_of_ble_eq_true rfl), (Nat.le_of_ble_eq_true rfl)⟩) hP hD hS hA [0] [1] (wr := [(b, .inr (8, gs))]) rfl rfl (by decide) (by decide) (fun u9 r1 H locs hp9 hP hD hS => ?_)
  have hP : va_P D vwCl [(b, .inr (8, gs)), (a, .inr (6, (fs.set 0 (.ref r1)))), (r1, .inl (dA 7, 10, .inr (.inr (.inr (.inr (fun _ => none))))))] H := hP
  have hD : va_D A [(b, .inr (8, gs)), (a, .inr (6, (fs.set 0 (.ref r1)))), (r1, .inl (dA 7, 10, .inr (.inr (.inr (.inr (fun _ => none))))))] := hD
  refine lv_astore_n hx hb d_L_add_faf_10 rfl hl (by decide) rfl (fun ls hl => ?_)
  have hl : lv_has ls 4 [(2, .ref r1), (0, .ref a), (1, .ref b), (3, .int 0)] := hl
  refine lv_aload_n hx hb d_L_add_faf_11 rfl (lv_at hl 0 rfl) ?_
  refine lv_iload_n hx hb d_L_add_faf_12 rfl (lv_at hl 3 rfl) ?_
  refine lv_aload_n hx hb d_L_add_faf_13 rfl (lv_at hl 2 rfl) ?_
  refine va_astqO (E := "java/lang/Object") (r := ("SeriesVault$Table", TT, 7)) hx hb hK hP hD hS 2 7 0 8 rfl rfl (show va_Nw (.castable "SeriesVault$Table" "java/lang/Object") s from hE.1 _ w776) rfl rfl (by unfold vp_in; decide) d_L_add_faf_14 (fun H locs hP hD hS => ?_)
  have hP : va_P D vwCl [(b, .inr (8, gs)), (a, .inr (6, (fs.set 0 (.ref r1)))), (r1, .inl (dA 7, 10, .inr (.inr (.inr (.inr (va_up (fun _ => none) 0 (some b)))))))] H := hP
  have hD : va_D A [(b, .inr (8, gs)), (a, .inr (6, (fs.set 0 (.ref r1)))), (r1, .inl (dA 7, 10, .inr (.inr (.inr (.inr (va_up (fun _ => none) 0 (some b)))))))] := hD
  refine lv_aload_n hx hb d_L_add_faf_15 rfl (lv_at hl 1 rfl) ?_
  refine lv_iload_n hx hb d_L_add_faf_16 rfl (lv_at hl 3 rfl) ?_
  refine lv_iconst (v := 1) hx hb d_L_add_faf_17 (by decide) ?_
  refine lv_iadd hx hb d_L_add_faf_18 (tpi (y := 1) (by decide) ?_)
  refine pF hx hb hown hE hK hP hD hS 1 rfl rfl layL tyL tokL nmL 1 (by decide) w657 rfl rfl rfl (by simp [hl_fs]) d_L_add_faf_19 (fun H locs hP hD hS => ?_)
  have hP : va_P D vwCl [(b, .inr (8, gs)), (a, .inr (6, ((fs.set 0 (.ref r1)).set 1 (.int 1)))), (r1, .inl (dA 7, 10, .inr (.inr (.inr (.inr (va_up (fun _ => none) 0 (some b)))))))] H := hP
  have hD : va_D A [(b, .inr (8, gs)), (a, .inr (6, ((fs.set 0 (.ref r1)).set 1 (.int 1)))), (r1, .inl (dA 7, 10, .inr (.inr (.inr (.inr (va_up (fun _ => none) 0 (some b)))))))] := hD
  exact rtV hx hb hr hlk hP hD hS r1 trivial [1, 0, 2] rfl rfl (by decide) (Nat.le_of_ble_eq_true rfl) (Nat.le_of_ble_eq_true rfl) d_L_add_faf_22
theorem d_L_add_9ae_0 : decode prog_37_method_25_code 0 = .ok (.aload_n 0, 1) := by decide +kernel
theorem d_L_add_9ae_1 : decode prog_37_method_25_code 1 = .ok (.dup, 1) := by decide +kernel
theorem d_L_add_9ae_2 : decode prog_37_method_25_code 2 = .ok (.getfield 63, 3) := by decide +kernel
theorem d_L_add_9ae_5 : decode prog_37_method_25_code 5 = .ok (.iconst 1, 1) := by decide +kernel
theorem d_L_add_9ae_6 : decode prog_37_method_25_code 6 = .ok (.iadd, 1) := by decide +kernel
theorem d_L_add_9ae_7 : decode prog_37_method_25_code 7 = .ok (.putfield 63, 3) := by decide +kernel
theorem d_L_add_9ae_10 : decode prog_37_method_25_code 10 = .ok (.aload_n 0, 1) := by decide +kernel
theorem d_L_add_9ae_11 : decode prog_37_method_25_code 11 = .ok (.aload_n 1, 1) := by decide +kernel
theorem d_L_add_9ae_12 : decode prog_37_method_25_code 12 = .ok (.aload_n 0, 1) := by decide +kernel
theorem d_L_add_9ae_13 : decode prog_37_method_25_code 13 = .ok (.getfield 9, 3) := by decide +kernel
theorem d_L_add_9ae_16 : decode prog_37_method_25_code 16 = .ok (.aload_n 0, 1) := by decide +kernel
theorem d_L_add_9ae_17 : decode prog_37_method_25_code 17 = .ok (.getfield 48, 3) := by decide +kernel
theorem d_L_add_9ae_20 : decode prog_37_method_25_code 20 = .ok (.invokevirtual 131, 3) := by decide +kernel
theorem d_L_add_9ae_23 : decode prog_37_method_25_code 23 = .ok (.iconst 1, 1) := by decide +kernel
theorem d_L_add_9ae_24 : decode prog_37_method_25_code 24 = .ok (.ireturn, 1) := by decide +kernel
theorem w777 : Cond.methodLink "java/util/ArrayList" 131 ⟨"java/util/ArrayList", "add", "(Ljava/lang/Object;[Ljava/lang/Object;I)V"⟩ ∈ aW := aw_of (tb_2 (List.mem_of_getElem? (i := 85) rfl)) rfl
theorem w778 : Cond.code ⟨"java/util/ArrayList", "add", "(Ljava/lang/Object;[Ljava/lang/Object;I)V"⟩ prog_37_method_24_code 4 none ∈ aW := aw_of (tb_2 (List.mem_of_getElem? (i := 88) rfl)) rfl
theorem w779 : Cond.instanceMethod ⟨"java/util/ArrayList", "add", "(Ljava/lang/Object;[Ljava/lang/Object;I)V"⟩ ∈ aW := aw_of (tb_2 (List.mem_of_getElem? (i := 87) rfl)) rfl
theorem w780 : Cond.selects "java/util/ArrayList" ⟨"java/util/ArrayList", "add", "(Ljava/lang/Object;[Ljava/lang/Object;I)V"⟩ ⟨"java/util/ArrayList", "add", "(Ljava/lang/Object;[Ljava/lang/Object;I)V"⟩ ∈ aW := aw_pr (List.mem_map.mpr ⟨_, pv_1 (List.mem_of_getElem? (i := 0) rfl), rfl⟩) rfl
set_option maxHeartbeats 4000000 in
set_option maxRecDepth 100000 in
theorem c_L_add (l : Launch) (D : va_G) (dA : Nat → ClassId) (sz : Nat) (e0 : Nat) (a : Nat) (fs : List Value) (b : Nat) (gs : List Value) (k : Int32) (h_fs_elementData : fs[0]? = some (.ref e0)) (h_fs_size : fs[1]? = some (.int 0)) (h_fs_modCount : fs[2]? = some (.int k)) (hl_fs : fs.length = 3) (hl_gs : gs.length = 7) : Met l ⟨"java/util/ArrayList", "add", "(Ljava/lang/Object;)Z"⟩ [Cond.code ⟨"java/util/ArrayList", "add", "(Ljava/lang/Object;)Z"⟩ prog_37_method_25_code 2 (some FieldType.boolean)] { frames := 4, cells := 1, slots := 10, locals := 80 } (pCz D dA e0 [.ref a, .ref b] [(a, .inr (6, fs)), (b, .inr (8, gs))] sz) (va_Qi (fun (r : Int32) (_ : Nat) => r = 1) (fun (u9 : Nat) t9 => bW D (va_A [(a, .inr (6, fs)), (b, .inr (8, gs))] sz) [(a, .inr (6, (((fs.set 2 (.int (k + 1))).set 0 (.ref u9)).set 1 (.int 1)))), (b, .inr (8, gs)), (u9, .inl (dA 7, 10, .inr (.inr (.inr (.inr (va_up (fun _ => none) 0 (some b)))))))] t9) (va_A [(a, .inr (6, fs)), (b, .inr (8, gs))] sz)) 1 10 (va_A [(a, .inr (6, fs)), (b, .inr (8, gs))] sz) := by
  refine mkZ (y := ⟨"java/util/ArrayList", "add", "(Ljava/lang/Object;)Z"⟩) (cc := prog_37_method_25_code) (maxL := 2) (av := [.ref a, .ref b]) (ws := [(a, .inr (6, fs)), (b, .inr (8, gs))]) (sz := sz) (Qc := fun A => va_Qi (fun (r : Int32) (_ : Nat) => r = 1) (fun (u9 : Nat) t9 => bW D A [(a, .inr (6, (((fs.set 2 (.int (k + 1))).set 0 (.ref u9)).set 1 (.int 1)))), (b, .inr (8, gs)), (u9, .inl (dA 7, 10, .inr (.inr (.inr (.inr (va_up (fun _ => none) 0 (some b)))))))] t9) A) (by decide) (Nat.le_of_ble_eq_true rfl) ?_
  intro A p e s m below meth c ls hsz hZ hT hB
  obtain ⟨hx, hb, hr, hml, hown, hin, hlk, hE, hK, hP, hD, hS, hA, hN, hl⟩ := hB
  have hown : s.vm.findClass "java/util/ArrayList" = some m.cls := hown
  have hin : meth.name = "add" := hin
  have hl : lv_has ls 2 [(0, .ref a), (1, .ref b)] := hl
  obtain ⟨H, hH⟩ : ∃ z, z = s.heap := ⟨_, rfl⟩
  have hP : va_P D vwCl [(a, .inr (6, fs)), (b, .inr (8, gs))] H := by rw [hH]; exact hP
  have hS : va_S A s.heap H [] := by rw [hH]; exact hS
  rw [← hH]
  refine lv_aload_n hx hb d_L_add_9ae_0 rfl (lv_at hl 0 rfl) ?_
  refine lv_dup hx hb d_L_add_9ae_1 rfl ?_
  refine gFU (v := .int k) hx hb hown hE hK hP 0 rfl rfl layL 2 (by decide) w654 w655 h_fs_modCount d_L_add_9ae_2 ?_
  refine lv_iconst (v := 1) hx hb d_L_add_9ae_5 (by decide) ?_
  refine lv_iadd hx hb d_L_add_9ae_6 ?_
  refine pFU hx hb hown hE hK hP hD hS 0 rfl rfl layL tyL tokL nmL 2 (by decide) w654 w655 rfl rfl rfl (by simp [hl_fs]) d_L_add_9ae_7 (fun H locs hP hD hS => ?_)
  have hP : va_P D vwCl [(a, .inr (6, (fs.set 2 (.int (k + 1))))), (b, .inr (8, gs))] H := hP
  have hD : va_D A [(a, .inr (6, (fs.set 2 (.int (k + 1))))), (b, .inr (8, gs))] := hD
  refine lv_aload_n hx hb d_L_add_9ae_10 rfl (lv_at hl 0 rfl) ?_
  refine lv_aload_n hx hb d_L_add_9ae_11 rfl (lv_at hl 1 rfl) ?_
  refine lv_aload_n hx hb d_L_add_9ae_12 rfl (lv_at hl 0 rfl) ?_
  refine gF (v := .ref e0) hx hb hown hE hK hP 0 rfl rfl layL 0 (by decide) w656 (by simp [h_fs_elementData]) d_L_add_9ae_13 ?_
  refine lv_aload_n hx hb d_L_add_9ae_16 rfl (lv_at hl 0 rfl) ?_
  refine gF (v := .int 0) hx hb hown hE hK hP 0 rfl rfl layL 1 (by decide) w657 (by simp [h_fs_size]) d_L_add_9ae_17 ?_
  have hPc := hP.sub (ws' := [(a, .inr (6, (fs.set 2 (.int (k + 1))))), (b, .inr (8, gs))]) [0, 1] rfl
  have hDc := hD.sub (ws' := [(a, .inr (6, (fs.set 2 (.int (k + 1))))), (b, .inr (8, gs))]) [0, 1] (by decide) rfl
  refine jnV (rnVz (As := [.ref b, .ref e0, .int 0]) (rest := []) hx hb hml hown hE hK hZ hT hS (hN _ _ hS) hPc hDc (c_L_add3 l D dA H.size e0 a (fs.set 2 (.int (k + 1))) b gs (by simp [h_fs_elementData]) (by simp [h_fs_size]) (by simp [hl_fs]) hl_gs) (q0 := 0) rfl rfl w778 w777 w779 w780 w680 rfl rfl ⟨⟨by decide, by decide⟩, rfl⟩ ⟨(Nat.le_of_ble_eq_true rfl), (Nat.le_of_ble_eq_true rfl)⟩ rfl hl.1 rfl (Nat.le_of_ble_eq_true rfl) d_L_add_9ae_20 ⟨(Nat.le_of_ble_eq_true rfl), (Nat.le_of_ble_eq_true rfl)⟩) hP hD hS hA [0, 1] [] (wr := []) rfl rfl (by decide) (by decide) (fun q1 H locs hp9 hP hD hS => ?_)
  have hP : va_P D vwCl [(a, .inr (6, (((fs.set 2 (.int (k + 1))).set 0 (.ref q1)).set 1 (.int 1)))), (b, .inr (8, gs)), (q1, .inl (dA 7, 10, .inr (.inr (.inr (.inr (va_up (fun _ => none) 0 (some b)))))))] H := hP
  have hD : va_D A [(a, .inr (6, (((fs.set 2 (.int (k + 1))).set 0 (.ref q1)).set 1 (.int 1)))), (b, .inr (8, gs)), (q1, .inl (dA 7, 10, .inr (.inr (.inr (.inr (va_up (fun _ => none) 0 (some b)))))))] := hD
  refine lv_iconst (v := 1) hx hb d_L_add_9ae_23 (by decide) ?_
  exact rtZ hx hb hr (by decide) hlk hP hD hS q1 rfl [0, 1, 2] rfl rfl (by decide) (Nat.le_of_ble_eq_true rfl) (Nat.le_of_ble_eq_true rfl) d_L_add_9ae_24
theorem d_T_init_0 : decode prog_11_method_1_code 0 = .ok (.aload_n 0, 1) := by decide +kernel
theorem d_T_init_1 : decode prog_11_method_1_code 1 = .ok (.invokespecial 3, 3) := by decide +kernel
theorem d_T_init_4 : decode prog_11_method_1_code 4 = .ok (.aload_n 0, 1) := by decide +kernel
theorem d_T_init_5 : decode prog_11_method_1_code 5 = .ok (.bipush 6, 2) := by decide +kernel
theorem d_T_init_7 : decode prog_11_method_1_code 7 = .ok (.anewarray 9, 3) := by decide +kernel
theorem d_T_init_10 : decode prog_11_method_1_code 10 = .ok (.putfield 11, 3) := by decide +kernel
theorem d_T_init_13 : decode prog_11_method_1_code 13 = .ok (.aload_n 0, 1) := by decide +kernel
theorem d_T_init_14 : decode prog_11_method_1_code 14 = .ok (.sipush 256, 3) := by decide +kernel
theorem d_T_init_17 : decode prog_11_method_1_code 17 = .ok (.anewarray 17, 3) := by decide +kernel
theorem d_T_init_20 : decode prog_11_method_1_code 20 = .ok (.putfield 19, 3) := by decide +kernel
theorem d_T_init_23 : decode prog_11_method_1_code 23 = .ok (.aload_n 0, 1) := by decide +kernel
theorem d_T_init_24 : decode prog_11_method_1_code 24 = .ok (.sipush 256, 3) := by decide +kernel
theorem d_T_init_27 : decode prog_11_method_1_code 27 = .ok (.newarray .long, 2) := by decide +kernel
theorem d_T_init_29 : decode prog_11_method_1_code 29 = .ok (.putfield 23, 3) := by decide +kernel
theorem d_T_init_32 : decode prog_11_method_1_code 32 = .ok (.aload_n 0, 1) := by decide +kernel
theorem d_T_init_33 : decode prog_11_method_1_code 33 = .ok (.bipush 64, 2) := by decide +kernel
theorem d_T_init_35 : decode prog_11_method_1_code 35 = .ok (.newarray .long, 2) := by decide +kernel
theorem d_T_init_37 : decode prog_11_method_1_code 37 = .ok (.putfield 27, 3) := by decide +kernel
theorem d_T_init_40 : decode prog_11_method_1_code 40 = .ok (.return_, 1) := by decide +kernel
theorem w781 : Cond.methodLink "SeriesVault$Table" 3 ⟨"java/lang/Object", "<init>", "()V"⟩ ∈ aW := aw_of (tb_2 (List.mem_of_getElem? (i := 49) rfl)) rfl
theorem w782 : Cond.classLink "SeriesVault$Table" 9 "SeriesVault$Word" ∈ aW := aw_of (tb_2 (List.mem_of_getElem? (i := 50) rfl)) rfl
theorem w783 : Cond.arrayOver (FieldType.object "SeriesVault$Word") ∈ aW := aw_of (tb_2 (List.mem_of_getElem? (i := 51) rfl)) rfl
theorem w784 : Cond.fieldLink "SeriesVault$Table" 11 "SeriesVault$Table" "names" "[LSeriesVault$Word;" ∈ aW := aw_of (tb_2 (List.mem_of_getElem? (i := 53) rfl)) rfl
theorem w785 : Cond.classLink "SeriesVault$Table" 17 "SeriesVault$Series" ∈ aW := aw_of (tb_2 (List.mem_of_getElem? (i := 52) rfl)) rfl
theorem w786 : Cond.arrayOver (FieldType.object "SeriesVault$Series") ∈ aW := aw_of (tb_1 (List.mem_of_getElem? (i := 185) rfl)) rfl
theorem w787 : Cond.fieldLink "SeriesVault$Table" 19 "SeriesVault$Table" "rowSeries" "[LSeriesVault$Series;" ∈ aW := aw_of (tb_2 (List.mem_of_getElem? (i := 62) rfl)) rfl
theorem w788 : Cond.fieldLink "SeriesVault$Table" 23 "SeriesVault$Table" "there" "[J" ∈ aW := aw_of (tb_2 (List.mem_of_getElem? (i := 63) rfl)) rfl
theorem w789 : Cond.fieldLink "SeriesVault$Table" 27 "SeriesVault$Table" "cells" "[J" ∈ aW := aw_of (tb_2 (List.mem_of_getElem? (i := 64) rfl)) rfl
set_option maxHeartbeats 4000000 in
set_option maxRecDepth 100000 in
theorem c_T_init (l : Launch) (D : va_G) (dA : Nat → ClassId) (sz : Nat) (h : Nat) : Met l ⟨"SeriesVault$Table", "<init>", "()V"⟩ [Cond.code ⟨"SeriesVault$Table", "<init>", "()V"⟩ prog_11_method_1_code 1 none] { frames := 1, cells := 4, slots := 582, locals := 12 } (pC D dA [.ref h] [(h, .inr (8, [.null, .int 0, .int 0, .int 0, .null, .null, .null]))] sz) (va_Qv (fun (_ : Nat × Nat × Nat × Nat) => True) (fun (u9 : Nat × Nat × Nat × Nat) t9 => bW D (va_A [(h, .inr (8, [.null, .int 0, .int 0, .int 0, .null, .null, .null]))] sz) [(h, .inr (8, [.ref u9.1, .int 0, .int 0, .int 0, .ref u9.2.1, .ref u9.2.2.1, .ref u9.2.2.2])), (u9.1, .inl (dA 6, 6, .inr (.inr (.inr (.inr (fun _ => none)))))), (u9.2.1, .inl (dA 5, 256, .inr (.inr (.inr (.inr (fun _ => none)))))), (u9.2.2.1, .inl (dA 2, 256, .inr (.inl (fun _ => 0)))), (u9.2.2.2, .inl (dA 2, 64, .inr (.inl (fun _ => 0))))] t9) (va_A [(h, .inr (8, [.null, .int 0, .int 0, .int 0, .null, .null, .null]))] sz)) 4 582 (va_A [(h, .inr (8, [.null, .int 0, .int 0, .int 0, .null, .null, .null]))] sz) := by
  refine mkC (y := ⟨"SeriesVault$Table", "<init>", "()V"⟩) (cc := prog_11_method_1_code) (maxL := 1) (av := [.ref h]) (ws := [(h, .inr (8, [.null, .int 0, .int 0, .int 0, .null, .null, .null]))]) (sz := sz) (Qc := fun A => va_Qv (fun (_ : Nat × Nat × Nat × Nat) => True) (fun (u9 : Nat × Nat × Nat × Nat) t9 => bW D A [(h, .inr (8, [.ref u9.1, .int 0, .int 0, .int 0, .ref u9.2.1, .ref u9.2.2.1, .ref u9.2.2.2])), (u9.1, .inl (dA 6, 6, .inr (.inr (.inr (.inr (fun _ => none)))))), (u9.2.1, .inl (dA 5, 256, .inr (.inr (.inr (.inr (fun _ => none)))))), (u9.2.2.1, .inl (dA 2, 256, .inr (.inl (fun _ => 0)))), (u9.2.2.2, .inl (dA 2, 64, .inr (.inl (fun _ => 0))))] t9) A) (by decide) (Nat.le_of_ble_eq_true rfl) ?_
  intro A p e s m below meth c ls hsz hB
  obtain ⟨hx, hb, hr, hml, hown, hin, hlk, hE, hK, hP, hD, hS, hA, hN, hl⟩ := hB
  have hown : s.vm.findClass "SeriesVault$Table" = some m.cls := hown
  have hin : meth.name = "<init>" := hin
  have hl : lv_has ls 1 [(0, .ref h)] := hl
  obtain ⟨H, hH⟩ : ∃ z, z = s.heap := ⟨_, rfl⟩
  have hP : va_P D vwCl [(h, .inr (8, [.null, .int 0, .int 0, .int 0, .null, .null, .null]))] H := by rw [hH]; exact hP
  have hS : va_S A s.heap H [] := by rw [hH]; exact hS
  rw [← hH]
  refine lv_aload_n hx hb d_T_init_0 rfl (lv_at hl 0 rfl) ?_
  refine oI hx hb hown hE w781 w182 w183 (hl.1.trans hml.symm) d_T_init_1 (Nat.le_of_ble_eq_true rfl) (Nat.le_of_ble_eq_true rfl) ?_
  refine lv_aload_n hx hb d_T_init_4 rfl (lv_at hl 0 rfl) ?_
  refine lv_bipush (v := 6) hx hb d_T_init_5 (by decide) ?_
  refine nwQ hx hb hown hE w782 w783 hK hP hD hS hA 6 rfl (n := 6) (N' := 6) (by decide) (by decide) (Nat.le_of_ble_eq_true rfl) (Nat.le_of_ble_eq_true rfl) (Nat.le_of_ble_eq_true rfl) d_T_init_7 (fun q1 H hP hD hS => ?_)
  have hP : va_P D vwCl [(h, .inr (8, [.null, .int 0, .int 0, .int 0, .null, .null, .null])), (q1, .inl (dA 6, 6, .inr (.inr (.inr (.inr (fun _ => none))))))] H := hP
  have hD : va_D A [(h, .inr (8, [.null, .int 0, .int 0, .int 0, .null, .null, .null])), (q1, .inl (dA 6, 6, .inr (.inr (.inr (.inr (fun _ => none))))))] := hD
  refine pFF hx hb hown hE hK hP hD hS 0 rfl rfl layT tyT tokT nmT 0 (by decide) w784 rfl hin rfl rfl rfl (Nat.le_of_ble_eq_true rfl) d_T_init_10 (fun H locs hP hD hS => ?_)
  have hP : va_P D vwCl [(h, .inr (8, [.ref q1, .int 0, .int 0, .int 0, .null, .null, .null])), (q1, .inl (dA 6, 6, .inr (.inr (.inr (.inr (fun _ => none))))))] H := hP
  have hD : va_D A [(h, .inr (8, [.ref q1, .int 0, .int 0, .int 0, .null, .null, .null])), (q1, .inl (dA 6, 6, .inr (.inr (.inr (.inr (fun _ => none))))))] := hD
  refine lv_aload_n hx hb d_T_init_13 rfl (lv_at hl 0 rfl) ?_
  refine lv_sipush (v := 256) hx hb d_T_init_14 (by decide) ?_
  refine nwQ hx hb hown hE w785 w786 hK hP hD hS hA 5 rfl (n := 256) (N' := 256) (by decide) (by decide) (Nat.le_of_ble_eq_true rfl) (Nat.le_of_ble_eq_true rfl) (Nat.le_of_ble_eq_true rfl) d_T_init_17 (fun q2 H hP hD hS => ?_)
  have hP : va_P D vwCl [(h, .inr (8, [.ref q1, .int 0, .int 0, .int 0, .null, .null, .null])), (q1, .inl (dA 6, 6, .inr (.inr (.inr (.inr (fun _ => none)))))), (q2, .inl (dA 5, 256, .inr (.inr (.inr (.inr (fun _ => none))))))] H := hP
  have hD : va_D A [(h, .inr (8, [.ref q1, .int 0, .int 0, .int 0, .null, .null, .null])), (q1, .inl (dA 6, 6, .inr (.inr (.inr (.inr (fun _ => none)))))), (q2, .inl (dA 5, 256, .inr (.inr (.inr (.inr (fun _ => none))))))] := hD
  refine pFF hx hb hown hE hK hP hD hS 0 rfl rfl layT tyT tokT nmT 4 (by decide) w787 rfl hin rfl rfl rfl (Nat.le_of_ble_eq_true rfl) d_T_init_20 (fun H locs hP hD hS => ?_)
  have hP : va_P D vwCl [(h, .inr (8, [.ref q1, .int 0, .int 0, .int 0, .ref q2, .null, .null])), (q1, .inl (dA 6, 6, .inr (.inr (.inr (.inr (fun _ => none)))))), (q2, .inl (dA 5, 256, .inr (.inr (.inr (.inr (fun _ => none))))))] H := hP
  have hD : va_D A [(h, .inr (8, [.ref q1, .int 0, .int 0, .int 0, .ref q2, .null, .null])), (q1, .inl (dA 6, 6, .inr (.inr (.inr (.inr (fun _ => none)))))), (q2, .inl (dA 5, 256, .inr (.inr (.inr (.inr (fun _ => none))))))] := hD
  refine lv_aload_n hx hb d_T_init_23 rfl (lv_at hl 0 rfl) ?_
  refine lv_sipush (v := 256) hx hb d_T_init_24 (by decide) ?_
  refine nwA (atype := .long) (ty := .long) (n := 256) (N' := 256) (a0 := (256, .inr (.inl (fun _ => 0)))) hx hb hE rfl w186 hK hP hD hS hA 2 rfl (fun _ => rfl) (by decide) (by decide) (Nat.le_of_ble_eq_true rfl) (Nat.le_of_ble_eq_true rfl) (Nat.le_of_ble_eq_true rfl) d_T_init_27 (fun q3 H hP hD hS => ?_)
  have hP : va_P D vwCl [(h, .inr (8, [.ref q1, .int 0, .int 0, .int 0, .ref q2, .null, .null])), (q1, .inl (dA 6, 6, .inr (.inr (.inr (.inr (fun _ => none)))))), (q2, .inl (dA 5, 256, .inr (.inr (.inr (.inr (fun _ => none)))))), (q3, .inl (dA 2, 256, .inr (.inl (fun _ => 0))))] H := hP
  have hD : va_D A [(h, .inr (8, [.ref q1, .int 0, .int 0, .int 0, .ref q2, .null, .null])), (q1, .inl (dA 6, 6, .inr (.inr (.inr (.inr (fun _ => none)))))), (q2, .inl (dA 5, 256, .inr (.inr (.inr (.inr (fun _ => none)))))), (q3, .inl (dA 2, 256, .inr (.inl (fun _ => 0))))] := hD
  refine pFF hx hb hown hE hK hP hD hS 0 rfl rfl layT tyT tokT nmT 5 (by decide) w788 rfl hin rfl rfl rfl (Nat.le_of_ble_eq_true rfl) d_T_init_29 (fun H locs hP hD hS => ?_)
  have hP : va_P D vwCl [(h, .inr (8, [.ref q1, .int 0, .int 0, .int 0, .ref q2, .ref q3, .null])), (q1, .inl (dA 6, 6, .inr (.inr (.inr (.inr (fun _ => none)))))), (q2, .inl (dA 5, 256, .inr (.inr (.inr (.inr (fun _ => none)))))), (q3, .inl (dA 2, 256, .inr (.inl (fun _ => 0))))] H := hP
  have hD : va_D A [(h, .inr (8, [.ref q1, .int 0, .int 0, .int 0, .ref q2, .ref q3, .null])), (q1, .inl (dA 6, 6, .inr (.inr (.inr (.inr (fun _ => none)))))), (q2, .inl (dA 5, 256, .inr (.inr (.inr (.inr (fun _ => none)))))), (q3, .inl (dA 2, 256, .inr (.inl (fun _ => 0))))] := hD
  refine lv_aload_n hx hb d_T_init_32 rfl (lv_at hl 0 rfl) ?_
  refine lv_bipush (v := 64) hx hb d_T_init_33 (by decide) ?_
  refine nwA (atype := .long) (ty := .long) (n := 64) (N' := 64) (a0 := (64, .inr (.inl (fun _ => 0)))) hx hb hE rfl w186 hK hP hD hS hA 2 rfl (fun _ => rfl) (by decide) (by decide) (Nat.le_of_ble_eq_true rfl) (Nat.le_of_ble_eq_true rfl) (Nat.le_of_ble_eq_true rfl) d_T_init_35 (fun q4 H hP hD hS => ?_)
  have hP : va_P D vwCl [(h, .inr (8, [.ref q1, .int 0, .int 0, .int 0, .ref q2, .ref q3, .null])), (q1, .inl (dA 6, 6, .inr (.inr (.inr (.inr (fun _ => none)))))), (q2, .inl (dA 5, 256, .inr (.inr (.inr (.inr (fun _ => none)))))), (q3, .inl (dA 2, 256, .inr (.inl (fun _ => 0)))), (q4, .inl (dA 2, 64, .inr (.inl (fun _ => 0))))] H := hP
  have hD : va_D A [(h, .inr (8, [.ref q1, .int 0, .int 0, .int 0, .ref q2, .ref q3, .null])), (q1, .inl (dA 6, 6, .inr (.inr (.inr (.inr (fun _ => none)))))), (q2, .inl (dA 5, 256, .inr (.inr (.inr (.inr (fun _ => none)))))), (q3, .inl (dA 2, 256, .inr (.inl (fun _ => 0)))), (q4, .inl (dA 2, 64, .inr (.inl (fun _ => 0))))] := hD
  refine pF hx hb hown hE hK hP hD hS 0 rfl rfl layT tyT tokT nmT 6 (by decide) w789 rfl rfl rfl (Nat.le_of_ble_eq_true rfl) d_T_init_37 (fun H locs hP hD hS => ?_)
  have hP : va_P D vwCl [(h, .inr (8, [.ref q1, .int 0, .int 0, .int 0, .ref q2, .ref q3, .ref q4])), (q1, .inl (dA 6, 6, .inr (.inr (.inr (.inr (fun _ => none)))))), (q2, .inl (dA 5, 256, .inr (.inr (.inr (.inr (fun _ => none)))))), (q3, .inl (dA 2, 256, .inr (.inl (fun _ => 0)))), (q4, .inl (dA 2, 64, .inr (.inl (fun _ => 0))))] H := hP
  have hD : va_D A [(h, .inr (8, [.ref q1, .int 0, .int 0, .int 0, .ref q2, .ref q3, .ref q4])), (q1, .inl (dA 6, 6, .inr (.inr (.inr (.inr (fun _ => none)))))), (q2, .inl (dA 5, 256, .inr (.inr (.inr (.inr (fun _ => none)))))), (q3, .inl (dA 2, 256, .inr (.inl (fun _ => 0)))), (q4, .inl (dA 2, 64, .inr (.inl (fun _ => 0))))] := hD
  exact rtV hx hb hr hlk hP hD hS (q1, q2, q3, q4) trivial [0, 1, 2, 3, 4] rfl rfl (by decide) (Nat.le_of_ble_eq_true rfl) (Nat.le_of_ble_eq_true rfl) d_T_init_40
