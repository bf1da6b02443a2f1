set_option maxHeartbeats 4000000 in
set_option maxRecDepth 100000 in
theorem v_pclear_h (l : Launch) (D : va_G) (dA : Nat → ClassId) (sz : Nat) (h : Nat) (ad : Nat → Nat) (x : VS) : Met l ⟨"SeriesVault$Points", "clear", "()V"⟩ [Cond.code ⟨"SeriesVault$Points", "clear", "()V"⟩ prog_5_method_2_code 1 none] { frames := 1, cells := 0, slots := 0, locals := 0 } (pC D dA [.ref (ad 1)] (VW dA h ad x) sz) (va_Qv (fun (u9 : Unit) => True) (fun (u9 : Unit) t9 => bW D (va_A (VW dA h ad x) sz) (VW dA h ad (VS.s_hsize x 0)) t9) (va_A (VW dA h ad x) sz)) 0 0 (va_A (VW dA h ad x) sz) := by
  refine mkC (y := ⟨"SeriesVault$Points", "clear", "()V"⟩) (cc := prog_5_method_2_code) (maxL := 1) (av := [.ref (ad 1)]) (ws := VW dA h ad x) (sz := sz) (Qc := fun A => va_Qv (fun (u9 : Unit) => True) (fun (u9 : Unit) t9 => bW D A (VW dA h ad (VS.s_hsize x 0)) t9) A) (by decide) (Nat.le_of_ble_eq_true rfl) ?_
  intro A p e s m below meth c ls hsz hB
  obtain ⟨hx, hb, hr, hml, hown, hin, hlk, hE, hK, hP, hD, hS, hA, hN, hl⟩ := hB
  have hown : s.vm.findClass "SeriesVault$Points" = some m.cls := hown
  have hl : lv_has ls 1 [(0, .ref (ad 1))] := hl
  obtain ⟨H, hH⟩ : ∃ z, z = s.heap := ⟨_, rfl⟩
  have hP : va_P D vwCl (VW dA h ad x) H := by rw [hH]; exact hP
  have hS : va_S A s.heap H [] := by rw [hH]; exact hS
  rw [← hH]
  refine lv_aload_n hx hb d_P_clear_0 rfl (lv_at hl 0 rfl) ?_
  refine lv_iconst (v := 0) hx hb d_P_clear_1 (by decide) ?_
  refine pF (v := .int (nI 0)) hx hb hown hE hK hP hD hS 9 rfl rfl layP tyP tokP nmP 3 (by decide) w565 rfl rfl rfl (Nat.le_of_ble_eq_true rfl) d_P_clear_2 (fun H locs hP hD hS => ?_)
  have hP : va_P D vwCl (VW dA h ad (VS.s_hsize x 0)) H := hP
  have hD : va_D A (VW dA h ad (VS.s_hsize x 0)) := hD
  exact rfV hx hb hr hlk hS () trivial hP hD (Nat.le_of_ble_eq_true rfl) (Nat.le_of_ble_eq_true rfl) d_P_clear_5
theorem d_P_set_0 : decode prog_5_method_4_code 0 = .ok (.aload_n 0, 1) := by decide +kernel
theorem d_P_set_1 : decode prog_5_method_4_code 1 = .ok (.getfield 7, 3) := by decide +kernel
theorem d_P_set_4 : decode prog_5_method_4_code 4 = .ok (.iload_n 1, 1) := by decide +kernel
theorem d_P_set_5 : decode prog_5_method_4_code 5 = .ok (.iload_n 2, 1) := by decide +kernel
theorem d_P_set_6 : decode prog_5_method_4_code 6 = .ok (.iastore, 1) := by decide +kernel
theorem d_P_set_7 : decode prog_5_method_4_code 7 = .ok (.aload_n 0, 1) := by decide +kernel
theorem d_P_set_8 : decode prog_5_method_4_code 8 = .ok (.getfield 13, 3) := by decide +kernel
theorem d_P_set_11 : decode prog_5_method_4_code 11 = .ok (.iload_n 1, 1) := by decide +kernel
theorem d_P_set_12 : decode prog_5_method_4_code 12 = .ok (.lload_n 3, 1) := by decide +kernel
theorem d_P_set_13 : decode prog_5_method_4_code 13 = .ok (.lastore, 1) := by decide +kernel
theorem d_P_set_14 : decode prog_5_method_4_code 14 = .ok (.aload_n 0, 1) := by decide +kernel
theorem d_P_set_15 : decode prog_5_method_4_code 15 = .ok (.getfield 17, 3) := by decide +kernel
theorem d_P_set_18 : decode prog_5_method_4_code 18 = .ok (.iload_n 1, 1) := by decide +kernel
theorem d_P_set_19 : decode prog_5_method_4_code 19 = .ok (.lload 5, 2) := by decide +kernel
theorem d_P_set_21 : decode prog_5_method_4_code 21 = .ok (.lastore, 1) := by decide +kernel
theorem d_P_set_22 : decode prog_5_method_4_code 22 = .ok (.return_, 1) := by decide +kernel
set_option maxHeartbeats 4000000 in
set_option maxRecDepth 100000 in
theorem v_pset_h (l : Launch) (D : va_G) (dA : Nat → ClassId) (sz : Nat) (h : Nat) (ad : Nat → Nat) (x : VS) (q : Nat) (w : Nat) (a : Int64) (b : Int64) (hq : q < x.hN) (h9 : x.hN ≤ 65536) : Met l ⟨"SeriesVault$Points", "set", "(IIJJ)V"⟩ [Cond.code ⟨"SeriesVault$Points", "set", "(IIJJ)V"⟩ prog_5_method_4_code 7 none] { frames := 1, cells := 0, slots := 0, locals := 0 } (pC D dA [.ref (ad 1), .int (nI q), .int (nI w), .long a, .long b] (VW dA h ad x) sz) (va_Qv (fun (u9 : Unit) => True) (fun (u9 : Unit) t9 => bW D (va_A (VW dA h ad x) sz) (VW dA h ad (VS.s_hV (VS.s_hT (VS.s_hO x (va_up x.hO q w)) (va_up x.hT q a)) (va_up x.hV q b))) t9) (va_A (VW dA h ad x) sz)) 0 0 (va_A (VW dA h ad x) sz) := by
  refine mkC (y := ⟨"SeriesVault$Points", "set", "(IIJJ)V"⟩) (cc := prog_5_method_4_code) (maxL := 7) (av := [.ref (ad 1), .int (nI q), .int (nI w), .long a, .long b]) (ws := VW dA h ad x) (sz := sz) (Qc := fun A => va_Qv (fun (u9 : Unit) => True) (fun (u9 : Unit) t9 => bW D A (VW dA h ad (VS.s_hV (VS.s_hT (VS.s_hO x (va_up x.hO q w)) (va_up x.hT q a)) (va_up x.hV q b))) t9) A) (by decide) (Nat.le_of_ble_eq_true rfl) ?_
  intro A p e s m below meth c ls hsz hB
  obtain ⟨hx, hb, hr, hml, hown, hin, hlk, hE, hK, hP, hD, hS, hA, hN, hl⟩ := hB
  have hown : s.vm.findClass "SeriesVault$Points" = some m.cls := hown
  have hl : lv_has ls 7 [(0, .ref (ad 1)), (1, .int (nI q)), (2, .int (nI w)), (3, .long a), (5, .long b)] := hl
  obtain ⟨H, hH⟩ : ∃ z, z = s.heap := ⟨_, rfl⟩
  have hP : va_P D vwCl (VW dA h ad x) H := by rw [hH]; exact hP
  have hS : va_S A s.heap H [] := by rw [hH]; exact hS
  rw [← hH]
  refine lv_aload_n hx hb d_P_set_0 rfl (lv_at hl 0 rfl) ?_
  refine gF (v := .ref (x.hA 0)) hx hb hown hE hK hP 9 rfl rfl layP 0 (by decide) w185 rfl d_P_set_1 ?_
  refine lv_iload_n hx hb d_P_set_4 rfl (lv_at hl 1 rfl) ?_
  refine lv_iload_n hx hb d_P_set_5 rfl (lv_at hl 2 rfl) ?_
  refine nistN (v := w) (n := x.hN) hx hb hK hP hD hS 10 1 rfl rfl (q) (by omega) (by omega) d_P_set_6 (fun H locs hP hD hS => ?_)
  have hP : va_P D vwCl (VW dA h ad (VS.s_hO x (va_up x.hO q w))) H := hP
  have hD : va_D A (VW dA h ad (VS.s_hO x (va_up x.hO q w))) := hD
  refine lv_aload_n hx hb d_P_set_7 rfl (lv_at hl 0 rfl) ?_
  refine gF (v := .ref (x.hA 1)) hx hb hown hE hK hP 9 rfl rfl layP 1 (by decide) w187 rfl d_P_set_8 ?_
  refine lv_iload_n hx hb d_P_set_11 rfl (lv_at hl 1 rfl) ?_
  refine lv_lload_n hx hb d_P_set_12 rfl (lv_at hl 3 rfl) ?_
  refine nlst (n := x.hN) hx hb hK hP hD hS 11 2 rfl rfl (q) (by omega) (by omega) d_P_set_13 (fun H locs hP hD hS => ?_)
  have hP : va_P D vwCl (VW dA h ad (VS.s_hT (VS.s_hO x (va_up x.hO q w)) (va_up x.hT q a))) H := hP
  have hD : va_D A (VW dA h ad (VS.s_hT (VS.s_hO x (va_up x.hO q w)) (va_up x.hT q a))) := hD
  refine lv_aload_n hx hb d_P_set_14 rfl (lv_at hl 0 rfl) ?_
  refine gF (v := .ref (x.hA 2)) hx hb hown hE hK hP 9 rfl rfl layP 2 (by decide) w188 rfl d_P_set_15 ?_
  refine lv_iload_n hx hb d_P_set_18 rfl (lv_at hl 1 rfl) ?_
  refine lv_lload hx hb d_P_set_19 (lv_at hl 4 rfl) ?_
  refine nlst (n := x.hN) hx hb hK hP hD hS 12 2 rfl rfl (q) (by omega) (by omega) d_P_set_21 (fun H locs hP hD hS => ?_)
  have hP : va_P D vwCl (VW dA h ad (VS.s_hV (VS.s_hT (VS.s_hO x (va_up x.hO q w)) (va_up x.hT q a)) (va_up x.hV q b))) H := hP
  have hD : va_D A (VW dA h ad (VS.s_hV (VS.s_hT (VS.s_hO x (va_up x.hO q w)) (va_up x.hT q a)) (va_up x.hV q b))) := hD
  exact rfV hx hb hr hlk hS () trivial hP hD (Nat.le_of_ble_eq_true rfl) (Nat.le_of_ble_eq_true rfl) d_P_set_22
theorem d_P_add_0 : decode prog_5_method_3_code 0 = .ok (.aload_n 0, 1) := by decide +kernel
theorem d_P_add_1 : decode prog_5_method_3_code 1 = .ok (.getfield 20, 3) := by decide +kernel
theorem d_P_add_4 : decode prog_5_method_3_code 4 = .ok (.aload_n 0, 1) := by decide +kernel
theorem d_P_add_5 : decode prog_5_method_3_code 5 = .ok (.getfield 7, 3) := by decide +kernel
theorem d_P_add_8 : decode prog_5_method_3_code 8 = .ok (.arraylength, 1) := by decide +kernel
theorem d_P_add_9 : decode prog_5_method_3_code 9 = .ok (.if_icmp .ne 54, 3) := by decide +kernel
theorem d_P_add_63 : decode prog_5_method_3_code 63 = .ok (.aload_n 0, 1) := by decide +kernel
theorem d_P_add_64 : decode prog_5_method_3_code 64 = .ok (.aload_n 0, 1) := by decide +kernel
theorem d_P_add_65 : decode prog_5_method_3_code 65 = .ok (.getfield 20, 3) := by decide +kernel
theorem d_P_add_68 : decode prog_5_method_3_code 68 = .ok (.iload_n 1, 1) := by decide +kernel
theorem d_P_add_69 : decode prog_5_method_3_code 69 = .ok (.lload_n 2, 1) := by decide +kernel
theorem d_P_add_70 : decode prog_5_method_3_code 70 = .ok (.lload 4, 2) := by decide +kernel
theorem d_P_add_72 : decode prog_5_method_3_code 72 = .ok (.invokevirtual 33, 3) := by decide +kernel
theorem d_P_add_75 : decode prog_5_method_3_code 75 = .ok (.aload_n 0, 1) := by decide +kernel
theorem d_P_add_76 : decode prog_5_method_3_code 76 = .ok (.dup, 1) := by decide +kernel
theorem d_P_add_77 : decode prog_5_method_3_code 77 = .ok (.getfield 20, 3) := by decide +kernel
theorem d_P_add_80 : decode prog_5_method_3_code 80 = .ok (.iconst 1, 1) := by decide +kernel
theorem d_P_add_81 : decode prog_5_method_3_code 81 = .ok (.iadd, 1) := by decide +kernel
theorem d_P_add_82 : decode prog_5_method_3_code 82 = .ok (.putfield 20, 3) := by decide +kernel
theorem d_P_add_85 : decode prog_5_method_3_code 85 = .ok (.return_, 1) := by decide +kernel
theorem w1085 : Cond.methodLink "SeriesVault$Points" 33 ⟨"SeriesVault$Points", "set", "(IIJJ)V"⟩ ∈ aW := aw_of (tb_5 (List.mem_of_getElem? (i := 159) rfl)) rfl
theorem w1086 : Cond.code ⟨"SeriesVault$Points", "set", "(IIJJ)V"⟩ prog_5_method_4_code 7 none ∈ aW := aw_of (tb_5 (List.mem_of_getElem? (i := 162) rfl)) rfl
theorem w1087 : Cond.instanceMethod ⟨"SeriesVault$Points", "set", "(IIJJ)V"⟩ ∈ aW := aw_of (tb_5 (List.mem_of_getElem? (i := 161) rfl)) rfl
theorem w1088 : Cond.selects "SeriesVault$Points" ⟨"SeriesVault$Points", "set", "(IIJJ)V"⟩ ⟨"SeriesVault$Points", "set", "(IIJJ)V"⟩ ∈ aW := aw_pr (List.mem_map.mpr ⟨_, pv_2 (List.mem_of_getElem? (i := 5) rfl), rfl⟩) rfl
set_option maxHeartbeats 4000000 in
set_option maxRecDepth 100000 in
theorem v_padd_h (l : Launch) (D : va_G) (dA : Nat → ClassId) (sz : Nat) (h : Nat) (ad : Nat → Nat) (x : VS) (w : Nat) (a : Int64) (b : Int64) (h0 : x.hsize < x.hN) (h9 : x.hN ≤ 65536) : Met l ⟨"SeriesVault$Points", "add", "(IJJ)V"⟩ [Cond.code ⟨"SeriesVault$Points", "add", "(IJJ)V"⟩ prog_5_method_3_code 6 none] { frames := 2, cells := 0, slots := 0, locals := 26 } (pC D dA [.ref (ad 1), .int (nI w), .long a, .long b] (VW dA h ad x) sz) (va_Qv (fun (u9 : Unit) => True) (fun (u9 : Unit) t9 => bW D (va_A (VW dA h ad x) sz) (VW dA h ad (VS.s_hsize (VS.s_hV (VS.s_hT (VS.s_hO x (va_up x.hO x.hsize w)) (va_up x.hT x.hsize a)) (va_up x.hV x.hsize b)) (x.hsize + 1))) t9) (va_A (VW dA h ad x) sz)) 0 0 (va_A (VW dA h ad x) sz) := by
  refine mkC (y := ⟨"SeriesVault$Points", "add", "(IJJ)V"⟩) (cc := prog_5_method_3_code) (maxL := 6) (av := [.ref (ad 1), .int (nI w), .long a, .long b]) (ws := VW dA h ad x) (sz := sz) (Qc := fun A => va_Qv (fun (u9 : Unit) => True) (fun (u9 : Unit) t9 => bW D A (VW dA h ad (VS.s_hsize (VS.s_hV (VS.s_hT (VS.s_hO x (va_up x.hO x.hsize w)) (va_up x.hT x.hsize a)) (va_up x.hV x.hsize b)) (x.hsize + 1))) t9) A) (by decide) (Nat.le_of_ble_eq_true rfl) ?_
  intro A p e s m below meth c ls hsz hB
  obtain ⟨hx, hb, hr, hml, hown, hin, hlk, hE, hK, hP, hD, hS, hA, hN, hl⟩ := hB
  have hown : s.vm.findClass "SeriesVault$Points" = some m.cls := hown
  have hl : lv_has ls 6 [(0, .ref (ad 1)), (1, .int (nI w)), (2, .long a), (4, .long b)] := hl
  obtain ⟨H, hH⟩ : ∃ z, z = s.heap := ⟨_, rfl⟩
  have hP : va_P D vwCl (VW dA h ad x) H := by rw [hH]; exact hP
  have hS : va_S A s.heap H [] := by rw [hH]; exact hS
  rw [← hH]
  refine lv_aload_n hx hb d_P_add_0 rfl (lv_at hl 0 rfl) ?_
  refine gF (v := .int (nI x.hsize)) hx hb hown hE hK hP 9 rfl rfl layP 3 (by decide) w565 rfl d_P_add_1 ?_
  refine lv_aload_n hx hb d_P_add_4 rfl (lv_at hl 0 rfl) ?_
  refine gF (v := .ref (x.hA 0)) hx hb hown hE hK hP 9 rfl rfl layP 0 (by decide) w185 rfl d_P_add_5 ?_
  refine va_alen (v := nI x.hN) hx hb hK hP 10 1 rfl rfl rfl d_P_add_8 ?_
  refine lv_icmp_ne hx hb d_P_add_9 (tgt := 63) rfl (fun g1 => ?_) (fun g1 => ?_)
  rotate_left
  · have g1 := (nI_eq (a := x.hsize) (b := x.hN) (by omega) (by omega)).mp g1; exfalso; omega
  have g1 := mt (nI_eq (a := x.hsize) (b := x.hN) (by omega) (by omega)).mpr g1
  refine lv_aload_n hx hb d_P_add_63 rfl (lv_at hl 0 rfl) ?_
  refine lv_aload_n hx hb d_P_add_64 rfl (lv_at hl 0 rfl) ?_
  refine gF (v := .int (nI x.hsize)) hx hb hown hE hK hP 9 rfl rfl layP 3 (by decide) w565 rfl d_P_add_65 ?_
  refine lv_iload_n hx hb d_P_add_68 rfl (lv_at hl 1 rfl) ?_
  refine lv_lload_n hx hb d_P_add_69 rfl (lv_at hl 2 rfl) ?_
  refine lv_lload hx hb d_P_add_70 (lv_at hl 3 rfl) ?_
  refine jfV (rnV (As := [.int (nI x.hsize), .int (nI w), .long a, .long b]) (rest := []) hx hb hml hown hE hK (hN _ _ hS) hP hD (v_pset_h l D dA H.size h ad x x.hsize w a b (show x.hsize < x.hN from by omega) (show x.hN ≤ 65536 from by omega)) (q0 := 9) rfl rfl w1086 w1085 w1087 w1088 w578 rfl rfl ⟨⟨by decide, by decide⟩, rfl⟩ ⟨(Nat.le_of_ble_eq_true rfl), (Nat.le_of_ble_eq_true rfl)⟩ rfl hl.1 rfl (Nat.le_of_ble_eq_true rfl) d_P_add_72 ⟨(Nat.le_of_ble_eq_true rfl), (Nat.le_of_ble_eq_true rfl)⟩) hP hD hS hA (fun u3 H locs hp9 hP hD hS => ?_)
  have hP : va_P D vwCl (VW dA h ad (VS.s_hV (VS.s_hT (VS.s_hO x (va_up x.hO x.hsize w)) (va_up x.hT x.hsize a)) (va_up x.hV x.hsize b))) H := hP
  have hD : va_D A (VW dA h ad (VS.s_hV (VS.s_hT (VS.s_hO x (va_up x.hO x.hsize w)) (va_up x.hT x.hsize a)) (va_up x.hV x.hsize b))) := hD
  refine lv_aload_n hx hb d_P_add_75 rfl (lv_at hl 0 rfl) ?_
  refine lv_dup hx hb d_P_add_76 rfl ?_
  refine gF (v := .int (nI x.hsize)) hx hb hown hE hK hP 9 rfl rfl layP 3 (by decide) w565 rfl d_P_add_77 ?_
  refine lv_iconst (v := 1) hx hb d_P_add_80 (by decide) ?_
  refine lv_iadd hx hb d_P_add_81 (tpi (y := nI (x.hsize + 1)) (nI_add (x.hsize) (1)) ?_)
  refine pF (v := .int (nI (x.hsize + 1))) hx hb hown hE hK hP hD hS 9 rfl rfl layP tyP tokP nmP 3 (by decide) w565 rfl rfl rfl (Nat.le_of_ble_eq_true rfl) d_P_add_82 (fun H locs hP hD hS => ?_)
  have hP : va_P D vwCl (VW dA h ad (VS.s_hsize (VS.s_hV (VS.s_hT (VS.s_hO x (va_up x.hO x.hsize w)) (va_up x.hT x.hsize a)) (va_up x.hV x.hsize b)) (x.hsize + 1))) H := hP
  have hD : va_D A (VW dA h ad (VS.s_hsize (VS.s_hV (VS.s_hT (VS.s_hO x (va_up x.hO x.hsize w)) (va_up x.hT x.hsize a)) (va_up x.hV x.hsize b)) (x.hsize + 1))) := hD
  exact rfV hx hb hr hlk hS () trivial hP hD (Nat.le_of_ble_eq_true rfl) (Nat.le_of_ble_eq_true rfl) d_P_add_85
set_option maxHeartbeats 4000000 in
set_option maxRecDepth 100000 in
theorem v_pclear_g (l : Launch) (D : va_G) (dA : Nat → ClassId) (sz : Nat) (h : Nat) (ad : Nat → Nat) (x : VS) : Met l ⟨"SeriesVault$Points", "clear", "()V"⟩ [Cond.code ⟨"SeriesVault$Points", "clear", "()V"⟩ prog_5_method_2_code 1 none] { frames := 1, cells := 0, slots := 0, locals := 0 } (pC D dA [.ref (ad 2)] (VW dA h ad x) sz) (va_Qv (fun (u9 : Unit) => True) (fun (u9 : Unit) t9 => bW D (va_A (VW dA h ad x) sz) (VW dA h ad (VS.s_gsize x 0)) t9) (va_A (VW dA h ad x) sz)) 0 0 (va_A (VW dA h ad x) sz) := by
  refine mkC (y := ⟨"SeriesVault$Points", "clear", "()V"⟩) (cc := prog_5_method_2_code) (maxL := 1) (av := [.ref (ad 2)]) (ws := VW dA h ad x) (sz := sz) (Qc := fun A => va_Qv (fun (u9 : Unit) => True) (fun (u9 : Unit) t9 => bW D A (VW dA h ad (VS.s_gsize x 0)) t9) A) (by decide) (Nat.le_of_ble_eq_true rfl) ?_
  intro A p e s m below meth c ls hsz hB
  obtain ⟨hx, hb, hr, hml, hown, hin, hlk, hE, hK, hP, hD, hS, hA, hN, hl⟩ := hB
  have hown : s.vm.findClass "SeriesVault$Points" = some m.cls := hown
  have hl : lv_has ls 1 [(0, .ref (ad 2))] := hl
  obtain ⟨H, hH⟩ : ∃ z, z = s.heap := ⟨_, rfl⟩
  have hP : va_P D vwCl (VW dA h ad x) H := by rw [hH]; exact hP
  have hS : va_S A s.heap H [] := by rw [hH]; exact hS
  rw [← hH]
  refine lv_aload_n hx hb d_P_clear_0 rfl (lv_at hl 0 rfl) ?_
  refine lv_iconst (v := 0) hx hb d_P_clear_1 (by decide) ?_
  refine pF (v := .int (nI 0)) hx hb hown hE hK hP hD hS 13 rfl rfl layP tyP tokP nmP 3 (by decide) w565 rfl rfl rfl (Nat.le_of_ble_eq_true rfl) d_P_clear_2 (fun H locs hP hD hS => ?_)
  have hP : va_P D vwCl (VW dA h ad (VS.s_gsize x 0)) H := hP
  have hD : va_D A (VW dA h ad (VS.s_gsize x 0)) := hD
  exact rfV hx hb hr hlk hS () trivial hP hD (Nat.le_of_ble_eq_true rfl) (Nat.le_of_ble_eq_true rfl) d_P_clear_5
set_option maxHeartbeats 4000000 in
set_option maxRecDepth 100000 in
theorem v_pset_g (l : Launch) (D : va_G) (dA : Nat → ClassId) (sz : Nat) (h : Nat) (ad : Nat → Nat) (x : VS) (q : Nat) (w : Nat) (a : Int64) (b : Int64) (hq : q < x.gN) (h9 : x.gN ≤ 65536) : Met l ⟨"SeriesVault$Points", "set", "(IIJJ)V"⟩ [Cond.code ⟨"SeriesVault$Points", "set", "(IIJJ)V"⟩ prog_5_method_4_code 7 none] { frames := 1, cells := 0, slots := 0, locals := 0 } (pC D dA [.ref (ad 2), .int (nI q), .int (nI w), .long a, .long b] (VW dA h ad x) sz) (va_Qv (fun (u9 : Unit) => True) (fun (u9 : Unit) t9 => bW D (va_A (VW dA h ad x) sz) (VW dA h ad (VS.s_gV (VS.s_gT (VS.s_gO x (va_up x.gO q w)) (va_up x.gT q a)) (va_up x.gV q b))) t9) (va_A (VW dA h ad x) sz)) 0 0 (va_A (VW dA h ad x) sz) := by
  refine mkC (y := ⟨"SeriesVault$Points", "set", "(IIJJ)V"⟩) (cc := prog_5_method_4_code) (maxL := 7) (av := [.ref (ad 2), .int (nI q), .int (nI w), .long a, .long b]) (ws := VW dA h ad x) (sz := sz) (Qc := fun A => va_Qv (fun (u9 : Unit) => True) (fun (u9 : Unit) t9 => bW D A (VW dA h ad (VS.s_gV (VS.s_gT (VS.s_gO x (va_up x.gO q w)) (va_up x.gT q a)) (va_up x.gV q b))) t9) A) (by decide) (Nat.le_of_ble_eq_true rfl) ?_
  intro A p e s m below meth c ls hsz hB
  obtain ⟨hx, hb, hr, hml, hown, hin, hlk, hE, hK, hP, hD, hS, hA, hN, hl⟩ := hB
  have hown : s.vm.findClass "SeriesVault$Points" = some m.cls := hown
  have hl : lv_has ls 7 [(0, .ref (ad 2)), (1, .int (nI q)), (2, .int (nI w)), (3, .long a), (5, .long b)] := hl
  obtain ⟨H, hH⟩ : ∃ z, z = s.heap := ⟨_, rfl⟩
  have hP : va_P D vwCl (VW dA h ad x) H := by rw [hH]; exact hP
  have hS : va_S A s.heap H [] := by rw [hH]; exact hS
  rw [← hH]
  refine lv_aload_n hx hb d_P_set_0 rfl (lv_at hl 0 rfl) ?_
  refine gF (v := .ref (x.gA 0)) hx hb hown hE hK hP 13 rfl rfl layP 0 (by decide) w185 rfl d_P_set_1 ?_
  refine lv_iload_n hx hb d_P_set_4 rfl (lv_at hl 1 rfl) ?_
  refine lv_iload_n hx hb d_P_set_5 rfl (lv_at hl 2 rfl) ?_
  refine nistN (v := w) (n := x.gN) hx hb hK hP hD hS 14 1 rfl rfl (q) (by omega) (by omega) d_P_set_6 (fun H locs hP hD hS => ?_)
  have hP : va_P D vwCl (VW dA h ad (VS.s_gO x (va_up x.gO q w))) H := hP
  have hD : va_D A (VW dA h ad (VS.s_gO x (va_up x.gO q w))) := hD
  refine lv_aload_n hx hb d_P_set_7 rfl (lv_at hl 0 rfl) ?_
  refine gF (v := .ref (x.gA 1)) hx hb hown hE hK hP 13 rfl rfl layP 1 (by decide) w187 rfl d_P_set_8 ?_
  refine lv_iload_n hx hb d_P_set_11 rfl (lv_at hl 1 rfl) ?_
  refine lv_lload_n hx hb d_P_set_12 rfl (lv_at hl 3 rfl) ?_
  refine nlst (n := x.gN) hx hb hK hP hD hS 15 2 rfl rfl (q) (by omega) (by omega) d_P_set_13 (fun H locs hP hD hS => ?_)
  have hP : va_P D vwCl (VW dA h ad (VS.s_gT (VS.s_gO x (va_up x.gO q w)) (va_up x.gT q a))) H := hP
  have hD : va_D A (VW dA h ad (VS.s_gT (VS.s_gO x (va_up x.gO q w)) (va_up x.gT q a))) := hD
  refine lv_aload_n hx hb d_P_set_14 rfl (lv_at hl 0 rfl) ?_
  refine gF (v := .ref (x.gA 2)) hx hb hown hE hK hP 13 rfl rfl layP 2 (by decide) w188 rfl d_P_set_15 ?_
  refine lv_iload_n hx hb d_P_set_18 rfl (lv_at hl 1 rfl) ?_
  refine lv_lload hx hb d_P_set_19 (lv_at hl 4 rfl) ?_
  refine nlst (n := x.gN) hx hb hK hP hD hS 16 2 rfl rfl (q) (by omega) (by omega) d_P_set_21 (fun H locs hP hD hS => ?_)
  have hP : va_P D vwCl (VW dA h ad (VS.s_gV (VS.s_gT (VS.s_gO x (va_up x.gO q w)) (va_up x.gT q a)) (va_up x.gV q b))) H := hP
  have hD : va_D A (VW dA h ad (VS.s_gV (VS.s_gT (VS.s_gO x (va_up x.gO q w)) (va_up x.gT q a)) (va_up x.gV q b))) := hD
  exact rfV hx hb hr hlk hS () trivial hP hD (Nat.le_of_ble_eq_true rfl) (Nat.le_of_ble_eq_true rfl) d_P_set_22
set_option maxHeartbeats 4000000 in
set_option maxRecDepth 100000 in
theorem v_padd_g (l : Launch) (D : va_G) (dA : Nat → ClassId) (sz : Nat) (h : Nat) (ad : Nat → Nat) (x : VS) (w : Nat) (a : Int64) (b : Int64) (h0 : x.gsize < x.gN) (h9 : x.gN ≤ 65536) : Met l ⟨"SeriesVault$Points", "add", "(IJJ)V"⟩ [Cond.code ⟨"SeriesVault$Points", "add", "(IJJ)V"⟩ prog_5_method_3_code 6 none] { frames := 2, cells := 0, slots := 0, locals := 26 } (pC D dA [.ref (ad 2), .int (nI w), .long a, .long b] (VW dA h ad x) sz) (va_Qv (fun (u9 : Unit) => True) (fun (u9 : Unit) t9 => bW D (va_A (VW dA h ad x) sz) (VW dA h ad (VS.s_gsize (VS.s_gV (VS.s_gT (VS.s_gO x (va_up x.gO x.gsize w)) (va_up x.gT x.gsize a)) (va_up x.gV x.gsize b)) (x.gsize + 1))) t9) (va_A (VW dA h ad x) sz)) 0 0 (va_A (VW dA h ad x) sz) := by
  refine mkC (y := ⟨"SeriesVault$Points", "add", "(IJJ)V"⟩) (cc := prog_5_method_3_code) (maxL := 6) (av := [.ref (ad 2), .int (nI w), .long a, .long b]) (ws := VW dA h ad x) (sz := sz) (Qc := fun A => va_Qv (fun (u9 : Unit) => True) (fun (u9 : Unit) t9 => bW D A (VW dA h ad (VS.s_gsize (VS.s_gV (VS.s_gT (VS.s_gO x (va_up x.gO x.gsize w)) (va_up x.gT x.gsize a)) (va_up x.gV x.gsize b)) (x.gsize + 1))) t9) A) (by decide) (Nat.le_of_ble_eq_true rfl) ?_
  intro A p e s m below meth c ls hsz hB
  obtain ⟨hx, hb, hr, hml, hown, hin, hlk, hE, hK, hP, hD, hS, hA, hN, hl⟩ := hB
  have hown : s.vm.findClass "SeriesVault$Points" = some m.cls := hown
  have hl : lv_has ls 6 [(0, .ref (ad 2)), (1, .int (nI w)), (2, .long a), (4, .long b)] := hl
  obtain ⟨H, hH⟩ : ∃ z, z = s.heap := ⟨_, rfl⟩
  have hP : va_P D vwCl (VW dA h ad x) H := by rw [hH]; exact hP
  have hS : va_S A s.heap H [] := by rw [hH]; exact hS
  rw [← hH]
  refine lv_aload_n hx hb d_P_add_0 rfl (lv_at hl 0 rfl) ?_
  refine gF (v := .int (nI x.gsize)) hx hb hown hE hK hP 13 rfl rfl layP 3 (by decide) w565 rfl d_P_add_1 ?_
  refine lv_aload_n hx hb d_P_add_4 rfl (lv_at hl 0 rfl) ?_
  refine gF (v := .ref (x.gA 0)) hx hb hown hE hK hP 13 rfl rfl layP 0 (by decide) w185 rfl d_P_add_5 ?_
  refine va_alen (v := nI x.gN) hx hb hK hP 14 1 rfl rfl rfl d_P_add_8 ?_
  refine lv_icmp_ne hx hb d_P_add_9 (tgt := 63) rfl (fun g1 => ?_) (fun g1 => ?_)
  rotate_left
  · have g1 := (nI_eq (a := x.gsize) (b := x.gN) (by omega) (by omega)).mp g1; exfalso; omega
  have g1 := mt (nI_eq (a := x.gsize) (b := x.gN) (by omega) (by omega)).mpr g1
  refine lv_aload_n hx hb d_P_add_63 rfl (lv_at hl 0 rfl) ?_
  refine lv_aload_n hx hb d_P_add_64 rfl (lv_at hl 0 rfl) ?_
  refine gF (v := .int (nI x.gsize)) hx hb hown hE hK hP 13 rfl rfl layP 3 (by decide) w565 rfl d_P_add_65 ?_
  refine lv_iload_n hx hb d_P_add_68 rfl (lv_at hl 1 rfl) ?_
  refine lv_lload_n hx hb d_P_add_69 rfl (lv_at hl 2 rfl) ?_
  refine lv_lload hx hb d_P_add_70 (lv_at hl 3 rfl) ?_
  refine jfV (rnV (As := [.int (nI x.gsize), .int (nI w), .long a, .long b]) (rest := []) hx hb hml hown hE hK (hN _ _ hS) hP hD (v_pset_g l D dA H.size h ad x x.gsize w a b (show x.gsize < x.gN from by omega) (show x.gN ≤ 65536 from by omega)) (q0 := 13) rfl rfl w1086 w1085 w1087 w1088 w578 rfl rfl ⟨⟨by decide, by decide⟩, rfl⟩ ⟨(Nat.le_of_ble_eq_true rfl), (Nat.le_of_ble_eq_true rfl)⟩ rfl hl.1 rfl (Nat.le_of_ble_eq_true rfl) d_P_add_72 ⟨(Nat.le_of_ble_eq_true rfl), (Nat.le_of_ble_eq_true rfl)⟩) hP hD hS hA (fun u3 H locs hp9 hP hD hS => ?_)
  have hP : va_P D vwCl (VW dA h ad (VS.s_gV (VS.s_gT (VS.s_gO x (va_up x.gO x.gsize w)) (va_up x.gT x.gsize a)) (va_up x.gV x.gsize b))) H := hP
  have hD : va_D A (VW dA h ad (VS.s_gV (VS.s_gT (VS.s_gO x (va_up x.gO x.gsize w)) (va_up x.gT x.gsize a)) (va_up x.gV x.gsize b))) := hD
  refine lv_aload_n hx hb d_P_add_75 rfl (lv_at hl 0 rfl) ?_
  refine lv_dup hx hb d_P_add_76 rfl ?_
  refine gF (v := .int (nI x.gsize)) hx hb hown hE hK hP 13 rfl rfl layP 3 (by decide) w565 rfl d_P_add_77 ?_
  refine lv_iconst (v := 1) hx hb d_P_add_80 (by decide) ?_
  refine lv_iadd hx hb d_P_add_81 (tpi (y := nI (x.gsize + 1)) (nI_add (x.gsize) (1)) ?_)
  refine pF (v := .int (nI (x.gsize + 1))) hx hb hown hE hK hP hD hS 13 rfl rfl layP tyP tokP nmP 3 (by decide) w565 rfl rfl rfl (Nat.le_of_ble_eq_true rfl) d_P_add_82 (fun H locs hP hD hS => ?_)
  have hP : va_P D vwCl (VW dA h ad (VS.s_gsize (VS.s_gV (VS.s_gT (VS.s_gO x (va_up x.gO x.gsize w)) (va_up x.gT x.gsize a)) (va_up x.gV x.gsize b)) (x.gsize + 1))) H := hP
  have hD : va_D A (VW dA h ad (VS.s_gsize (VS.s_gV (VS.s_gT (VS.s_gO x (va_up x.gO x.gsize w)) (va_up x.gT x.gsize a)) (va_up x.gV x.gsize b)) (x.gsize + 1))) := hD
  exact rfV hx hb hr hlk hS () trivial hP hD (Nat.le_of_ble_eq_true rfl) (Nat.le_of_ble_eq_true rfl) d_P_add_85
/-- is point i of the head within -/
def VS.hW (x : VS) (w : Nat) (a b : Int64) (i : Nat) : Bool := decide (x.hO i = w) && (!decide (x.hT i < a) && !decide (b < x.hT i))
def VS.hWn (x : VS) (w : Nat) (a b : Int64) (i : Nat) : Bool := !x.hW w a b i
def VS.hBl (x : VS) (a : Int64) (i : Nat) : Bool := !decide (a ≤ x.hT i)
def VS.hAb (x : VS) (a : Int64) (i : Nat) : Bool := !decide (x.hT i < a)
theorem d_P_isWithin_0 : decode prog_5_method_5_code 0 = .ok (.aload_n 0, 1) := by decide +kernel
theorem d_P_isWithin_1 : decode prog_5_method_5_code 1 = .ok (.getfield 7, 3) := by decide +kernel
theorem d_P_isWithin_4 : decode prog_5_method_5_code 4 = .ok (.iload_n 1, 1) := by decide +kernel
theorem d_P_isWithin_5 : decode prog_5_method_5_code 5 = .ok (.iaload, 1) := by decide +kernel
theorem d_P_isWithin_6 : decode prog_5_method_5_code 6 = .ok (.iload_n 2, 1) := by decide +kernel
theorem d_P_isWithin_7 : decode prog_5_method_5_code 7 = .ok (.if_icmp .ne 30, 3) := by decide +kernel
theorem d_P_isWithin_37 : decode prog_5_method_5_code 37 = .ok (.iconst 0, 1) := by decide +kernel
theorem d_P_isWithin_38 : decode prog_5_method_5_code 38 = .ok (.ireturn, 1) := by decide +kernel
theorem d_P_isWithin_10 : decode prog_5_method_5_code 10 = .ok (.aload_n 0, 1) := by decide +kernel
theorem d_P_isWithin_11 : decode prog_5_method_5_code 11 = .ok (.getfield 13, 3) := by decide +kernel
theorem d_P_isWithin_14 : decode prog_5_method_5_code 14 = .ok (.iload_n 1, 1) := by decide +kernel
theorem d_P_isWithin_15 : decode prog_5_method_5_code 15 = .ok (.laload, 1) := by decide +kernel
theorem d_P_isWithin_16 : decode prog_5_method_5_code 16 = .ok (.lload_n 3, 1) := by decide +kernel
theorem d_P_isWithin_17 : decode prog_5_method_5_code 17 = .ok (.lcmp, 1) := by decide +kernel
theorem d_P_isWithin_18 : decode prog_5_method_5_code 18 = .ok (.ifCond .lt 19, 3) := by decide +kernel
theorem d_P_isWithin_21 : decode prog_5_method_5_code 21 = .ok (.aload_n 0, 1) := by decide +kernel
theorem d_P_isWithin_22 : decode prog_5_method_5_code 22 = .ok (.getfield 13, 3) := by decide +kernel
theorem d_P_isWithin_25 : decode prog_5_method_5_code 25 = .ok (.iload_n 1, 1) := by decide +kernel
theorem d_P_isWithin_26 : decode prog_5_method_5_code 26 = .ok (.laload, 1) := by decide +kernel
theorem d_P_isWithin_27 : decode prog_5_method_5_code 27 = .ok (.lload 5, 2) := by decide +kernel
theorem d_P_isWithin_29 : decode prog_5_method_5_code 29 = .ok (.lcmp, 1) := by decide +kernel
theorem d_P_isWithin_30 : decode prog_5_method_5_code 30 = .ok (.ifCond .gt 7, 3) := by decide +kernel
theorem d_P_isWithin_33 : decode prog_5_method_5_code 33 = .ok (.iconst 1, 1) := by decide +kernel
theorem d_P_isWithin_34 : decode prog_5_method_5_code 34 = .ok (.goto 4, 3) := by decide +kernel
set_option maxHeartbeats 4000000 in
set_option maxRecDepth 100000 in
theorem v_isWithin (l : Launch) (D : va_G) (dA : Nat → ClassId) (sz : Nat) (h : Nat) (ad : Nat → Nat) (x : VS) (q : Nat) (w : Nat) (a : Int64) (b : Int64) (hq : q < x.hN) (h9 : x.hN ≤ 65536) (h8 : w < 2 ^ 31) (h7 : x.hO q < 2 ^ 31) : Met l ⟨"SeriesVault$Points", "isWithin", "(IIJJ)Z"⟩ [Cond.code ⟨"SeriesVault$Points", "isWithin", "(IIJJ)Z"⟩ prog_5_method_5_code 7 (some FieldType.boolean)] { frames := 1, cells := 0, slots := 0, locals := 0 } (pC D dA [.ref (ad 1), .int (nI q), .int (nI w), .long a, .long b] (VW dA h ad x) sz) (va_Qi (fun (r9 : Int32) (u9 : Unit) => r9 = bI (x.hW w a b q)) (fun (u9 : Unit) t9 => bW D (va_A (VW dA h ad x) sz) (VW dA h ad x) t9) (va_A (VW dA h ad x) sz)) 0 0 (va_A (VW dA h ad x) sz) := by
  refine mkC (y := ⟨"SeriesVault$Points", "isWithin", "(IIJJ)Z"⟩) (cc := prog_5_method_5_code) (maxL := 7) (av := [.ref (ad 1), .int (nI q), .int (nI w), .long a, .long b]) (ws := VW dA h ad x) (sz := sz) (Qc := fun A => va_Qi (fun (r9 : Int32) (u9 : Unit) => r9 = bI (x.hW w a b q)) (fun (u9 : Unit) t9 => bW D A (VW dA h ad x) t9) A) (by decide) (Nat.le_of_ble_eq_true rfl) ?_
  intro A p e s m below meth c ls hsz hB
  obtain ⟨hx, hb, hr, hml, hown, hin, hlk, hE, hK, hP, hD, hS, hA, hN, hl⟩ := hB
  have hown : s.vm.findClass "SeriesVault$Points" = some m.cls := hown
  have hl : lv_has ls 7 [(0, .ref (ad 1)), (1, .int (nI q)), (2, .int (nI w)), (3, .long a), (5, .long b)] := hl
  obtain ⟨H, hH⟩ : ∃ z, z = s.heap := ⟨_, rfl⟩
  have hP : va_P D vwCl (VW dA h ad x) H := by rw [hH]; exact hP
  have hS : va_S A s.heap H [] := by rw [hH]; exact hS
  rw [← hH]
  refine lv_aload_n hx hb d_P_isWithin_0 rfl (lv_at hl 0 rfl) ?_
  refine gF (v := .ref (x.hA 0)) hx hb hown hE hK hP 9 rfl rfl layP 0 (by decide) w185 rfl d_P_isWithin_1 ?_
  refine lv_iload_n hx hb d_P_isWithin_4 rfl (lv_at hl 1 rfl) ?_
  refine nild (f := (fun z9 => nI (x.hO z9))) (n := x.hN) hx hb hK hP 10 1 rfl rfl (q) (by omega) (by omega) d_P_isWithin_5 ?_
  refine lv_iload_n hx hb d_P_isWithin_6 rfl (lv_at hl 2 rfl) ?_
  refine lv_icmp_ne hx hb d_P_isWithin_7 (tgt := 37) rfl (fun g1 => ?_) (fun g1 => ?_)
  · have g1 := mt (nI_eq (a := x.hO q) (b := w) (by omega) (by omega)).mpr g1
    refine lv_iconst (v := 0) hx hb d_P_isWithin_37 (by decide) ?_
    exact rfZ hx hb hr (bI_nar false) hlk hS () (by simp [VS.hW, bI, *]) hP hD (Nat.le_of_ble_eq_true rfl) (Nat.le_of_ble_eq_true rfl) d_P_isWithin_38
  · have g1 := (nI_eq (a := x.hO q) (b := w) (by omega) (by omega)).mp g1
    refine lv_aload_n hx hb d_P_isWithin_10 rfl (lv_at hl 0 rfl) ?_
    refine gF (v := .ref (x.hA 1)) hx hb hown hE hK hP 9 rfl rfl layP 1 (by decide) w187 rfl d_P_isWithin_11 ?_
    refine lv_iload_n hx hb d_P_isWithin_14 rfl (lv_at hl 1 rfl) ?_
    refine nlld (f := x.hT) (n := x.hN) hx hb hK hP 11 2 rfl rfl (q) (by omega) (by omega) d_P_isWithin_15 ?_
    refine lv_lload_n hx hb d_P_isWithin_16 rfl (lv_at hl 3 rfl) ?_
    refine W.lcmp hx hb d_P_isWithin_17 ?_
    refine lv_if_lt hx hb d_P_isWithin_18 (tgt := 37) rfl (fun g2 => ?_) (fun g2 => ?_)
    · have g2 := (lg_cmp_lt _ _).mp g2
      refine lv_iconst (v := 0) hx hb d_P_isWithin_37 (by decide) ?_
      exact rfZ hx hb hr (bI_nar false) hlk hS () (by simp [VS.hW, bI, *]) hP hD (Nat.le_of_ble_eq_true rfl) (Nat.le_of_ble_eq_true rfl) d_P_isWithin_38
    · have g2 := mt (lg_cmp_lt _ _).mpr g2
      refine lv_aload_n hx hb d_P_isWithin_21 rfl (lv_at hl 0 rfl) ?_
      refine gF (v := .ref (x.hA 1)) hx hb hown hE hK hP 9 rfl rfl layP 1 (by decide) w187 rfl d_P_isWithin_22 ?_
      refine lv_iload_n hx hb d_P_isWithin_25 rfl (lv_at hl 1 rfl) ?_
      refine nlld (f := x.hT) (n := x.hN) hx hb hK hP 11 2 rfl rfl (q) (by omega) (by omega) d_P_isWithin_26 ?_
      refine lv_lload hx hb d_P_isWithin_27 (lv_at hl 4 rfl) ?_
      refine W.lcmp hx hb d_P_isWithin_29 ?_
      refine lv_if_gt hx hb d_P_isWithin_30 (tgt := 37) rfl (fun g3 => ?_) (fun g3 => ?_)
      · have g3 := (lg_cmp_gt _ _).mp g3
        refine lv_iconst (v := 0) hx hb d_P_isWithin_37 (by decide) ?_
        exact rfZ hx hb hr (bI_nar false) hlk hS () (by simp [VS.hW, bI, *]) hP hD (Nat.le_of_ble_eq_true rfl) (Nat.le_of_ble_eq_true rfl) d_P_isWithin_38
      · have g3 := mt (lg_cmp_gt _ _).mpr g3
        refine lv_iconst (v := 1) hx hb d_P_isWithin_33 (by decide) ?_
        refine lv_goto hx hb d_P_isWithin_34 (tgt := 38) rfl ?_
        exact rfZ hx hb hr (bI_nar true) hlk hS () (by simp [VS.hW, bI, *]) hP hD (Nat.le_of_ble_eq_true rfl) (Nat.le_of_ble_eq_true rfl) d_P_isWithin_38
theorem d_P_countWithin_0 : decode prog_5_method_6_code 0 = .ok (.iconst 0, 1) := by decide +kernel
theorem d_P_countWithin_1 : decode prog_5_method_6_code 1 = .ok (.istore 6, 2) := by decide +kernel
theorem d_P_countWithin_3 : decode prog_5_method_6_code 3 = .ok (.iconst 0, 1) := by decide +kernel
theorem d_P_countWithin_4 : decode prog_5_method_6_code 4 = .ok (.istore 7, 2) := by decide +kernel
theorem d_P_countWithin_6 : decode prog_5_method_6_code 6 = .ok (.iload 7, 2) := by decide +kernel
theorem d_P_countWithin_8 : decode prog_5_method_6_code 8 = .ok (.aload_n 0, 1) := by decide +kernel
theorem d_P_countWithin_9 : decode prog_5_method_6_code 9 = .ok (.getfield 20, 3) := by decide +kernel
theorem d_P_countWithin_12 : decode prog_5_method_6_code 12 = .ok (.if_icmp .ge 25, 3) := by decide +kernel
theorem d_P_countWithin_37 : decode prog_5_method_6_code 37 = .ok (.iload 6, 2) := by decide +kernel
theorem d_P_countWithin_39 : decode prog_5_method_6_code 39 = .ok (.ireturn, 1) := by decide +kernel
theorem d_P_countWithin_15 : decode prog_5_method_6_code 15 = .ok (.aload_n 0, 1) := by decide +kernel
theorem d_P_countWithin_16 : decode prog_5_method_6_code 16 = .ok (.iload 7, 2) := by decide +kernel
theorem d_P_countWithin_18 : decode prog_5_method_6_code 18 = .ok (.iload_n 1, 1) := by decide +kernel
theorem d_P_countWithin_19 : decode prog_5_method_6_code 19 = .ok (.lload_n 2, 1) := by decide +kernel
theorem d_P_countWithin_20 : decode prog_5_method_6_code 20 = .ok (.lload 4, 2) := by decide +kernel
theorem d_P_countWithin_22 : decode prog_5_method_6_code 22 = .ok (.invokevirtual 37, 3) := by decide +kernel
theorem d_P_countWithin_25 : decode prog_5_method_6_code 25 = .ok (.ifCond .eq 6, 3) := by decide +kernel
theorem d_P_countWithin_31 : decode prog_5_method_6_code 31 = .ok (.iinc 7 1, 3) := by decide +kernel
theorem d_P_countWithin_34 : decode prog_5_method_6_code 34 = .ok (.goto (-28), 3) := by decide +kernel
theorem d_P_countWithin_28 : decode prog_5_method_6_code 28 = .ok (.iinc 6 1, 3) := by decide +kernel
theorem w1089 : Cond.methodLink "SeriesVault$Points" 37 ⟨"SeriesVault$Points", "isWithin", "(IIJJ)Z"⟩ ∈ aW := aw_of (tb_5 (List.mem_of_getElem? (i := 201) rfl)) rfl
theorem w1090 : Cond.code ⟨"SeriesVault$Points", "isWithin", "(IIJJ)Z"⟩ prog_5_method_5_code 7 (some FieldType.boolean) ∈ aW := aw_of (tb_5 (List.mem_of_getElem? (i := 204) rfl)) rfl
theorem w1091 : Cond.instanceMethod ⟨"SeriesVault$Points", "isWithin", "(IIJJ)Z"⟩ ∈ aW := aw_of (tb_5 (List.mem_of_getElem? (i := 203) rfl)) rfl
theorem w1092 : Cond.selects "SeriesVault$Points" ⟨"SeriesVault$Points", "isWithin", "(IIJJ)Z"⟩ ⟨"SeriesVault$Points", "isWithin", "(IIJJ)Z"⟩ ∈ aW := aw_pr (List.mem_map.mpr ⟨_, pv_2 (List.mem_of_getElem? (i := 9) rfl), rfl⟩) rfl
set_option maxHeartbeats 4000000 in
set_option maxRecDepth 100000 in
theorem v_countWithin (l : Launch) (D : va_G) (dA : Nat → ClassId) (sz : Nat) (h : Nat) (ad : Nat → Nat) (x : VS) (w : Nat) (a : Int64) (b : Int64) (h0 : x.hsize ≤ x.hN) (h9 : x.hN ≤ 65536) (h8 : w < 2 ^ 31) (h7 : ∀ q : Nat, q < x.hsize → x.hO q < 2 ^ 31) : Met l ⟨"SeriesVault$Points", "countWithin", "(IJJ)I"⟩ [Cond.code ⟨"SeriesVault$Points", "countWithin", "(IJJ)I"⟩ prog_5_method_6_code 8 (some FieldType.int)] { frames := 2, cells := 0, slots := 0, locals := 26 } (pC D dA [.ref (ad 1), .int (nI w), .long a, .long b] (VW dA h ad x) sz) (va_Qi (fun (r9 : Int32) (u9 : Unit) => r9 = nI (cnt x.hsize (x.hW w a b))) (fun (u9 : Unit) t9 => bW D (va_A (VW dA h ad x) sz) (VW dA h ad x) t9) (va_A (VW dA h ad x) sz)) 0 0 (va_A (VW dA h ad x) sz) := by
  refine mkC (y := ⟨"SeriesVault$Points", "countWithin", "(IJJ)I"⟩) (cc := prog_5_method_6_code) (maxL := 8) (av := [.ref (ad 1), .int (nI w), .long a, .long b]) (ws := VW dA h ad x) (sz := sz) (Qc := fun A => va_Qi (fun (r9 : Int32) (u9 : Unit) => r9 = nI (cnt x.hsize (x.hW w a b))) (fun (u9 : Unit) t9 => bW D A (VW dA h ad x) t9) A) (by decide) (Nat.le_of_ble_eq_true rfl) ?_
  intro A p e s m below meth c ls hsz hB
  obtain ⟨hx, hb, hr, hml, hown, hin, hlk, hE, hK, hP, hD, hS, hA, hN, hl⟩ := hB
  have hown : s.vm.findClass "SeriesVault$Points" = some m.cls := hown
  have hl : lv_has ls 8 [(0, .ref (ad 1)), (1, .int (nI w)), (2, .long a), (4, .long b)] := hl
  obtain ⟨H, hH⟩ : ∃ z, z = s.heap := ⟨_, rfl⟩
  have hP : va_P D vwCl (VW dA h ad x) H := by rw [hH]; exact hP
  have hS : va_S A s.heap H [] := by rw [hH]; exact hS
  rw [← hH]
  refine lv_iconst (v := 0) hx hb d_P_countWithin_0 (by decide) ?_
  refine lv_istore hx hb d_P_countWithin_1 hl (by decide) rfl (fun ls hl => ?_)
  have hl : lv_has ls 8 [(6, .int 0), (0, .ref (ad 1)), (1, .int (nI w)), (2, .long a), (4, .long b)] := hl
  refine lv_iconst (v := 0) hx hb d_P_countWithin_3 (by decide) ?_
  refine lv_istore hx hb d_P_countWithin_4 hl (by decide) rfl (fun ls hl => ?_)
  have hl : lv_has ls 8 [(7, .int 0), (6, .int 0), (0, .ref (ad 1)), (1, .int (nI w)), (2, .long a), (4, .long b)] := hl
  have L6 : ∀ (k9 : Nat) (q : Nat) (n : Nat) (i1 : q ≤ x.hsize) (i2 : n = cnt q (x.hW w a b)) (i3 : n ≤ q) (hk9 : x.hsize - q = k9), ∀ (H : Heap) (locs : List Loc) (ls : Array Slot) (hP : va_P D vwCl (VW dA h ad x) H) (hD : va_D A (VW dA h ad x)) (hS : va_S A s.heap H locs) (hl : lv_has ls 8 [(6, .int (nI n)), (7, .int (nI q)), (1, .int (nI w)), (2, .long a), (4, .long b), (0, .ref (ad 1))]), W p l e ({ frames := 2, cells := 0, slots := 0, locals := 26 } : Room) s m ([.ref (ad 1), .int (nI w), .long a, .long b] : List Value).toArray below meth c H locs 0 0 (MQ below (va_Qi (fun (r9 : Int32) (u9 : Unit) => r9 = nI (cnt x.hsize (x.hW w a b))) (fun (u9 : Unit) t9 => bW D A (VW dA h ad x) t9) A) ([.ref (ad 1), .int (nI w), .long a, .long b] : List Value).toArray s 0 0 A) (F0 m 6 ls []) := by
    intro k9
    induction k9 using Nat.strongRecOn with
    | ind k9 ih6 =>
      intro q n i1 i2 i3 hk9 H locs ls hP hD hS hl
      refine lv_iload hx hb d_P_countWithin_6 (lv_at hl 1 rfl) ?_
      refine lv_aload_n hx hb d_P_countWithin_8 rfl (lv_at hl 5 rfl) ?_
      refine gF (v := .int (nI x.hsize)) hx hb hown hE hK hP 9 rfl rfl layP 3 (by decide) w565 rfl d_P_countWithin_9 ?_
      refine lv_icmp_ge hx hb d_P_countWithin_12 (tgt := 37) rfl (fun g1 => ?_) (fun g1 => ?_)
      · have g1 := (nI_leI (a := x.hsize) (b := q) (by omega) (by omega)).mp g1
        refine lv_iload hx hb d_P_countWithin_37 (lv_at hl 0 rfl) ?_
        exact rfI hx hb hr hlk hS () (by rw [i2, show q = x.hsize by omega]) hP hD (Nat.le_of_ble_eq_true rfl) (Nat.le_of_ble_eq_true rfl) d_P_countWithin_39
      · have g1 := mt (nI_leI (a := x.hsize) (b := q) (by omega) (by omega)).mpr g1
        refine lv_aload_n hx hb d_P_countWithin_15 rfl (lv_at hl 5 rfl) ?_
        refine lv_iload hx hb d_P_countWithin_16 (lv_at hl 1 rfl) ?_
        refine lv_iload_n hx hb d_P_countWithin_18 rfl (lv_at hl 2 rfl) ?_
        refine lv_lload_n hx hb d_P_countWithin_19 rfl (lv_at hl 3 rfl) ?_
        refine lv_lload hx hb d_P_countWithin_20 (lv_at hl 4 rfl) ?_
        refine jfI (rnV (As := [.int (nI q), .int (nI w), .long a, .long b]) (rest := []) hx hb hml hown hE hK (hN _ _ hS) hP hD (v_isWithin l D dA H.size h ad x q w a b (show q < x.hN from by omega) (show x.hN ≤ 65536 from by omega) (show w < 2 ^ 31 from by omega) (h7 q (by omega))) (q0 := 9) rfl rfl w1090 w1089 w1091 w1092 w578 rfl rfl ⟨⟨by decide, by decide⟩, rfl⟩ ⟨(Nat.le_of_ble_eq_true rfl), (Nat.le_of_ble_eq_true rfl)⟩ rfl hl.1 rfl (Nat.le_of_ble_eq_true rfl) d_P_countWithin_22 ⟨(Nat.le_of_ble_eq_true rfl), (Nat.le_of_ble_eq_true rfl)⟩) hP hD hS hA (fun r2 u3 H locs hp9 hP hD hS => ?_)
        have hP : va_P D vwCl (VW dA h ad x) H := hP
        have hD : va_D A (VW dA h ad x) := hD
        replace hp9 : bI (x.hW w a b q) = r2 := Eq.symm hp9
        subst hp9
        refine lv_if_eq hx hb d_P_countWithin_25 (tgt := 31) rfl (fun g4 => ?_) (fun g4 => ?_)
        · have g4 := bI_0 g4
          refine lv_iinc (k := 1) (v := nI (q + 1)) hx hb d_P_countWithin_31 hl rfl (iincN (q) 1 1 (by decide)) (by decide) rfl (fun ls hl => ?_)
          have hl : lv_has ls 8 [(7, .int (nI (q + 1))), (6, .int (nI n)), (1, .int (nI w)), (2, .long a), (4, .long b), (0, .ref (ad 1))] := hl
          refine lv_goto hx hb d_P_countWithin_34 (tgt := 6) rfl ?_
          exact ih6 _ (by omega) (q + 1) n (by omega) (by rw [cnt_f g4, i2]) (by omega) rfl H _ ls hP hD hS (lv_sub hl [1, 0, 2, 3, 4, 5] rfl)
        · have g4 := bI_n0 g4
          refine lv_iinc (k := 0) (v := nI (n + 1)) hx hb d_P_countWithin_28 hl rfl (iincN (n) 1 1 (by decide)) (by decide) rfl (fun ls hl => ?_)
          have hl : lv_has ls 8 [(6, .int (nI (n + 1))), (7, .int (nI q)), (1, .int (nI w)), (2, .long a), (4, .long b), (0, .ref (ad 1))] := hl
          refine lv_iinc (k := 1) (v := nI (q + 1)) hx hb d_P_countWithin_31 hl rfl (iincN (q) 1 1 (by decide)) (by decide) rfl (fun ls hl => ?_)
          have hl : lv_has ls 8 [(7, .int (nI (q + 1))), (6, .int (nI (n + 1))), (1, .int (nI w)), (2, .long a), (4, .long b), (0, .ref (ad 1))] := hl
          refine lv_goto hx hb d_P_countWithin_34 (tgt := 6) rfl ?_
          exact ih6 _ (by omega) (q + 1) (n + 1) (by omega) (by rw [cnt_t g4, i2]) (by omega) rfl H _ ls hP hD hS (lv_sub hl [1, 0, 2, 3, 4, 5] rfl)
  exact L6 _ 0 0 (Nat.zero_le _) rfl (Nat.le_refl _) rfl H _ ls hP hD hS (lv_sub hl [1, 0, 3, 4, 5, 2] rfl)
theorem d_P_dropWithin_0 : decode prog_5_method_7_code 0 = .ok (.iconst 0, 1) := by decide +kernel
theorem d_P_dropWithin_1 : decode prog_5_method_7_code 1 = .ok (.istore 6, 2) := by decide +kernel
theorem d_P_dropWithin_3 : decode prog_5_method_7_code 3 = .ok (.iconst 0, 1) := by decide +kernel
theorem d_P_dropWithin_4 : decode prog_5_method_7_code 4 = .ok (.istore 7, 2) := by decide +kernel
theorem d_P_dropWithin_6 : decode prog_5_method_7_code 6 = .ok (.iload 7, 2) := by decide +kernel
theorem d_P_dropWithin_8 : decode prog_5_method_7_code 8 = .ok (.aload_n 0, 1) := by decide +kernel
theorem d_P_dropWithin_9 : decode prog_5_method_7_code 9 = .ok (.getfield 20, 3) := by decide +kernel
theorem d_P_dropWithin_12 : decode prog_5_method_7_code 12 = .ok (.if_icmp .ge 52, 3) := by decide +kernel
theorem d_P_dropWithin_64 : decode prog_5_method_7_code 64 = .ok (.aload_n 0, 1) := by decide +kernel
theorem d_P_dropWithin_65 : decode prog_5_method_7_code 65 = .ok (.iload 6, 2) := by decide +kernel
theorem d_P_dropWithin_67 : decode prog_5_method_7_code 67 = .ok (.putfield 20, 3) := by decide +kernel
theorem d_P_dropWithin_70 : decode prog_5_method_7_code 70 = .ok (.return_, 1) := by decide +kernel
theorem d_P_dropWithin_15 : decode prog_5_method_7_code 15 = .ok (.aload_n 0, 1) := by decide +kernel
theorem d_P_dropWithin_16 : decode prog_5_method_7_code 16 = .ok (.iload 7, 2) := by decide +kernel
theorem d_P_dropWithin_18 : decode prog_5_method_7_code 18 = .ok (.iload_n 1, 1) := by decide +kernel
theorem d_P_dropWithin_19 : decode prog_5_method_7_code 19 = .ok (.lload_n 2, 1) := by decide +kernel
theorem d_P_dropWithin_20 : decode prog_5_method_7_code 20 = .ok (.lload 4, 2) := by decide +kernel
theorem d_P_dropWithin_22 : decode prog_5_method_7_code 22 = .ok (.invokevirtual 37, 3) := by decide +kernel
theorem d_P_dropWithin_25 : decode prog_5_method_7_code 25 = .ok (.ifCond .ne 33, 3) := by decide +kernel
theorem d_P_dropWithin_58 : decode prog_5_method_7_code 58 = .ok (.iinc 7 1, 3) := by decide +kernel
theorem d_P_dropWithin_61 : decode prog_5_method_7_code 61 = .ok (.goto (-55), 3) := by decide +kernel
theorem d_P_dropWithin_28 : decode prog_5_method_7_code 28 = .ok (.aload_n 0, 1) := by decide +kernel
theorem d_P_dropWithin_29 : decode prog_5_method_7_code 29 = .ok (.iload 6, 2) := by decide +kernel
theorem d_P_dropWithin_31 : decode prog_5_method_7_code 31 = .ok (.aload_n 0, 1) := by decide +kernel
theorem d_P_dropWithin_32 : decode prog_5_method_7_code 32 = .ok (.getfield 7, 3) := by decide +kernel
theorem d_P_dropWithin_35 : decode prog_5_method_7_code 35 = .ok (.iload 7, 2) := by decide +kernel
theorem d_P_dropWithin_37 : decode prog_5_method_7_code 37 = .ok (.iaload, 1) := by decide +kernel
theorem d_P_dropWithin_38 : decode prog_5_method_7_code 38 = .ok (.aload_n 0, 1) := by decide +kernel
theorem d_P_dropWithin_39 : decode prog_5_method_7_code 39 = .ok (.getfield 13, 3) := by decide +kernel
theorem d_P_dropWithin_42 : decode prog_5_method_7_code 42 = .ok (.iload 7, 2) := by decide +kernel
theorem d_P_dropWithin_44 : decode prog_5_method_7_code 44 = .ok (.laload, 1) := by decide +kernel
theorem d_P_dropWithin_45 : decode prog_5_method_7_code 45 = .ok (.aload_n 0, 1) := by decide +kernel
theorem d_P_dropWithin_46 : decode prog_5_method_7_code 46 = .ok (.getfield 17, 3) := by decide +kernel
theorem d_P_dropWithin_49 : decode prog_5_method_7_code 49 = .ok (.iload 7, 2) := by decide +kernel
theorem d_P_dropWithin_51 : decode prog_5_method_7_code 51 = .ok (.laload, 1) := by decide +kernel
theorem d_P_dropWithin_52 : decode prog_5_method_7_code 52 = .ok (.invokevirtual 33, 3) := by decide +kernel
theorem d_P_dropWithin_55 : decode prog_5_method_7_code 55 = .ok (.iinc 6 1, 3) := by decide +kernel
set_option maxHeartbeats 4000000 in
set_option maxRecDepth 100000 in
theorem v_dropWithin (l : Launch) (D : va_G) (dA : Nat → ClassId) (sz : Nat) (h : Nat) (ad : Nat → Nat) (x : VS) (w : Nat) (a : Int64) (b : Int64) (h0 : x.hsize ≤ x.hN) (h9 : x.hN ≤ 65536) (h8 : w < 2 ^ 31) (h7 : ∀ q : Nat, q < x.hsize → x.hO q < 2 ^ 31) : Met l ⟨"SeriesVault$Points", "dropWithin", "(IJJ)V"⟩ [Cond.code ⟨"SeriesVault$Points", "dropWithin", "(IJJ)V"⟩ prog_5_method_7_code 8 none] { frames := 2, cells := 0, slots := 0, locals := 26 } (pC D dA [.ref (ad 1), .int (nI w), .long a, .long b] (VW dA h ad x) sz) (va_Qv (fun (u9 : Unit) => True) (fun (u9 : Unit) t9 => bW D (va_A (VW dA h ad x) sz) (VW dA h ad (VS.s_hsize (VS.s_hV (VS.s_hT (VS.s_hO x (tdT (x.hWn w a b) x.hO x.hsize)) (tdT (x.hWn w a b) x.hT x.hsize)) (tdT (x.hWn w a b) x.hV x.hsize)) (cnt x.hsize (x.hWn w a b)))) t9) (va_A (VW dA h ad x) sz)) 0 0 (va_A (VW dA h ad x) sz) := by
  refine mkC (y := ⟨"SeriesVault$Points", "dropWithin", "(IJJ)V"⟩) (cc := prog_5_method_7_code) (maxL := 8) (av := [.ref (ad 1), .int (nI w), .long a, .long b]) (ws := VW dA h ad x) (sz := sz) (Qc := fun A => va_Qv (fun (u9 : Unit) => True) (fun (u9 : Unit) t9 => bW D A (VW dA h ad (VS.s_hsize (VS.s_hV (VS.s_hT (VS.s_hO x (tdT (x.hWn w a b) x.hO x.hsize)) (tdT (x.hWn w a b) x.hT x.hsize)) (tdT (x.hWn w a b) x.hV x.hsize)) (cnt x.hsize (x.hWn w a b)))) t9) A) (by decide) (Nat.le_of_ble_eq_true rfl) ?_
  intro A p e s m below meth c ls hsz hB
  obtain ⟨hx, hb, hr, hml, hown, hin, hlk, hE, hK, hP, hD, hS, hA, hN, hl⟩ := hB
  have hown : s.vm.findClass "SeriesVault$Points" = some m.cls := hown
  have hl : lv_has ls 8 [(0, .ref (ad 1)), (1, .int (nI w)), (2, .long a), (4, .long b)] := hl
  obtain ⟨H, hH⟩ : ∃ z, z = s.heap := ⟨_, rfl⟩
  have hP : va_P D vwCl (VW dA h ad x) H := by rw [hH]; exact hP
  have hS : va_S A s.heap H [] := by rw [hH]; exact hS
  rw [← hH]
  refine lv_iconst (v := 0) hx hb d_P_dropWithin_0 (by decide) ?_
  refine lv_istore hx hb d_P_dropWithin_1 hl (by decide) rfl (fun ls hl => ?_)
  have hl : lv_has ls 8 [(6, .int 0), (0, .ref (ad 1)), (1, .int (nI w)), (2, .long a), (4, .long b)] := hl
  refine lv_iconst (v := 0) hx hb d_P_dropWithin_3 (by decide) ?_
  refine lv_istore hx hb d_P_dropWithin_4 hl (by decide) rfl (fun ls hl => ?_)
  have hl : lv_has ls 8 [(7, .int 0), (6, .int 0), (0, .ref (ad 1)), (1, .int (nI w)), (2, .long a), (4, .long b)] := hl
  have L6 : ∀ (k9 : Nat) (q : Nat) (n : Nat) (i1 : q ≤ x.hsize) (i2 : n = cnt q (x.hWn w a b)) (i3 : n ≤ q) (hk9 : x.hsize - q = k9), ∀ (H : Heap) (locs : List Loc) (ls : Array Slot) (hP : va_P D vwCl (VW dA h ad (VS.s_hV (VS.s_hT (VS.s_hO x (tdT (x.hWn w a b) x.hO q)) (tdT (x.hWn w a b) x.hT q)) (tdT (x.hWn w a b) x.hV q))) H) (hD : va_D A (VW dA h ad (VS.s_hV (VS.s_hT (VS.s_hO x (tdT (x.hWn w a b) x.hO q)) (tdT (x.hWn w a b) x.hT q)) (tdT (x.hWn w a b) x.hV q)))) (hS : va_S A s.heap H locs) (hl : lv_has ls 8 [(6, .int (nI n)), (7, .int (nI q)), (1, .int (nI w)), (2, .long a), (4, .long b), (0, .ref (ad 1))]), W p l e ({ frames := 2, cells := 0, slots := 0, locals := 26 } : Room) s m ([.ref (ad 1), .int (nI w), .long a, .long b] : List Value).toArray below meth c H locs 0 0 (MQ below (va_Qv (fun (u9 : Unit) => True) (fun (u9 : Unit) t9 => bW D A (VW dA h ad (VS.s_hsize (VS.s_hV (VS.s_hT (VS.s_hO x (tdT (x.hWn w a b) x.hO x.hsize)) (tdT (x.hWn w a b) x.hT x.hsize)) (tdT (x.hWn w a b) x.hV x.hsize)) (cnt x.hsize (x.hWn w a b)))) t9) A) ([.ref (ad 1), .int (nI w), .long a, .long b] : List Value).toArray s 0 0 A) (F0 m 6 ls []) := by
    intro k9
    induction k9 using Nat.strongRecOn with
    | ind k9 ih6 =>
      intro q n i1 i2 i3 hk9 H locs ls hP hD hS hl
      refine lv_iload hx hb d_P_dropWithin_6 (lv_at hl 1 rfl) ?_
      refine lv_aload_n hx hb d_P_dropWithin_8 rfl (lv_at hl 5 rfl) ?_
      refine gF (v := .int (nI x.hsize)) hx hb hown hE hK hP 9 rfl rfl layP 3 (by decide) w565 rfl d_P_dropWithin_9 ?_
      refine lv_icmp_ge hx hb d_P_dropWithin_12 (tgt := 64) rfl (fun g1 => ?_) (fun g1 => ?_)
      · have g1 := (nI_leI (a := x.hsize) (b := q) (by omega) (by omega)).mp g1
        refine lv_aload_n hx hb d_P_dropWithin_64 rfl (lv_at hl 5 rfl) ?_
        refine lv_iload hx hb d_P_dropWithin_65 (lv_at hl 0 rfl) ?_
        refine pF (v := .int (nI n)) hx hb hown hE hK hP hD hS 9 rfl rfl layP tyP tokP nmP 3 (by decide) w565 rfl rfl rfl (Nat.le_of_ble_eq_true rfl) d_P_dropWithin_67 (fun H locs hP hD hS => ?_)
        have hP : va_P D vwCl (VW dA h ad (VS.s_hsize (VS.s_hV (VS.s_hT (VS.s_hO x (tdT (x.hWn w a b) x.hO q)) (tdT (x.hWn w a b) x.hT q)) (tdT (x.hWn w a b) x.hV q)) n)) H := hP
        have hD : va_D A (VW dA h ad (VS.s_hsize (VS.s_hV (VS.s_hT (VS.s_hO x (tdT (x.hWn w a b) x.hO q)) (tdT (x.hWn w a b) x.hT q)) (tdT (x.hWn w a b) x.hV q)) n)) := hD
        have e9 : (VS.s_hsize (VS.s_hV (VS.s_hT (VS.s_hO x (tdT (x.hWn w a b) x.hO q)) (tdT (x.hWn w a b) x.hT q)) (tdT (x.hWn w a b) x.hV q)) n : VS) = VS.s_hsize (VS.s_hV (VS.s_hT (VS.s_hO x (tdT (x.hWn w a b) x.hO x.hsize)) (tdT (x.hWn w a b) x.hT x.hsize)) (tdT (x.hWn w a b) x.hV x.hsize)) (cnt x.hsize (x.hWn w a b)) := by rw [show (tdT (x.hWn w a b) x.hO x.hsize) = (tdT (x.hWn w a b) x.hO q) from by (rw [show x.hsize = q by omega]), show (tdT (x.hWn w a b) x.hT x.hsize) = (tdT (x.hWn w a b) x.hT q) from by (rw [show x.hsize = q by omega]), show (tdT (x.hWn w a b) x.hV x.hsize) = (tdT (x.hWn w a b) x.hV q) from by (rw [show x.hsize = q by omega]), show (cnt x.hsize (x.hWn w a b)) = n from by (rw [i2, show x.hsize = q by omega])] <;> rfl
        exact rfV hx hb hr hlk hS () trivial (cvPv e9 hP) (cvDv e9 hD) (Nat.le_of_ble_eq_true rfl) (Nat.le_of_ble_eq_true rfl) d_P_dropWithin_70
      · have g1 := mt (nI_leI (a := x.hsize) (b := q) (by omega) (by omega)).mpr g1
        refine lv_aload_n hx hb d_P_dropWithin_15 rfl (lv_at hl 5 rfl) ?_
        refine lv_iload hx hb d_P_dropWithin_16 (lv_at hl 1 rfl) ?_
        refine lv_iload_n hx hb d_P_dropWithin_18 rfl (lv_at hl 2 rfl) ?_
        refine lv_lload_n hx hb d_P_dropWithin_19 rfl (lv_at hl 3 rfl) ?_
        refine lv_lload hx hb d_P_dropWithin_20 (lv_at hl 4 rfl) ?_
        refine jfI (rnV (As := [.int (nI q), .int (nI w), .long a, .long b]) (rest := []) hx hb hml hown hE hK (hN _ _ hS) hP hD (v_isWithin l D dA H.size h ad (VS.s_hV (VS.s_hT (VS.s_hO x (tdT (x.hWn w a b) x.hO q)) (tdT (x.hWn w a b) x.hT q)) (tdT (x.hWn w a b) x.hV q)) q w a b (show q < x.hN from by omega) (show x.hN ≤ 65536 from by omega) (show w < 2 ^ 31 from by omega) (show tdT (x.hWn w a b) x.hO q q < 2 ^ 31 by rw [tdT_at (x.hWn w a b) _ (Nat.le_refl q)]; exact h7 q (by omega))) (q0 := 9) rfl rfl w1090 w1089 w1091 w1092 w578 rfl rfl ⟨⟨by decide, by decide⟩, rfl⟩ ⟨(Nat.le_of_ble_eq_true rfl), (Nat.le_of_ble_eq_true rfl)⟩ rfl hl.1 rfl (Nat.le_of_ble_eq_true rfl) d_P_dropWithin_22 ⟨(Nat.le_of_ble_eq_true rfl), (Nat.le_of_ble_eq_true rfl)⟩) hP hD hS hA (fun r2 u3 H locs hp9 hP hD hS => ?_)
        have hP : va_P D vwCl (VW dA h ad (VS.s_hV (VS.s_hT (VS.s_hO x (tdT (x.hWn w a b) x.hO q)) (tdT (x.hWn w a b) x.hT q)) (tdT (x.hWn w a b) x.hV q))) H := hP
        have hD : va_D A (VW dA h ad (VS.s_hV (VS.s_hT (VS.s_hO x (tdT (x.hWn w a b) x.hO q)) (tdT (x.hWn w a b) x.hT q)) (tdT (x.hWn w a b) x.hV q))) := hD
        replace hp9 : bI ((VS.s_hT (VS.s_hO x (tdT (x.hWn w a b) x.hO q)) (tdT (x.hWn w a b) x.hT q)).hW w a b q) = r2 := Eq.symm hp9
        subst hp9
        refine tpi (y := bI (x.hW w a b q)) (congrArg bI (show (decide (tdT (x.hWn w a b) x.hO q q = w) && (!decide (tdT (x.hWn w a b) x.hT q q < a) && !decide (b < tdT (x.hWn w a b) x.hT q q))) = x.hW w a b q by rw [tdT_at (x.hWn w a b) _ (Nat.le_refl q), tdT_at (x.hWn w a b) _ (Nat.le_refl q)]; rfl)) ?_
        refine lv_if_ne hx hb d_P_dropWithin_25 (tgt := 58) rfl (fun g4 => ?_) (fun g4 => ?_)
        · have g4 := bI_n0 g4
          refine lv_iinc (k := 1) (v := nI (q + 1)) hx hb d_P_dropWithin_58 hl rfl (iincN (q) 1 1 (by decide)) (by decide) rfl (fun ls hl => ?_)
          have hl : lv_has ls 8 [(7, .int (nI (q + 1))), (6, .int (nI n)), (1, .int (nI w)), (2, .long a), (4, .long b), (0, .ref (ad 1))] := hl
          refine lv_goto hx hb d_P_dropWithin_61 (tgt := 6) rfl ?_
          have e9 : (VS.s_hV (VS.s_hT (VS.s_hO x (tdT (x.hWn w a b) x.hO q)) (tdT (x.hWn w a b) x.hT q)) (tdT (x.hWn w a b) x.hV q) : VS) = VS.s_hV (VS.s_hT (VS.s_hO x (tdT (x.hWn w a b) x.hO (q + 1))) (tdT (x.hWn w a b) x.hT (q + 1))) (tdT (x.hWn w a b) x.hV (q + 1)) := by rw [show (tdT (x.hWn w a b) x.hO (q + 1)) = (tdT (x.hWn w a b) x.hO q) from (tdT_f (c := x.hWn w a b) (show x.hWn w a b q = false by show (!x.hW w a b q) = false; rw [g4]; rfl)), show (tdT (x.hWn w a b) x.hT (q + 1)) = (tdT (x.hWn w a b) x.hT q) from (tdT_f (c := x.hWn w a b) (show x.hWn w a b q = false by show (!x.hW w a b q) = false; rw [g4]; rfl)), show (tdT (x.hWn w a b) x.hV (q + 1)) = (tdT (x.hWn w a b) x.hV q) from (tdT_f (c := x.hWn w a b) (show x.hWn w a b q = false by show (!x.hW w a b q) = false; rw [g4]; rfl))] <;> rfl
          exact ih6 _ (by omega) (q + 1) n (by omega) (by rw [cnt_f (show x.hWn w a b q = false by show (!x.hW w a b q) = false; rw [g4]; rfl), i2]) (by omega) rfl H _ ls (cvPv e9 hP) (cvDv e9 hD) hS (lv_sub hl [1, 0, 2, 3, 4, 5] rfl)
        · have g4 := bI_0 g4
          refine lv_aload_n hx hb d_P_dropWithin_28 rfl (lv_at hl 5 rfl) ?_
          refine lv_iload hx hb d_P_dropWithin_29 (lv_at hl 0 rfl) ?_
          refine lv_aload_n hx hb d_P_dropWithin_31 rfl (lv_at hl 5 rfl) ?_
          refine gF (v := .ref (x.hA 0)) hx hb hown hE hK hP 9 rfl rfl layP 0 (by decide) w185 rfl d_P_dropWithin_32 ?_
          refine lv_iload hx hb d_P_dropWithin_35 (lv_at hl 1 rfl) ?_
          refine nild (f := (fun z9 => nI ((tdT (x.hWn w a b) x.hO q) z9))) (n := x.hN) hx hb hK hP 10 1 rfl rfl (q) (by omega) (by omega) d_P_dropWithin_37 ?_
          refine tpi (y := nI (x.hO q)) (congrArg nI (tdT_at _ _ (Nat.le_refl q))) ?_
          refine lv_aload_n hx hb d_P_dropWithin_38 rfl (lv_at hl 5 rfl) ?_
          refine gF (v := .ref (x.hA 1)) hx hb hown hE hK hP 9 rfl rfl layP 1 (by decide) w187 rfl d_P_dropWithin_39 ?_
          refine lv_iload hx hb d_P_dropWithin_42 (lv_at hl 1 rfl) ?_
          refine nlld (f := (tdT (x.hWn w a b) x.hT q)) (n := x.hN) hx hb hK hP 11 2 rfl rfl (q) (by omega) (by omega) d_P_dropWithin_44 ?_
          refine tpl (y := (x.hT q)) (tdT_at _ _ (Nat.le_refl q)) ?_
          refine lv_aload_n hx hb d_P_dropWithin_45 rfl (lv_at hl 5 rfl) ?_
          refine gF (v := .ref (x.hA 2)) hx hb hown hE hK hP 9 rfl rfl layP 2 (by decide) w188 rfl d_P_dropWithin_46 ?_
          refine lv_iload hx hb d_P_dropWithin_49 (lv_at hl 1 rfl) ?_
          refine nlld (f := (tdT (x.hWn w a b) x.hV q)) (n := x.hN) hx hb hK hP 12 2 rfl rfl (q) (by omega) (by omega) d_P_dropWithin_51 ?_
          refine tpl (y := (x.hV q)) (tdT_at _ _ (Nat.le_refl q)) ?_
          refine jfV (rnV (As := [.int (nI n), .int (nI (x.hO q)), .long (x.hT q), .long (x.hV q)]) (rest := []) hx hb hml hown hE hK (hN _ _ hS) hP hD (v_pset_h l D dA H.size h ad (VS.s_hV (VS.s_hT (VS.s_hO x (tdT (x.hWn w a b) x.hO q)) (tdT (x.hWn w a b) x.hT q)) (tdT (x.hWn w a b) x.hV q)) n (x.hO q) (x.hT q) (x.hV q) (show n < x.hN from by omega) (show x.hN ≤ 65536 from by omega)) (q0 := 9) rfl rfl w1086 w1085 w1087 w1088 w578 rfl rfl ⟨⟨by decide, by decide⟩, rfl⟩ ⟨(Nat.le_of_ble_eq_true rfl), (Nat.le_of_ble_eq_true rfl)⟩ rfl hl.1 rfl (Nat.le_of_ble_eq_true rfl) d_P_dropWithin_52 ⟨(Nat.le_of_ble_eq_true rfl), (Nat.le_of_ble_eq_true rfl)⟩) hP hD hS hA (fun u6 H locs hp9 hP hD hS => ?_)
          have hP : va_P D vwCl (VW dA h ad (VS.s_hV (VS.s_hT (VS.s_hO x (va_up (tdT (x.hWn w a b) x.hO q) n (x.hO q))) (va_up (tdT (x.hWn w a b) x.hT q) n (x.hT q))) (va_up (tdT (x.hWn w a b) x.hV q) n (x.hV q)))) H := hP
          have hD : va_D A (VW dA h ad (VS.s_hV (VS.s_hT (VS.s_hO x (va_up (tdT (x.hWn w a b) x.hO q) n (x.hO q))) (va_up (tdT (x.hWn w a b) x.hT q) n (x.hT q))) (va_up (tdT (x.hWn w a b) x.hV q) n (x.hV q)))) := hD
          refine lv_iinc (k := 0) (v := nI (n + 1)) hx hb d_P_dropWithin_55 hl rfl (iincN (n) 1 1 (by decide)) (by decide) rfl (fun ls hl => ?_)
          have hl : lv_has ls 8 [(6, .int (nI (n + 1))), (7, .int (nI q)), (1, .int (nI w)), (2, .long a), (4, .long b), (0, .ref (ad 1))] := hl
          refine lv_iinc (k := 1) (v := nI (q + 1)) hx hb d_P_dropWithin_58 hl rfl (iincN (q) 1 1 (by decide)) (by decide) rfl (fun ls hl => ?_)
          have hl : lv_has ls 8 [(7, .int (nI (q + 1))), (6, .int (nI (n + 1))), (1, .int (nI w)), (2, .long a), (4, .long b), (0, .ref (ad 1))] := hl
          refine lv_goto hx hb d_P_dropWithin_61 (tgt := 6) rfl ?_
          have e9 : (VS.s_hV (VS.s_hT (VS.s_hO x (va_up (tdT (x.hWn w a b) x.hO q) n (x.hO q))) (va_up (tdT (x.hWn w a b) x.hT q) n (x.hT q))) (va_up (tdT (x.hWn w a b) x.hV q) n (x.hV q)) : VS) = VS.s_hV (VS.s_hT (VS.s_hO x (tdT (x.hWn w a b) x.hO (q + 1))) (tdT (x.hWn w a b) x.hT (q + 1))) (tdT (x.hWn w a b) x.hV (q + 1)) := by rw [show (tdT (x.hWn w a b) x.hO (q + 1)) = (va_up (tdT (x.hWn w a b) x.hO q) n (x.hO q)) from (by rw [tdT_t (c := x.hWn w a b) (show x.hWn w a b q = true by show (!x.hW w a b q) = true; rw [g4]; rfl) rfl, i2]), show (tdT (x.hWn w a b) x.hT (q + 1)) = (va_up (tdT (x.hWn w a b) x.hT q) n (x.hT q)) from (by rw [tdT_t (c := x.hWn w a b) (show x.hWn w a b q = true by show (!x.hW w a b q) = true; rw [g4]; rfl) rfl, i2]), show (tdT (x.hWn w a b) x.hV (q + 1)) = (va_up (tdT (x.hWn w a b) x.hV q) n (x.hV q)) from (by rw [tdT_t (c := x.hWn w a b) (show x.hWn w a b q = true by show (!x.hW w a b q) = true; rw [g4]; rfl) rfl, i2])] <;> rfl
          exact ih6 _ (by omega) (q + 1) (n + 1) (by omega) (by rw [cnt_t (show x.hWn w a b q = true by show (!x.hW w a b q) = true; rw [g4]; rfl), i2]) (by omega) rfl H _ ls (cvPv e9 hP) (cvDv e9 hD) hS (lv_sub hl [1, 0, 2, 3, 4, 5] rfl)
  have e9 : (x : VS) = VS.s_hV (VS.s_hT (VS.s_hO x (tdT (x.hWn w a b) x.hO 0)) (tdT (x.hWn w a b) x.hT 0)) (tdT (x.hWn w a b) x.hV 0) := by rw [show (tdT (x.hWn w a b) x.hO 0) = x.hO from rfl, show (tdT (x.hWn w a b) x.hT 0) = x.hT from rfl, show (tdT (x.hWn w a b) x.hV 0) = x.hV from rfl] <;> rfl
  exact L6 _ 0 0 (Nat.zero_le _) rfl (Nat.le_refl _) rfl H _ ls (cvPv e9 hP) (cvDv e9 hD) hS (lv_sub hl [1, 0, 3, 4, 5, 2] rfl)
theorem d_P_countBelow_14 : decode prog_5_method_8_code 14 = .ok (.aload_n 0, 1) := by decide +kernel
theorem d_P_countBelow_15 : decode prog_5_method_8_code 15 = .ok (.getfield 13, 3) := by decide +kernel
theorem d_P_countBelow_18 : decode prog_5_method_8_code 18 = .ok (.iload 4, 2) := by decide +kernel
theorem d_P_countBelow_20 : decode prog_5_method_8_code 20 = .ok (.laload, 1) := by decide +kernel
theorem d_P_countBelow_21 : decode prog_5_method_8_code 21 = .ok (.lload_n 1, 1) := by decide +kernel
theorem d_P_countBelow_22 : decode prog_5_method_8_code 22 = .ok (.lcmp, 1) := by decide +kernel
theorem d_P_countBelow_23 : decode prog_5_method_8_code 23 = .ok (.ifCond .ge 6, 3) := by decide +kernel
theorem d_P_countBelow_29 : decode prog_5_method_8_code 29 = .ok (.iinc 4 1, 3) := by decide +kernel
theorem d_P_countBelow_32 : decode prog_5_method_8_code 32 = .ok (.goto (-27), 3) := by decide +kernel
theorem d_P_countBelow_26 : decode prog_5_method_8_code 26 = .ok (.iinc 3 1, 3) := by decide +kernel
set_option maxHeartbeats 4000000 in
set_option maxRecDepth 100000 in
theorem v_countBelow (l : Launch) (D : va_G) (dA : Nat → ClassId) (sz : Nat) (h : Nat) (ad : Nat → Nat) (x : VS) (a : Int64) (h0 : x.hsize ≤ x.hN) (h9 : x.hN ≤ 65536) : Met l ⟨"SeriesVault$Points", "countBelow", "(J)I"⟩ [Cond.code ⟨"SeriesVault$Points", "countBelow", "(J)I"⟩ prog_5_method_8_code 5 (some FieldType.int)] { frames := 1, cells := 0, slots := 0, locals := 0 } (pC D dA [.ref (ad 1), .long a] (VW dA h ad x) sz) (va_Qi (fun (r9 : Int32) (u9 : Unit) => r9 = nI (cnt x.hsize (x.hBl a))) (fun (u9 : Unit) t9 => bW D (va_A (VW dA h ad x) sz) (VW dA h ad x) t9) (va_A (VW dA h ad x) sz)) 0 0 (va_A (VW dA h ad x) sz) := by
  refine mkC (y := ⟨"SeriesVault$Points", "countBelow", "(J)I"⟩) (cc := prog_5_method_8_code) (maxL := 5) (av := [.ref (ad 1), .long a]) (ws := VW dA h ad x) (sz := sz) (Qc := fun A => va_Qi (fun (r9 : Int32) (u9 : Unit) => r9 = nI (cnt x.hsize (x.hBl a))) (fun (u9 : Unit) t9 => bW D A (VW dA h ad x) t9) A) (by decide) (Nat.le_of_ble_eq_true rfl) ?_
  intro A p e s m below meth c ls hsz hB
  obtain ⟨hx, hb, hr, hml, hown, hin, hlk, hE, hK, hP, hD, hS, hA, hN, hl⟩ := hB
  have hown : s.vm.findClass "SeriesVault$Points" = some m.cls := hown
  have hl : lv_has ls 5 [(0, .ref (ad 1)), (1, .long a)] := hl
  obtain ⟨H, hH⟩ : ∃ z, z = s.heap := ⟨_, rfl⟩
  have hP : va_P D vwCl (VW dA h ad x) H := by rw [hH]; exact hP
  have hS : va_S A s.heap H [] := by rw [hH]; exact hS
  rw [← hH]
  refine lv_iconst (v := 0) hx hb d_P_countBelow_0 (by decide) ?_
  refine lv_istore_n hx hb d_P_countBelow_1 rfl hl (by decide) rfl (fun ls hl => ?_)
  have hl : lv_has ls 5 [(3, .int 0), (0, .ref (ad 1)), (1, .long a)] := hl
  refine lv_iconst (v := 0) hx hb d_P_countBelow_2 (by decide) ?_
  refine lv_istore hx hb d_P_countBelow_3 hl (by decide) rfl (fun ls hl => ?_)
  have hl : lv_has ls 5 [(4, .int 0), (3, .int 0), (0, .ref (ad 1)), (1, .long a)] := hl
  have L5 : ∀ (k9 : Nat) (q : Nat) (n : Nat) (i1 : q ≤ x.hsize) (i2 : n = cnt q (x.hBl a)) (i3 : n ≤ q) (hk9 : x.hsize - q = k9), ∀ (H : Heap) (locs : List Loc) (ls : Array Slot) (hP : va_P D vwCl (VW dA h ad x) H) (hD : va_D A (VW dA h ad x)) (hS : va_S A s.heap H locs) (hl : lv_has ls 5 [(3, .int (nI n)), (4, .int (nI q)), (1, .long a), (0, .ref (ad 1))]), W p l e ({ frames := 1, cells := 0, slots := 0, locals := 0 } : Room) s m ([.ref (ad 1), .long a] : List Value).toArray below meth c H locs 0 0 (MQ below (va_Qi (fun (r9 : Int32) (u9 : Unit) => r9 = nI (cnt x.hsize (x.hBl a))) (fun (u9 : Unit) t9 => bW D A (VW dA h ad x) t9) A) ([.ref (ad 1), .long a] : List Value).toArray s 0 0 A) (F0 m 5 ls []) := by
    intro k9
    induction k9 using Nat.strongRecOn with
    | ind k9 ih5 =>
      intro q n i1 i2 i3 hk9 H locs ls hP hD hS hl
      refine lv_iload hx hb d_P_countBelow_5 (lv_at hl 1 rfl) ?_
      refine lv_aload_n hx hb d_P_countBelow_7 rfl (lv_at hl 3 rfl) ?_
      refine gF (v := .int (nI x.hsize)) hx hb hown hE hK hP 9 rfl rfl layP 3 (by decide) w565 rfl d_P_countBelow_8 ?_
      refine lv_icmp_ge hx hb d_P_countBelow_11 (tgt := 35) rfl (fun g1 => ?_) (fun g1 => ?_)
      · have g1 := (nI_leI (a := x.hsize) (b := q) (by omega) (by omega)).mp g1
        refine lv_iload_n hx hb d_P_countBelow_35 rfl (lv_at hl 0 rfl) ?_
        exact rfI hx hb hr hlk hS () (by rw [i2, show q = x.hsize by omega]) hP hD (Nat.le_of_ble_eq_true rfl) (Nat.le_of_ble_eq_true rfl) d_P_countBelow_36
      · have g1 := mt (nI_leI (a := x.hsize) (b := q) (by omega) (by omega)).mpr g1
        refine lv_aload_n hx hb d_P_countBelow_14 rfl (lv_at hl 3 rfl) ?_
        refine gF (v := .ref (x.hA 1)) hx hb hown hE hK hP 9 rfl rfl layP 1 (by decide) w187 rfl d_P_countBelow_15 ?_
        refine lv_iload hx hb d_P_countBelow_18 (lv_at hl 1 rfl) ?_
        refine nlld (f := x.hT) (n := x.hN) hx hb hK hP 11 2 rfl rfl (q) (by omega) (by omega) d_P_countBelow_20 ?_
        refine lv_lload_n hx hb d_P_countBelow_21 rfl (lv_at hl 2 rfl) ?_
        refine W.lcmp hx hb d_P_countBelow_22 ?_
        refine lv_if_ge hx hb d_P_countBelow_23 (tgt := 29) rfl (fun g2 => ?_) (fun g2 => ?_)
        · have g2 := (lg_cmp_ge _ _).mp g2
          refine lv_iinc (k := 1) (v := nI (q + 1)) hx hb d_P_countBelow_29 hl rfl (iincN (q) 1 1 (by decide)) (by decide) rfl (fun ls hl => ?_)
          have hl : lv_has ls 5 [(4, .int (nI (q + 1))), (3, .int (nI n)), (1, .long a), (0, .ref (ad 1))] := hl
          refine lv_goto hx hb d_P_countBelow_32 (tgt := 5) rfl ?_
          exact ih5 _ (by omega) (q + 1) n (by omega) (by rw [cnt_f (show x.hBl a q = false by show (!decide _) = false; rw [decide_eq_true g2]; rfl), i2]) (by omega) rfl H _ ls hP hD hS (lv_sub hl [1, 0, 2, 3] rfl)
        · have g2 := mt (lg_cmp_ge _ _).mpr g2
          refine lv_iinc (k := 0) (v := nI (n + 1)) hx hb d_P_countBelow_26 hl rfl (iincN (n) 1 1 (by decide)) (by decide) rfl (fun ls hl => ?_)
          have hl : lv_has ls 5 [(3, .int (nI (n + 1))), (4, .int (nI q)), (1, .long a), (0, .ref (ad 1))] := hl
          refine lv_iinc (k := 1) (v := nI (q + 1)) hx hb d_P_countBelow_29 hl rfl (iincN (q) 1 1 (by decide)) (by decide) rfl (fun ls hl => ?_)
          have hl : lv_has ls 5 [(4, .int (nI (q + 1))), (3, .int (nI (n + 1))), (1, .long a), (0, .ref (ad 1))] := hl
          refine lv_goto hx hb d_P_countBelow_32 (tgt := 5) rfl ?_
          exact ih5 _ (by omega) (q + 1) (n + 1) (by omega) (by rw [cnt_t (show x.hBl a q = true by show (!decide _) = true; rw [decide_eq_false g2]; rfl), i2]) (by omega) rfl H _ ls hP hD hS (lv_sub hl [1, 0, 2, 3] rfl)
  exact L5 _ 0 0 (Nat.zero_le _) rfl (Nat.le_refl _) rfl H _ ls hP hD hS (lv_sub hl [1, 0, 3, 2] rfl)
theorem d_P_dropBelow_14 : decode prog_5_method_9_code 14 = .ok (.aload_n 0, 1) := by decide +kernel
theorem d_P_dropBelow_15 : decode prog_5_method_9_code 15 = .ok (.getfield 13, 3) := by decide +kernel
theorem d_P_dropBelow_18 : decode prog_5_method_9_code 18 = .ok (.iload 4, 2) := by decide +kernel
theorem d_P_dropBelow_20 : decode prog_5_method_9_code 20 = .ok (.laload, 1) := by decide +kernel
theorem d_P_dropBelow_21 : decode prog_5_method_9_code 21 = .ok (.lload_n 1, 1) := by decide +kernel
theorem d_P_dropBelow_22 : decode prog_5_method_9_code 22 = .ok (.lcmp, 1) := by decide +kernel
theorem d_P_dropBelow_23 : decode prog_5_method_9_code 23 = .ok (.ifCond .lt 32, 3) := by decide +kernel
theorem d_P_dropBelow_55 : decode prog_5_method_9_code 55 = .ok (.iinc 4 1, 3) := by decide +kernel
theorem d_P_dropBelow_58 : decode prog_5_method_9_code 58 = .ok (.goto (-53), 3) := by decide +kernel
theorem d_P_dropBelow_26 : decode prog_5_method_9_code 26 = .ok (.aload_n 0, 1) := by decide +kernel
theorem d_P_dropBelow_27 : decode prog_5_method_9_code 27 = .ok (.iload_n 3, 1) := by decide +kernel
theorem d_P_dropBelow_28 : decode prog_5_method_9_code 28 = .ok (.aload_n 0, 1) := by decide +kernel
theorem d_P_dropBelow_29 : decode prog_5_method_9_code 29 = .ok (.getfield 7, 3) := by decide +kernel
theorem d_P_dropBelow_32 : decode prog_5_method_9_code 32 = .ok (.iload 4, 2) := by decide +kernel
theorem d_P_dropBelow_34 : decode prog_5_method_9_code 34 = .ok (.iaload, 1) := by decide +kernel
theorem d_P_dropBelow_35 : decode prog_5_method_9_code 35 = .ok (.aload_n 0, 1) := by decide +kernel
theorem d_P_dropBelow_36 : decode prog_5_method_9_code 36 = .ok (.getfield 13, 3) := by decide +kernel
theorem d_P_dropBelow_39 : decode prog_5_method_9_code 39 = .ok (.iload 4, 2) := by decide +kernel
theorem d_P_dropBelow_41 : decode prog_5_method_9_code 41 = .ok (.laload, 1) := by decide +kernel
theorem d_P_dropBelow_42 : decode prog_5_method_9_code 42 = .ok (.aload_n 0, 1) := by decide +kernel
theorem d_P_dropBelow_43 : decode prog_5_method_9_code 43 = .ok (.getfield 17, 3) := by decide +kernel
theorem d_P_dropBelow_46 : decode prog_5_method_9_code 46 = .ok (.iload 4, 2) := by decide +kernel
theorem d_P_dropBelow_48 : decode prog_5_method_9_code 48 = .ok (.laload, 1) := by decide +kernel
theorem d_P_dropBelow_49 : decode prog_5_method_9_code 49 = .ok (.invokevirtual 33, 3) := by decide +kernel
theorem d_P_dropBelow_52 : decode prog_5_method_9_code 52 = .ok (.iinc 3 1, 3) := by decide +kernel
set_option maxHeartbeats 4000000 in
set_option maxRecDepth 100000 in
theorem v_dropBelow (l : Launch) (D : va_G) (dA : Nat → ClassId) (sz : Nat) (h : Nat) (ad : Nat → Nat) (x : VS) (a : Int64) (h0 : x.hsize ≤ x.hN) (h9 : x.hN ≤ 65536) : Met l ⟨"SeriesVault$Points", "dropBelow", "(J)V"⟩ [Cond.code ⟨"SeriesVault$Points", "dropBelow", "(J)V"⟩ prog_5_method_9_code 5 none] { frames := 2, cells := 0, slots := 0, locals := 26 } (pC D dA [.ref (ad 1), .long a] (VW dA h ad x) sz) (va_Qv (fun (u9 : Unit) => True) (fun (u9 : Unit) t9 => bW D (va_A (VW dA h ad x) sz) (VW dA h ad (VS.s_hsize (VS.s_hV (VS.s_hT (VS.s_hO x (tdT (x.hAb a) x.hO x.hsize)) (tdT (x.hAb a) x.hT x.hsize)) (tdT (x.hAb a) x.hV x.hsize)) (cnt x.hsize (x.hAb a)))) t9) (va_A (VW dA h ad x) sz)) 0 0 (va_A (VW dA h ad x) sz) := by
  refine mkC (y := ⟨"SeriesVault$Points", "dropBelow", "(J)V"⟩) (cc := prog_5_method_9_code) (maxL := 5) (av := [.ref (ad 1), .long a]) (ws := VW dA h ad x) (sz := sz) (Qc := fun A => va_Qv (fun (u9 : Unit) => True) (fun (u9 : Unit) t9 => bW D A (VW dA h ad (VS.s_hsize (VS.s_hV (VS.s_hT (VS.s_hO x (tdT (x.hAb a) x.hO x.hsize)) (tdT (x.hAb a) x.hT x.hsize)) (tdT (x.hAb a) x.hV x.hsize)) (cnt x.hsize (x.hAb a)))) t9) A) (by decide) (Nat.le_of_ble_eq_true rfl) ?_
  intro A p e s m below meth c ls hsz hB
  obtain ⟨hx, hb, hr, hml, hown, hin, hlk, hE, hK, hP, hD, hS, hA, hN, hl⟩ := hB
  have hown : s.vm.findClass "SeriesVault$Points" = some m.cls := hown
  have hl : lv_has ls 5 [(0, .ref (ad 1)), (1, .long a)] := hl
  obtain ⟨H, hH⟩ : ∃ z, z = s.heap := ⟨_, rfl⟩
  have hP : va_P D vwCl (VW dA h ad x) H := by rw [hH]; exact hP
  have hS : va_S A s.heap H [] := by rw [hH]; exact hS
  rw [← hH]
  refine lv_iconst (v := 0) hx hb d_P_dropBelow_0 (by decide) ?_
  refine lv_istore_n hx hb d_P_dropBelow_1 rfl hl (by decide) rfl (fun ls hl => ?_)
  have hl : lv_has ls 5 [(3, .int 0), (0, .ref (ad 1)), (1, .long a)] := hl
  refine lv_iconst (v := 0) hx hb d_P_dropBelow_2 (by decide) ?_
  refine lv_istore hx hb d_P_dropBelow_3 hl (by decide) rfl (fun ls hl => ?_)
  have hl : lv_has ls 5 [(4, .int 0), (3, .int 0), (0, .ref (ad 1)), (1, .long a)] := hl
  have L5 : ∀ (k9 : Nat) (q : Nat) (n : Nat) (i1 : q ≤ x.hsize) (i2 : n = cnt q (x.hAb a)) (i3 : n ≤ q) (hk9 : x.hsize - q = k9), ∀ (H : Heap) (locs : List Loc) (ls : Array Slot) (hP : va_P D vwCl (VW dA h ad (VS.s_hV (VS.s_hT (VS.s_hO x (tdT (x.hAb a) x.hO q)) (tdT (x.hAb a) x.hT q)) (tdT (x.hAb a) x.hV q))) H) (hD : va_D A (VW dA h ad (VS.s_hV (VS.s_hT (VS.s_hO x (tdT (x.hAb a) x.hO q)) (tdT (x.hAb a) x.hT q)) (tdT (x.hAb a) x.hV q)))) (hS : va_S A s.heap H locs) (hl : lv_has ls 5 [(3, .int (nI n)), (4, .int (nI q)), (1, .long a), (0, .ref (ad 1))]), W p l e ({ frames := 2, cells := 0, slots := 0, locals := 26 } : Room) s m ([.ref (ad 1), .long a] : List Value).toArray below meth c H locs 0 0 (MQ below (va_Qv (fun (u9 : Unit) => True) (fun (u9 : Unit) t9 => bW D A (VW dA h ad (VS.s_hsize (VS.s_hV (VS.s_hT (VS.s_hO x (tdT (x.hAb a) x.hO x.hsize)) (tdT (x.hAb a) x.hT x.hsize)) (tdT (x.hAb a) x.hV x.hsize)) (cnt x.hsize (x.hAb a)))) t9) A) ([.ref (ad 1), .long a] : List Value).toArray s 0 0 A) (F0 m 5 ls []) := by
    intro k9
    induction k9 using Nat.strongRecOn with
    | ind k9 ih5 =>
      intro q n i1 i2 i3 hk9 H locs ls hP hD hS hl
      refine lv_iload hx hb d_P_dropBelow_5 (lv_at hl 1 rfl) ?_
      refine lv_aload_n hx hb d_P_dropBelow_7 rfl (lv_at hl 3 rfl) ?_
      refine gF (v := .int (nI x.hsize)) hx hb hown hE hK hP 9 rfl rfl layP 3 (by decide) w565 rfl d_P_dropBelow_8 ?_
      refine lv_icmp_ge hx hb d_P_dropBelow_11 (tgt := 61) rfl (fun g1 => ?_) (fun g1 => ?_)
      · have g1 := (nI_leI (a := x.hsize) (b := q) (by omega) (by omega)).mp g1
        refine lv_aload_n hx hb d_P_dropBelow_61 rfl (lv_at hl 3 rfl) ?_
        refine lv_iload_n hx hb d_P_dropBelow_62 rfl (lv_at hl 0 rfl) ?_
        refine pF (v := .int (nI n)) hx hb hown hE hK hP hD hS 9 rfl rfl layP tyP tokP nmP 3 (by decide) w565 rfl rfl rfl (Nat.le_of_ble_eq_true rfl) d_P_dropBelow_63 (fun H locs hP hD hS => ?_)
        have hP : va_P D vwCl (VW dA h ad (VS.s_hsize (VS.s_hV (VS.s_hT (VS.s_hO x (tdT (x.hAb a) x.hO q)) (tdT (x.hAb a) x.hT q)) (tdT (x.hAb a) x.hV q)) n)) H := hP
        have hD : va_D A (VW dA h ad (VS.s_hsize (VS.s_hV (VS.s_hT (VS.s_hO x (tdT (x.hAb a) x.hO q)) (tdT (x.hAb a) x.hT q)) (tdT (x.hAb a) x.hV q)) n)) := hD
        have e9 : (VS.s_hsize (VS.s_hV (VS.s_hT (VS.s_hO x (tdT (x.hAb a) x.hO q)) (tdT (x.hAb a) x.hT q)) (tdT (x.hAb a) x.hV q)) n : VS) = VS.s_hsize (VS.s_hV (VS.s_hT (VS.s_hO x (tdT (x.hAb a) x.hO x.hsize)) (tdT (x.hAb a) x.hT x.hsize)) (tdT (x.hAb a) x.hV x.hsize)) (cnt x.hsize (x.hAb a)) := by rw [show (tdT (x.hAb a) x.hO x.hsize) = (tdT (x.hAb a) x.hO q) from by (rw [show x.hsize = q by omega]), show (tdT (x.hAb a) x.hT x.hsize) = (tdT (x.hAb a) x.hT q) from by (rw [show x.hsize = q by omega]), show (tdT (x.hAb a) x.hV x.hsize) = (tdT (x.hAb a) x.hV q) from by (rw [show x.hsize = q by omega]), show (cnt x.hsize (x.hAb a)) = n from by (rw [i2, show x.hsize = q by omega])] <;> rfl
        exact rfV hx hb hr hlk hS () trivial (cvPv e9 hP) (cvDv e9 hD) (Nat.le_of_ble_eq_true rfl) (Nat.le_of_ble_eq_true rfl) d_P_dropBelow_66
      · have g1 := mt (nI_leI (a := x.hsize) (b := q) (by omega) (by omega)).mpr g1
        refine lv_aload_n hx hb d_P_dropBelow_14 rfl (lv_at hl 3 rfl) ?_
        refine gF (v := .ref (x.hA 1)) hx hb hown hE hK hP 9 rfl rfl layP 1 (by decide) w187 rfl d_P_dropBelow_15 ?_
        refine lv_iload hx hb d_P_dropBelow_18 (lv_at hl 1 rfl) ?_
        refine nlld (f := (tdT (x.hAb a) x.hT q)) (n := x.hN) hx hb hK hP 11 2 rfl rfl (q) (by omega) (by omega) d_P_dropBelow_20 ?_
        refine tpl (y := (x.hT q)) (tdT_at _ _ (Nat.le_refl q)) ?_
        refine lv_lload_n hx hb d_P_dropBelow_21 rfl (lv_at hl 2 rfl) ?_
        refine W.lcmp hx hb d_P_dropBelow_22 ?_
        refine lv_if_lt hx hb d_P_dropBelow_23 (tgt := 55) rfl (fun g2 => ?_) (fun g2 => ?_)
        · have g2 := (lg_cmp_lt _ _).mp g2
          refine lv_iinc (k := 1) (v := nI (q + 1)) hx hb d_P_dropBelow_55 hl rfl (iincN (q) 1 1 (by decide)) (by decide) rfl (fun ls hl => ?_)
          have hl : lv_has ls 5 [(4, .int (nI (q + 1))), (3, .int (nI n)), (1, .long a), (0, .ref (ad 1))] := hl
          refine lv_goto hx hb d_P_dropBelow_58 (tgt := 5) rfl ?_
          have e9 : (VS.s_hV (VS.s_hT (VS.s_hO x (tdT (x.hAb a) x.hO q)) (tdT (x.hAb a) x.hT q)) (tdT (x.hAb a) x.hV q) : VS) = VS.s_hV (VS.s_hT (VS.s_hO x (tdT (x.hAb a) x.hO (q + 1))) (tdT (x.hAb a) x.hT (q + 1))) (tdT (x.hAb a) x.hV (q + 1)) := by rw [show (tdT (x.hAb a) x.hO (q + 1)) = (tdT (x.hAb a) x.hO q) from (tdT_f (c := x.hAb a) (show x.hAb a q = false by show (!decide _) = false; rw [decide_eq_true g2]; rfl)), show (tdT (x.hAb a) x.hT (q + 1)) = (tdT (x.hAb a) x.hT q) from (tdT_f (c := x.hAb a) (show x.hAb a q = false by show (!decide _) = false; rw [decide_eq_true g2]; rfl)), show (tdT (x.hAb a) x.hV (q + 1)) = (tdT (x.hAb a) x.hV q) from (tdT_f (c := x.hAb a) (show x.hAb a q = false by show (!decide _) = false; rw [decide_eq_true g2]; rfl))] <;> rfl
          exact ih5 _ (by omega) (q + 1) n (by omega) (by rw [cnt_f (show x.hAb a q = false by show (!decide _) = false; rw [decide_eq_true g2]; rfl), i2]) (by omega) rfl H _ ls (cvPv e9 hP) (cvDv e9 hD) hS (lv_sub hl [1, 0, 2, 3] rfl)
        · have g2 := mt (lg_cmp_lt _ _).mpr g2
          refine lv_aload_n hx hb d_P_dropBelow_26 rfl (lv_at hl 3 rfl) ?_
          refine lv_iload_n hx hb d_P_dropBelow_27 rfl (lv_at hl 0 rfl) ?_
          refine lv_aload_n hx hb d_P_dropBelow_28 rfl (lv_at hl 3 rfl) ?_
          refine gF (v := .ref (x.hA 0)) hx hb hown hE hK hP 9 rfl rfl layP 0 (by decide) w185 rfl d_P_dropBelow_29 ?_
          refine lv_iload hx hb d_P_dropBelow_32 (lv_at hl 1 rfl) ?_
          refine nild (f := (fun z9 => nI ((tdT (x.hAb a) x.hO q) z9))) (n := x.hN) hx hb hK hP 10 1 rfl rfl (q) (by omega) (by omega) d_P_dropBelow_34 ?_
          refine tpi (y := nI (x.hO q)) (congrArg nI (tdT_at _ _ (Nat.le_refl q))) ?_
          refine lv_aload_n hx hb d_P_dropBelow_35 rfl (lv_at hl 3 rfl) ?_
          refine gF (v := .ref (x.hA 1)) hx hb hown hE hK hP 9 rfl rfl layP 1 (by decide) w187 rfl d_P_dropBelow_36 ?_
          refine lv_iload hx hb d_P_dropBelow_39 (lv_at hl 1 rfl) ?_
          refine nlld (f := (tdT (x.hAb a) x.hT q)) (n := x.hN) hx hb hK hP 11 2 rfl rfl (q) (by omega) (by omega) d_P_dropBelow_41 ?_
          refine tpl (y := (x.hT q)) (tdT_at _ _ (Nat.le_refl q)) ?_
          refine lv_aload_n hx hb d_P_dropBelow_42 rfl (lv_at hl 3 rfl) ?_
          refine gF (v := .ref (x.hA 2)) hx hb hown hE hK hP 9 rfl rfl layP 2 (by decide) w188 rfl d_P_dropBelow_43 ?_
          refine lv_iload hx hb d_P_dropBelow_46 (lv_at hl 1 rfl) ?_
          refine nlld (f := (tdT (x.hAb a) x.hV q)) (n := x.hN) hx hb hK hP 12 2 rfl rfl (q) (by omega) (by omega) d_P_dropBelow_48 ?_
          refine tpl (y := (x.hV q)) (tdT_at _ _ (Nat.le_refl q)) ?_
          refine jfV (rnV (As := [.int (nI n), .int (nI (x.hO q)), .long (x.hT q), .long (x.hV q)]) (rest := []) hx hb hml hown hE hK (hN _ _ hS) hP hD (v_pset_h l D dA H.size h ad (VS.s_hV (VS.s_hT (VS.s_hO x (tdT (x.hAb a) x.hO q)) (tdT (x.hAb a) x.hT q)) (tdT (x.hAb a) x.hV q)) n (x.hO q) (x.hT q) (x.hV q) (show n < x.hN from by omega) (show x.hN ≤ 65536 from by omega)) (q0 := 9) rfl rfl w1086 w1085 w1087 w1088 w578 rfl rfl ⟨⟨by decide, by decide⟩, rfl⟩ ⟨(Nat.le_of_ble_eq_true rfl), (Nat.le_of_ble_eq_true rfl)⟩ rfl hl.1 rfl (Nat.le_of_ble_eq_true rfl) d_P_dropBelow_49 ⟨(Nat.le_of_ble_eq_true rfl), (Nat.le_of_ble_eq_true rfl)⟩) hP hD hS hA (fun u4 H locs hp9 hP hD hS => ?_)
          have hP : va_P D vwCl (VW dA h ad (VS.s_hV (VS.s_hT (VS.s_hO x (va_up (tdT (x.hAb a) x.hO q) n (x.hO q))) (va_up (tdT (x.hAb a) x.hT q) n (x.hT q))) (va_up (tdT (x.hAb a) x.hV q) n (x.hV q)))) H := hP
          have hD : va_D A (VW dA h ad (VS.s_hV (VS.s_hT (VS.s_hO x (va_up (tdT (x.hAb a) x.hO q) n (x.hO q))) (va_up (tdT (x.hAb a) x.hT q) n (x.hT q))) (va_up (tdT (x.hAb a) x.hV q) n (x.hV q)))) := hD
          refine lv_iinc (k := 0) (v := nI (n + 1)) hx hb d_P_dropBelow_52 hl rfl (iincN (n) 1 1 (by decide)) (by decide) rfl (fun ls hl => ?_)
          have hl : lv_has ls 5 [(3, .int (nI (n + 1))), (4, .int (nI q)), (1, .long a), (0, .ref (ad 1))] := hl
          refine lv_iinc (k := 1) (v := nI (q + 1)) hx hb d_P_dropBelow_55 hl rfl (iincN (q) 1 1 (by decide)) (by decide) rfl (fun ls hl => ?_)
          have hl : lv_has ls 5 [(4, .int (nI (q + 1))), (3, .int (nI (n + 1))), (1, .long a), (0, .ref (ad 1))] := hl
          refine lv_goto hx hb d_P_dropBelow_58 (tgt := 5) rfl ?_
          have e9 : (VS.s_hV (VS.s_hT (VS.s_hO x (va_up (tdT (x.hAb a) x.hO q) n (x.hO q))) (va_up (tdT (x.hAb a) x.hT q) n (x.hT q))) (va_up (tdT (x.hAb a) x.hV q) n (x.hV q)) : VS) = VS.s_hV (VS.s_hT (VS.s_hO x (tdT (x.hAb a) x.hO (q + 1))) (tdT (x.hAb a) x.hT (q + 1))) (tdT (x.hAb a) x.hV (q + 1)) := by rw [show (tdT (x.hAb a) x.hO (q + 1)) = (va_up (tdT (x.hAb a) x.hO q) n (x.hO q)) from (by rw [tdT_t (c := x.hAb a) (show x.hAb a q = true by show (!decide _) = true; rw [decide_eq_false g2]; rfl) rfl, i2]), show (tdT (x.hAb a) x.hT (q + 1)) = (va_up (tdT (x.hAb a) x.hT q) n (x.hT q)) from (by rw [tdT_t (c := x.hAb a) (show x.hAb a q = true by show (!decide _) = true; rw [decide_eq_false g2]; rfl) rfl, i2]), show (tdT (x.hAb a) x.hV (q + 1)) = (va_up (tdT (x.hAb a) x.hV q) n (x.hV q)) from (by rw [tdT_t (c := x.hAb a) (show x.hAb a q = true by show (!decide _) = true; rw [decide_eq_false g2]; rfl) rfl, i2])] <;> rfl
          exact ih5 _ (by omega) (q + 1) (n + 1) (by omega) (by rw [cnt_t (show x.hAb a q = true by show (!decide _) = true; rw [decide_eq_false g2]; rfl), i2]) (by omega) rfl H _ ls (cvPv e9 hP) (cvDv e9 hD) hS (lv_sub hl [1, 0, 2, 3] rfl)
  have e9 : (x : VS) = VS.s_hV (VS.s_hT (VS.s_hO x (tdT (x.hAb a) x.hO 0)) (tdT (x.hAb a) x.hT 0)) (tdT (x.hAb a) x.hV 0) := by rw [show (tdT (x.hAb a) x.hO 0) = x.hO from rfl, show (tdT (x.hAb a) x.hT 0) = x.hT from rfl, show (tdT (x.hAb a) x.hV 0) = x.hV from rfl] <;> rfl
  exact L5 _ 0 0 (Nat.zero_le _) rfl (Nat.le_refl _) rfl H _ ls (cvPv e9 hP) (cvDv e9 hD) hS (lv_sub hl [1, 0, 3, 2] rfl)
