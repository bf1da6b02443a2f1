/-! Lists. -/
abbrev LI : Type := Nat × Int32 × Nat × Nat × (Nat → Option Nat)
abbrev LI.sz (x : LI) : Nat := x.1
abbrev LI.s_sz (x : LI) (v : Nat) : LI := (v, x.2)
abbrev LI.mc (x : LI) : Int32 := x.2.1
abbrev LI.s_mc (x : LI) (v : Int32) : LI := (x.1, v, x.2.2)
abbrev LI.eA (x : LI) : Nat := x.2.2.1
abbrev LI.s_eA (x : LI) (v : Nat) : LI := (x.1, x.2.1, v, x.2.2.2)
abbrev LI.eN (x : LI) : Nat := x.2.2.2.1
abbrev LI.s_eN (x : LI) (v : Nat) : LI := (x.1, x.2.1, x.2.2.1, v, x.2.2.2.2)
abbrev LI.el (x : LI) : Nat → Option Nat := x.2.2.2.2
abbrev LI.s_el (x : LI) (v : Nat → Option Nat) : LI := (x.1, x.2.1, x.2.2.1, x.2.2.2.1, v)
def LiWf (dA : Nat → ClassId) (la : Nat → Nat) (x y : LI) : va_W := [(la 0, .inr (6, [.ref y.eA, .int (nI x.sz), .int x.mc])), (x.eA, .inl (dA 7, x.eN, .inr (.inr (.inr (.inr x.el)))))]
def LiW (dA : Nat → ClassId) (la : Nat → Nat) (x : LI) : va_W := LiWf dA la x x
def clF (f : Nat → Option Nat) (n : Nat) : Nat → Option Nat := fun q => if q < n then none else f q
theorem clF_0 (f : Nat → Option Nat) : clF f 0 = f := by
  funext q; unfold clF; rw [if_neg (Nat.not_lt_zero q)]
theorem clF_s (f : Nat → Option Nat) (i : Nat) : va_up (clF f i) i none = clF f (i + 1) := by
  funext q; unfold va_up clF
  by_cases h : q = i
  · rw [if_pos h, if_pos (by omega)]
  · rw [if_neg h]
    by_cases h2 : q < i
    · rw [if_pos h2, if_pos (by omega)]
    · rw [if_neg h2, if_neg (by omega)]
theorem d_Preconditions_checkIndex_0 : decode prog_45_method_11_code 0 = .ok (.iload_n 0, 1) := by decide +kernel
theorem d_Preconditions_checkIndex_1 : decode prog_45_method_11_code 1 = .ok (.ifCond .lt 8, 3) := by decide +kernel
theorem d_Preconditions_checkIndex_4 : decode prog_45_method_11_code 4 = .ok (.iload_n 0, 1) := by decide +kernel
theorem d_Preconditions_checkIndex_5 : decode prog_45_method_11_code 5 = .ok (.iload_n 1, 1) := by decide +kernel
theorem d_Preconditions_checkIndex_6 : decode prog_45_method_11_code 6 = .ok (.if_icmp .lt 10, 3) := by decide +kernel
theorem d_Preconditions_checkIndex_16 : decode prog_45_method_11_code 16 = .ok (.iload_n 0, 1) := by decide +kernel
theorem d_Preconditions_checkIndex_17 : decode prog_45_method_11_code 17 = .ok (.ireturn, 1) := by decide +kernel
set_option maxHeartbeats 4000000 in
set_option maxRecDepth 100000 in
theorem v_preIndex (l : Launch) (D : va_G) (dA : Nat → ClassId) (sz : Nat) (a : Nat) (n : Nat) (h1 : a < n) (h2 : n ≤ 65536) : Met l ⟨"jdk/internal/util/Preconditions", "checkIndex", "(IILjava/util/function/BiFunction;)I"⟩ [Cond.code ⟨"jdk/internal/util/Preconditions", "checkIndex", "(IILjava/util/function/BiFunction;)I"⟩ prog_45_method_11_code 3 (some FieldType.int)] { frames := 1, cells := 0, slots := 0, locals := 0 } (pC D dA [.int (nI a), .int (nI n), .null] ([]) sz) (va_Qi (fun (r9 : Int32) (u9 : Unit) => r9 = nI a) (fun (u9 : Unit) t9 => bW D (va_A ([]) sz) ([]) t9) (va_A ([]) sz)) 0 0 (va_A ([]) sz) := by
  refine mkC (y := ⟨"jdk/internal/util/Preconditions", "checkIndex", "(IILjava/util/function/BiFunction;)I"⟩) (cc := prog_45_method_11_code) (maxL := 3) (av := [.int (nI a), .int (nI n), .null]) (ws := []) (sz := sz) (Qc := fun A => va_Qi (fun (r9 : Int32) (u9 : Unit) => r9 = nI a) (fun (u9 : Unit) t9 => bW D A ([]) t9) A) (by decide) (Nat.le_of_ble_eq_true rfl) ?_
  intro A p e s m below meth c ls hsz hB
  obtain ⟨hx, hb, hr, hml, hown, hin, hlk, hE, hK, hP, hD, hS, hA, hN, hl⟩ := hB
  have hown : s.vm.findClass "jdk/internal/util/Preconditions" = some m.cls := hown
  have hl : lv_has ls 3 [(0, .int (nI a)), (1, .int (nI n)), (2, .null)] := hl
  obtain ⟨H, hH⟩ : ∃ z, z = s.heap := ⟨_, rfl⟩
  have hP : va_P D vwCl ([]) H := by rw [hH]; exact hP
  have hS : va_S A s.heap H [] := by rw [hH]; exact hS
  rw [← hH]
  refine lv_iload_n hx hb d_Preconditions_checkIndex_0 rfl (lv_at hl 0 rfl) ?_
  refine lv_if_lt hx hb d_Preconditions_checkIndex_1 (tgt := 9) rfl (fun h9 => absurd h9 (nI_pos (n := a) (by omega))) (fun _ => ?_)
  refine lv_iload_n hx hb d_Preconditions_checkIndex_4 rfl (lv_at hl 0 rfl) ?_
  refine lv_iload_n hx hb d_Preconditions_checkIndex_5 rfl (lv_at hl 1 rfl) ?_
  refine lv_icmp_lt hx hb d_Preconditions_checkIndex_6 (tgt := 16) rfl (fun _ => ?_) (fun h9 => absurd ((nI_ltI (a := a) (b := n) (by omega) (by omega)).mpr h1) h9)
  refine lv_iload_n hx hb d_Preconditions_checkIndex_16 rfl (lv_at hl 0 rfl) ?_
  exact rfI hx hb hr hlk hS () rfl hP hD (Nat.le_of_ble_eq_true rfl) (Nat.le_of_ble_eq_true rfl) d_Preconditions_checkIndex_17
theorem d_Objects_checkIndex_0 : decode prog_41_method_17_code 0 = .ok (.iload_n 0, 1) := by decide +kernel
theorem d_Objects_checkIndex_1 : decode prog_41_method_17_code 1 = .ok (.iload_n 1, 1) := by decide +kernel
theorem d_Objects_checkIndex_2 : decode prog_41_method_17_code 2 = .ok (.aconst_null, 1) := by decide +kernel
theorem d_Objects_checkIndex_3 : decode prog_41_method_17_code 3 = .ok (.invokestatic 105, 3) := by decide +kernel
theorem d_Objects_checkIndex_6 : decode prog_41_method_17_code 6 = .ok (.ireturn, 1) := by decide +kernel
theorem w1444 : Cond.methodLink "java/util/Objects" 105 ⟨"jdk/internal/util/Preconditions", "checkIndex", "(IILjava/util/function/BiFunction;)I"⟩ ∈ aW := aw_of (tb_3 (List.mem_of_getElem? (i := 39) rfl)) rfl
theorem w1445 : Cond.initialized "jdk/internal/util/Preconditions" ∈ aW := aw_of (tb_1 (List.mem_of_getElem? (i := 29) rfl)) rfl
theorem w1446 : Cond.code ⟨"jdk/internal/util/Preconditions", "checkIndex", "(IILjava/util/function/BiFunction;)I"⟩ prog_45_method_11_code 3 (some FieldType.int) ∈ aW := aw_of (tb_3 (List.mem_of_getElem? (i := 41) rfl)) rfl
theorem w1447 : Cond.static ⟨"jdk/internal/util/Preconditions", "checkIndex", "(IILjava/util/function/BiFunction;)I"⟩ ∈ aW := aw_of (tb_3 (List.mem_of_getElem? (i := 40) rfl)) rfl
set_option maxHeartbeats 4000000 in
set_option maxRecDepth 100000 in
theorem v_objIndex (l : Launch) (D : va_G) (dA : Nat → ClassId) (sz : Nat) (a : Nat) (n : Nat) (h1 : a < n) (h2 : n ≤ 65536) : Met l ⟨"java/util/Objects", "checkIndex", "(II)I"⟩ [Cond.code ⟨"java/util/Objects", "checkIndex", "(II)I"⟩ prog_41_method_17_code 2 (some FieldType.int)] { frames := 2, cells := 0, slots := 0, locals := 22 } (pC D dA [.int (nI a), .int (nI n)] ([]) sz) (va_Qi (fun (r9 : Int32) (u9 : Unit) => r9 = nI a) (fun (u9 : Unit) t9 => bW D (va_A ([]) sz) ([]) t9) (va_A ([]) sz)) 0 0 (va_A ([]) sz) := by
  refine mkC (y := ⟨"java/util/Objects", "checkIndex", "(II)I"⟩) (cc := prog_41_method_17_code) (maxL := 2) (av := [.int (nI a), .int (nI n)]) (ws := []) (sz := sz) (Qc := fun A => va_Qi (fun (r9 : Int32) (u9 : Unit) => r9 = nI a) (fun (u9 : Unit) t9 => bW D A ([]) t9) A) (by decide) (Nat.le_of_ble_eq_true rfl) ?_
  intro A p e s m below meth c ls hsz hB
  obtain ⟨hx, hb, hr, hml, hown, hin, hlk, hE, hK, hP, hD, hS, hA, hN, hl⟩ := hB
  have hown : s.vm.findClass "java/util/Objects" = some m.cls := hown
  have hl : lv_has ls 2 [(0, .int (nI a)), (1, .int (nI n))] := hl
  obtain ⟨H, hH⟩ : ∃ z, z = s.heap := ⟨_, rfl⟩
  have hP : va_P D vwCl ([]) H := by rw [hH]; exact hP
  have hS : va_S A s.heap H [] := by rw [hH]; exact hS
  rw [← hH]
  refine lv_iload_n hx hb d_Objects_checkIndex_0 rfl (lv_at hl 0 rfl) ?_
  refine lv_iload_n hx hb d_Objects_checkIndex_1 rfl (lv_at hl 1 rfl) ?_
  refine lv_null hx hb d_Objects_checkIndex_2 ?_
  have hPc := hP.sub (ws' := []) [] rfl
  have hDc := hD.sub (ws' := []) [] (by decide) rfl
  refine jpI (rnS (As := [.int (nI a), .int (nI n), .null]) (rest := []) hx hb hml hown hE hK (hN _ _ hS) hPc hDc (v_preIndex l D dA H.size a n (show a < n from by omega) (show n ≤ 65536 from by omega)) w1446 w1444 w1447 w1445 rfl rfl ⟨⟨by decide, by decide⟩, rfl⟩ ⟨(Nat.le_of_ble_eq_true rfl), (Nat.le_of_ble_eq_true rfl)⟩ rfl hl.1 rfl (Nat.le_of_ble_eq_true rfl) d_Objects_checkIndex_3 ⟨(Nat.le_of_ble_eq_true rfl), (Nat.le_of_ble_eq_true rfl)⟩) hP hD hS hA (fun r1 u9 H locs hp9 hP hD hS => ?_)
  have hP : va_P D vwCl ([]) H := hP
  have hD : va_D A ([]) := hD
  replace hp9 : nI a = r1 := Eq.symm hp9
  subst hp9
  exact rfI hx hb hr hlk hS () rfl hP hD (Nat.le_of_ble_eq_true rfl) (Nat.le_of_ble_eq_true rfl) d_Objects_checkIndex_6
theorem d_L_size_0 : decode prog_37_method_8_code 0 = .ok (.aload_n 0, 1) := by decide +kernel
theorem d_L_size_1 : decode prog_37_method_8_code 1 = .ok (.getfield 48, 3) := by decide +kernel
theorem d_L_size_4 : decode prog_37_method_8_code 4 = .ok (.ireturn, 1) := by decide +kernel
set_option maxHeartbeats 4000000 in
set_option maxRecDepth 100000 in
theorem v_Lsize (l : Launch) (D : va_G) (dA : Nat → ClassId) (sz : Nat) (ws : va_W) (la : Nat → Nat) (g : LI) : Met l ⟨"java/util/ArrayList", "size", "()I"⟩ [Cond.code ⟨"java/util/ArrayList", "size", "()I"⟩ prog_37_method_8_code 1 (some FieldType.int)] { frames := 1, cells := 0, slots := 0, locals := 0 } (pC D dA [.ref (la 0)] (LiW dA la g ++ (ws)) sz) (va_Qi (fun (r9 : Int32) (u9 : Unit) => r9 = nI g.sz) (fun (u9 : Unit) t9 => bW D (va_A (LiW dA la g ++ (ws)) sz) (LiW dA la g ++ (ws)) t9) (va_A (LiW dA la g ++ (ws)) sz)) 0 0 (va_A (LiW dA la g ++ (ws)) sz) := by
  refine mkC (y := ⟨"java/util/ArrayList", "size", "()I"⟩) (cc := prog_37_method_8_code) (maxL := 1) (av := [.ref (la 0)]) (ws := LiW dA la g ++ (ws)) (sz := sz) (Qc := fun A => va_Qi (fun (r9 : Int32) (u9 : Unit) => r9 = nI g.sz) (fun (u9 : Unit) t9 => bW D A (LiW dA la g ++ (ws)) t9) A) (by decide) (Nat.le_of_ble_eq_true rfl) ?_
  intro A p e s m below meth c ls hsz hB
  obtain ⟨hx, hb, hr, hml, hown, hin, hlk, hE, hK, hP, hD, hS, hA, hN, hl⟩ := hB
  have hown : s.vm.findClass "java/util/ArrayList" = some m.cls := hown
  have hl : lv_has ls 1 [(0, .ref (la 0))] := hl
  obtain ⟨H, hH⟩ : ∃ z, z = s.heap := ⟨_, rfl⟩
  have hP : va_P D vwCl (LiW dA la g ++ (ws)) H := by rw [hH]; exact hP
  have hS : va_S A s.heap H [] := by rw [hH]; exact hS
  rw [← hH]
  refine lv_aload_n hx hb d_L_size_0 rfl (lv_at hl 0 rfl) ?_
  refine gF (v := .int (nI g.sz)) hx hb hown hE hK hP 0 rfl rfl layL 1 (by decide) w657 rfl d_L_size_1 ?_
  exact rfI hx hb hr hlk hS () rfl hP hD (Nat.le_of_ble_eq_true rfl) (Nat.le_of_ble_eq_true rfl) d_L_size_4
theorem d_L_elementData_0 : decode prog_37_method_18_code 0 = .ok (.aload_n 0, 1) := by decide +kernel
theorem d_L_elementData_1 : decode prog_37_method_18_code 1 = .ok (.getfield 9, 3) := by decide +kernel
theorem d_L_elementData_4 : decode prog_37_method_18_code 4 = .ok (.iload_n 1, 1) := by decide +kernel
theorem d_L_elementData_5 : decode prog_37_method_18_code 5 = .ok (.aaload, 1) := by decide +kernel
theorem d_L_elementData_6 : decode prog_37_method_18_code 6 = .ok (.areturn, 1) := by decide +kernel
set_option maxHeartbeats 4000000 in
set_option maxRecDepth 100000 in
theorem v_Lelement (l : Launch) (D : va_G) (dA : Nat → ClassId) (sz : Nat) (ws : va_W) (la : Nat → Nat) (g : LI) (i : Nat) (b : Nat) (hs : g.sz ≤ g.eN) (hn : g.eN ≤ 65536) (h1 : i < g.sz) (hel : g.el i = some b) : Met l ⟨"java/util/ArrayList", "elementData", "(I)Ljava/lang/Object;"⟩ [Cond.code ⟨"java/util/ArrayList", "elementData", "(I)Ljava/lang/Object;"⟩ prog_37_method_18_code 2 (some (FieldType.object "java/lang/Object"))] { frames := 1, cells := 0, slots := 0, locals := 0 } (pC D dA [.ref (la 0), .int (nI i)] (LiW dA la g ++ (ws)) sz) (va_Qr (fun (_ : Unit) => True) (fun (u9 : Unit) (r9 : Nat) t9 => (b = r9) ∧ bW D (va_A (LiW dA la g ++ (ws)) sz) (LiW dA la g ++ (ws)) t9) (va_A (LiW dA la g ++ (ws)) sz)) 0 0 (va_A (LiW dA la g ++ (ws)) sz) := by
  refine mkC (y := ⟨"java/util/ArrayList", "elementData", "(I)Ljava/lang/Object;"⟩) (cc := prog_37_method_18_code) (maxL := 2) (av := [.ref (la 0), .int (nI i)]) (ws := LiW dA la g ++ (ws)) (sz := sz) (Qc := fun A => va_Qr (fun (_ : Unit) => True) (fun (u9 : Unit) (r9 : Nat) t9 => (b = r9) ∧ bW D A (LiW dA la g ++ (ws)) t9) A) (by decide) (Nat.le_of_ble_eq_true rfl) ?_
  intro A p e s m below meth c ls hsz hB
  obtain ⟨hx, hb, hr, hml, hown, hin, hlk, hE, hK, hP, hD, hS, hA, hN, hl⟩ := hB
  have hown : s.vm.findClass "java/util/ArrayList" = some m.cls := hown
  have hl : lv_has ls 2 [(0, .ref (la 0)), (1, .int (nI i))] := hl
  obtain ⟨H, hH⟩ : ∃ z, z = s.heap := ⟨_, rfl⟩
  have hP : va_P D vwCl (LiW dA la g ++ (ws)) H := by rw [hH]; exact hP
  have hS : va_S A s.heap H [] := by rw [hH]; exact hS
  rw [← hH]
  refine lv_aload_n hx hb d_L_elementData_0 rfl (lv_at hl 0 rfl) ?_
  refine gF (v := .ref g.eA) hx hb hown hE hK hP 0 rfl rfl layL 0 (by decide) w656 rfl d_L_elementData_1 ?_
  refine lv_iload_n hx hb d_L_elementData_4 rfl (lv_at hl 1 rfl) ?_
  refine nqld (f := g.el) (n := g.eN) hx hb hK hP (1) 7 rfl rfl (i) (by omega) (by omega) hel d_L_elementData_5 ?_
  exact rkR hx hb hr (Or.inl ⟨_, rfl⟩) hlk hS () rfl hP hD (Nat.le_of_ble_eq_true rfl) (Nat.le_of_ble_eq_true rfl) d_L_elementData_6
theorem d_L_get_0 : decode prog_37_method_20_code 0 = .ok (.iload_n 1, 1) := by decide +kernel
theorem d_L_get_1 : decode prog_37_method_20_code 1 = .ok (.aload_n 0, 1) := by decide +kernel
theorem d_L_get_2 : decode prog_37_method_20_code 2 = .ok (.getfield 48, 3) := by decide +kernel
theorem d_L_get_5 : decode prog_37_method_20_code 5 = .ok (.invokestatic 118, 3) := by decide +kernel
theorem d_L_get_8 : decode prog_37_method_20_code 8 = .ok (.pop, 1) := by decide +kernel
theorem d_L_get_9 : decode prog_37_method_20_code 9 = .ok (.aload_n 0, 1) := by decide +kernel
theorem d_L_get_10 : decode prog_37_method_20_code 10 = .ok (.iload_n 1, 1) := by decide +kernel
theorem d_L_get_11 : decode prog_37_method_20_code 11 = .ok (.invokevirtual 123, 3) := by decide +kernel
theorem d_L_get_14 : decode prog_37_method_20_code 14 = .ok (.areturn, 1) := by decide +kernel
theorem w1448 : Cond.methodLink "java/util/ArrayList" 118 ⟨"java/util/Objects", "checkIndex", "(II)I"⟩ ∈ aW := aw_of (tb_3 (List.mem_of_getElem? (i := 36) rfl)) rfl
theorem w1449 : Cond.initialized "java/util/Objects" ∈ aW := aw_of (tb_1 (List.mem_of_getElem? (i := 36) rfl)) rfl
theorem w1450 : Cond.code ⟨"java/util/Objects", "checkIndex", "(II)I"⟩ prog_41_method_17_code 2 (some FieldType.int) ∈ aW := aw_of (tb_3 (List.mem_of_getElem? (i := 38) rfl)) rfl
theorem w1451 : Cond.static ⟨"java/util/Objects", "checkIndex", "(II)I"⟩ ∈ aW := aw_of (tb_3 (List.mem_of_getElem? (i := 37) rfl)) rfl
theorem w1452 : Cond.methodLink "java/util/ArrayList" 123 ⟨"java/util/ArrayList", "elementData", "(I)Ljava/lang/Object;"⟩ ∈ aW := aw_of (tb_3 (List.mem_of_getElem? (i := 42) rfl)) rfl
theorem w1453 : Cond.code ⟨"java/util/ArrayList", "elementData", "(I)Ljava/lang/Object;"⟩ prog_37_method_18_code 2 (some (FieldType.object "java/lang/Object")) ∈ aW := aw_of (tb_3 (List.mem_of_getElem? (i := 45) rfl)) rfl
theorem w1454 : Cond.instanceMethod ⟨"java/util/ArrayList", "elementData", "(I)Ljava/lang/Object;"⟩ ∈ aW := aw_of (tb_3 (List.mem_of_getElem? (i := 43) rfl)) rfl
theorem w1455 : Cond.selects "java/util/ArrayList" ⟨"java/util/ArrayList", "elementData", "(I)Ljava/lang/Object;"⟩ ⟨"java/util/ArrayList", "elementData", "(I)Ljava/lang/Object;"⟩ ∈ aW := aw_of (tb_3 (List.mem_of_getElem? (i := 44) rfl)) rfl
set_option maxHeartbeats 4000000 in
set_option maxRecDepth 100000 in
theorem v_Lget (l : Launch) (D : va_G) (dA : Nat → ClassId) (sz : Nat) (ws : va_W) (la : Nat → Nat) (g : LI) (i : Nat) (b : Nat) (hs : g.sz ≤ g.eN) (hn : g.eN ≤ 65536) (h1 : i < g.sz) (hel : g.el i = some b) : Met l ⟨"java/util/ArrayList", "get", "(I)Ljava/lang/Object;"⟩ [Cond.code ⟨"java/util/ArrayList", "get", "(I)Ljava/lang/Object;"⟩ prog_37_method_20_code 2 (some (FieldType.object "java/lang/Object"))] { frames := 3, cells := 0, slots := 0, locals := 43 } (pC D dA [.ref (la 0), .int (nI i)] (LiW dA la g ++ (ws)) sz) (va_Qr (fun (_ : Unit) => True) (fun (u9 : Unit) (r9 : Nat) t9 => (b = r9) ∧ bW D (va_A (LiW dA la g ++ (ws)) sz) (LiW dA la g ++ (ws)) t9) (va_A (LiW dA la g ++ (ws)) sz)) 0 0 (va_A (LiW dA la g ++ (ws)) sz) := by
  refine mkC (y := ⟨"java/util/ArrayList", "get", "(I)Ljava/lang/Object;"⟩) (cc := prog_37_method_20_code) (maxL := 2) (av := [.ref (la 0), .int (nI i)]) (ws := LiW dA la g ++ (ws)) (sz := sz) (Qc := fun A => va_Qr (fun (_ : Unit) => True) (fun (u9 : Unit) (r9 : Nat) t9 => (b = r9) ∧ bW D A (LiW dA la g ++ (ws)) t9) A) (by decide) (Nat.le_of_ble_eq_true rfl) ?_
  intro A p e s m below meth c ls hsz hB
  obtain ⟨hx, hb, hr, hml, hown, hin, hlk, hE, hK, hP, hD, hS, hA, hN, hl⟩ := hB
  have hown : s.vm.findClass "java/util/ArrayList" = some m.cls := hown
  have hl : lv_has ls 2 [(0, .ref (la 0)), (1, .int (nI i))] := hl
  obtain ⟨H, hH⟩ : ∃ z, z = s.heap := ⟨_, rfl⟩
  have hP : va_P D vwCl (LiW dA la g ++ (ws)) H := by rw [hH]; exact hP
  have hS : va_S A s.heap H [] := by rw [hH]; exact hS
  rw [← hH]
  refine lv_iload_n hx hb d_L_get_0 rfl (lv_at hl 1 rfl) ?_
  refine lv_aload_n hx hb d_L_get_1 rfl (lv_at hl 0 rfl) ?_
  refine gF (v := .int (nI g.sz)) hx hb hown hE hK hP 0 rfl rfl layL 1 (by decide) w657 rfl d_L_get_2 ?_
  have hPc := hP.sub (ws' := []) [] rfl
  have hDc := hD.sub (ws' := []) [] (by decide) rfl
  refine jpI (rnS (As := [.int (nI i), .int (nI g.sz)]) (rest := []) hx hb hml hown hE hK (hN _ _ hS) hPc hDc (v_objIndex l D dA H.size i g.sz (show i < g.sz from by omega) (show g.sz ≤ 65536 from by omega)) w1450 w1448 w1451 w1449 rfl rfl ⟨⟨by decide, by decide⟩, rfl⟩ ⟨(Nat.le_of_ble_eq_true rfl), (Nat.le_of_ble_eq_true rfl)⟩ rfl hl.1 rfl (Nat.le_of_ble_eq_true rfl) d_L_get_5 ⟨(Nat.le_of_ble_eq_true rfl), (Nat.le_of_ble_eq_true rfl)⟩) hP hD hS hA (fun r1 u9 H locs hp9 hP hD hS => ?_)
  have hP : va_P D vwCl (LiW dA la g ++ (ws)) H := hP
  have hD : va_D A (LiW dA la g ++ (ws)) := hD
  replace hp9 : nI i = r1 := Eq.symm hp9
  subst hp9
  refine lv_pop hx hb d_L_get_8 rfl ?_
  refine lv_aload_n hx hb d_L_get_9 rfl (lv_at hl 0 rfl) ?_
  refine lv_iload_n hx hb d_L_get_10 rfl (lv_at hl 1 rfl) ?_
  refine jkR (wr := []) (rnV (As := [.int (nI i)]) (rest := []) hx hb hml hown hE hK (hN _ _ hS) hP hD (v_Lelement l D dA H.size ws la g i b (show g.sz ≤ g.eN from by omega) (show g.eN ≤ 65536 from by omega) (show i < g.sz from by omega) hel) (q0 := 0) rfl rfl w1453 w1452 w1454 w1455 w680 rfl rfl ⟨⟨by decide, by decide⟩, rfl⟩ ⟨(Nat.le_of_ble_eq_true rfl), (Nat.le_of_ble_eq_true rfl)⟩ rfl hl.1 rfl (Nat.le_of_ble_eq_true rfl) d_L_get_11 ⟨(Nat.le_of_ble_eq_true rfl), (Nat.le_of_ble_eq_true rfl)⟩) hP hD hS hA (fun u4 r3 H locs hp9 hP hD hS => ?_)
  have hP : va_P D vwCl (LiW dA la g ++ (ws)) H := hP
  have hD : va_D A (LiW dA la g ++ (ws)) := hD
  have f_e_5 := hp9
  have e9 := f_e_5
  subst e9
  exact rkR hx hb hr (Or.inl ⟨_, rfl⟩) hlk hS () rfl hP hD (Nat.le_of_ble_eq_true rfl) (Nat.le_of_ble_eq_true rfl) d_L_get_14
theorem d_L_set_0 : decode prog_37_method_23_code 0 = .ok (.iload_n 1, 1) := by decide +kernel
theorem d_L_set_1 : decode prog_37_method_23_code 1 = .ok (.aload_n 0, 1) := by decide +kernel
theorem d_L_set_2 : decode prog_37_method_23_code 2 = .ok (.getfield 48, 3) := by decide +kernel
theorem d_L_set_5 : decode prog_37_method_23_code 5 = .ok (.invokestatic 118, 3) := by decide +kernel
theorem d_L_set_8 : decode prog_37_method_23_code 8 = .ok (.pop, 1) := by decide +kernel
theorem d_L_set_9 : decode prog_37_method_23_code 9 = .ok (.aload_n 0, 1) := by decide +kernel
theorem d_L_set_10 : decode prog_37_method_23_code 10 = .ok (.iload_n 1, 1) := by decide +kernel
theorem d_L_set_11 : decode prog_37_method_23_code 11 = .ok (.invokevirtual 123, 3) := by decide +kernel
theorem d_L_set_14 : decode prog_37_method_23_code 14 = .ok (.astore_n 3, 1) := by decide +kernel
theorem d_L_set_15 : decode prog_37_method_23_code 15 = .ok (.aload_n 0, 1) := by decide +kernel
theorem d_L_set_16 : decode prog_37_method_23_code 16 = .ok (.getfield 9, 3) := by decide +kernel
theorem d_L_set_19 : decode prog_37_method_23_code 19 = .ok (.iload_n 1, 1) := by decide +kernel
theorem d_L_set_20 : decode prog_37_method_23_code 20 = .ok (.aload_n 2, 1) := by decide +kernel
theorem d_L_set_21 : decode prog_37_method_23_code 21 = .ok (.aastore, 1) := by decide +kernel
theorem d_L_set_22 : decode prog_37_method_23_code 22 = .ok (.aload_n 3, 1) := by decide +kernel
theorem d_L_set_23 : decode prog_37_method_23_code 23 = .ok (.areturn, 1) := by decide +kernel
set_option maxHeartbeats 4000000 in
set_option maxRecDepth 100000 in
theorem v_Lset (l : Launch) (D : va_G) (dA : Nat → ClassId) (sz : Nat) (ws : va_W) (la : Nat → Nat) (g : LI) (i : Nat) (b : Nat) (v : Nat) (fs : List Value) (hs : g.sz ≤ g.eN) (hn : g.eN ≤ 65536) (h1 : i < g.sz) (hel : g.el i = some b) (mo : (v, .inr (8, fs)) ∈ ws) : Met l ⟨"java/util/ArrayList", "set", "(ILjava/lang/Object;)Ljava/lang/Object;"⟩ [Cond.code ⟨"java/util/ArrayList", "set", "(ILjava/lang/Object;)Ljava/lang/Object;"⟩ prog_37_method_23_code 4 (some (FieldType.object "java/lang/Object"))] { frames := 3, cells := 0, slots := 0, locals := 43 } (pC D dA [.ref (la 0), .int (nI i), .ref v] (LiW dA la g ++ (ws)) sz) (va_Qr (fun (_ : Unit) => True) (fun (u9 : Unit) (r9 : Nat) t9 => (b = r9) ∧ bW D (va_A (LiW dA la g ++ (ws)) sz) (LiW dA la (LI.s_el g (va_up g.el i (some v))) ++ (ws)) t9) (va_A (LiW dA la g ++ (ws)) sz)) 0 0 (va_A (LiW dA la g ++ (ws)) sz) := by
  refine mkC (y := ⟨"java/util/ArrayList", "set", "(ILjava/lang/Object;)Ljava/lang/Object;"⟩) (cc := prog_37_method_23_code) (maxL := 4) (av := [.ref (la 0), .int (nI i), .ref v]) (ws := LiW dA la g ++ (ws)) (sz := sz) (Qc := fun A => va_Qr (fun (_ : Unit) => True) (fun (u9 : Unit) (r9 : Nat) t9 => (b = r9) ∧ bW D A (LiW dA la (LI.s_el g (va_up g.el i (some v))) ++ (ws)) t9) A) (by decide) (Nat.le_of_ble_eq_true rfl) ?_
  intro A p e s m below meth c ls hsz hB
  obtain ⟨hx, hb, hr, hml, hown, hin, hlk, hE, hK, hP, hD, hS, hA, hN, hl⟩ := hB
  have hown : s.vm.findClass "java/util/ArrayList" = some m.cls := hown
  have hl : lv_has ls 4 [(0, .ref (la 0)), (1, .int (nI i)), (2, .ref v)] := hl
  obtain ⟨H, hH⟩ : ∃ z, z = s.heap := ⟨_, rfl⟩
  have hP : va_P D vwCl (LiW dA la g ++ (ws)) H := by rw [hH]; exact hP
  have hS : va_S A s.heap H [] := by rw [hH]; exact hS
  rw [← hH]
  refine lv_iload_n hx hb d_L_set_0 rfl (lv_at hl 1 rfl) ?_
  refine lv_aload_n hx hb d_L_set_1 rfl (lv_at hl 0 rfl) ?_
  refine gF (v := .int (nI g.sz)) hx hb hown hE hK hP 0 rfl rfl layL 1 (by decide) w657 rfl d_L_set_2 ?_
  have hPc := hP.sub (ws' := []) [] rfl
  have hDc := hD.sub (ws' := []) [] (by decide) rfl
  refine jpI (rnS (As := [.int (nI i), .int (nI g.sz)]) (rest := []) hx hb hml hown hE hK (hN _ _ hS) hPc hDc (v_objIndex l D dA H.size i g.sz (show i < g.sz from by omega) (show g.sz ≤ 65536 from by omega)) w1450 w1448 w1451 w1449 rfl rfl ⟨⟨by decide, by decide⟩, rfl⟩ ⟨(Nat.le_of_ble_eq_true rfl), (Nat.le_of_ble_eq_true rfl)⟩ rfl hl.1 rfl (Nat.le_of_ble_eq_true rfl) d_L_set_5 ⟨(Nat.le_of_ble_eq_true rfl), (Nat.le_of_ble_eq_true rfl)⟩) hP hD hS hA (fun r1 u9 H locs hp9 hP hD hS => ?_)
  have hP : va_P D vwCl (LiW dA la g ++ (ws)) H := hP
  have hD : va_D A (LiW dA la g ++ (ws)) := hD
  replace hp9 : nI i = r1 := Eq.symm hp9
  subst hp9
  refine lv_pop hx hb d_L_set_8 rfl ?_
  refine lv_aload_n hx hb d_L_set_9 rfl (lv_at hl 0 rfl) ?_
  refine lv_iload_n hx hb d_L_set_10 rfl (lv_at hl 1 rfl) ?_
  refine jkR (wr := []) (rnV (As := [.int (nI i)]) (rest := []) hx hb hml hown hE hK (hN _ _ hS) hP hD (v_Lelement l D dA H.size ws la g i b (show g.sz ≤ g.eN from by omega) (show g.eN ≤ 65536 from by omega) (show i < g.sz from by omega) hel) (q0 := 0) rfl rfl w1453 w1452 w1454 w1455 w680 rfl rfl ⟨⟨by decide, by decide⟩, rfl⟩ ⟨(Nat.le_of_ble_eq_true rfl), (Nat.le_of_ble_eq_true rfl)⟩ rfl hl.1 rfl (Nat.le_of_ble_eq_true rfl) d_L_set_11 ⟨(Nat.le_of_ble_eq_true rfl), (Nat.le_of_ble_eq_true rfl)⟩) hP hD hS hA (fun u4 r3 H locs hp9 hP hD hS => ?_)
  have hP : va_P D vwCl (LiW dA la g ++ (ws)) H := hP
  have hD : va_D A (LiW dA la g ++ (ws)) := hD
  have f_e_5 := hp9
  have e9 := f_e_5
  subst e9
  refine lv_astore_n hx hb d_L_set_14 rfl hl (by decide) rfl (fun ls hl => ?_)
  have hl : lv_has ls 4 [(3, .ref b), (0, .ref (la 0)), (1, .int (nI i)), (2, .ref v)] := hl
  refine lv_aload_n hx hb d_L_set_15 rfl (lv_at hl 1 rfl) ?_
  refine gF (v := .ref g.eA) hx hb hown hE hK hP 0 rfl rfl layL 0 (by decide) w656 rfl d_L_set_16 ?_
  refine lv_iload_n hx hb d_L_set_19 rfl (lv_at hl 2 rfl) ?_
  refine lv_aload_n hx hb d_L_set_20 rfl (lv_at hl 3 rfl) ?_
  obtain ⟨qp6, ep7⟩ := List.getElem?_of_mem (show ((v, .inr (8, fs)) : Nat × va_E) ∈ LiW dA la g ++ (ws) from (List.mem_append_right _ mo))
  refine nqstO (E := "java/lang/Object") (r := ("SeriesVault$Table", TT, 7)) (f := g.el) (n := g.eN) hx hb hK hP hD hS (1) 7 (qp6) 8 rfl rfl (show va_Nw (.castable "SeriesVault$Table" "java/lang/Object") s from hE.1 _ w776) ep7 rfl (i) (by omega) (by omega) d_L_set_21 (fun H locs hP hD hS => ?_)
  have hP : va_P D vwCl (LiW dA la (LI.s_el g (va_up g.el i (some v))) ++ (ws)) H := hP
  have hD : va_D A (LiW dA la (LI.s_el g (va_up g.el i (some v))) ++ (ws)) := hD
  refine lv_aload_n hx hb d_L_set_22 rfl (lv_at hl 0 rfl) ?_
  exact rkR hx hb hr (Or.inl ⟨_, rfl⟩) hlk hS () rfl hP hD (Nat.le_of_ble_eq_true rfl) (Nat.le_of_ble_eq_true rfl) d_L_set_23
theorem d_L_clear_32 : decode prog_37_method_40_code 32 = .ok (.aload_n 1, 1) := by decide +kernel
theorem d_L_clear_33 : decode prog_37_method_40_code 33 = .ok (.iload_n 3, 1) := by decide +kernel
theorem d_L_clear_34 : decode prog_37_method_40_code 34 = .ok (.aconst_null, 1) := by decide +kernel
theorem d_L_clear_35 : decode prog_37_method_40_code 35 = .ok (.aastore, 1) := by decide +kernel
theorem d_L_clear_36 : decode prog_37_method_40_code 36 = .ok (.iinc 3 1, 3) := by decide +kernel
theorem d_L_clear_39 : decode prog_37_method_40_code 39 = .ok (.goto (-12), 3) := by decide +kernel
set_option maxHeartbeats 4000000 in
set_option maxRecDepth 100000 in
theorem v_Lclear (l : Launch) (D : va_G) (dA : Nat → ClassId) (sz : Nat) (ws : va_W) (la : Nat → Nat) (g : LI) (hs : g.sz ≤ g.eN) (hn : g.eN ≤ 65536) : Met l ⟨"java/util/ArrayList", "clear", "()V"⟩ [Cond.code ⟨"java/util/ArrayList", "clear", "()V"⟩ prog_37_method_40_code 4 none] { frames := 1, cells := 0, slots := 0, locals := 0 } (pC D dA [.ref (la 0)] (LiW dA la g ++ (ws)) sz) (va_Qv (fun (u9 : Unit) => True) (fun (u9 : Unit) t9 => bW D (va_A (LiW dA la g ++ (ws)) sz) (LiW dA la (LI.s_el (LI.s_mc (LI.s_sz g 0) (g.mc + 1)) (clF g.el g.sz)) ++ (ws)) t9) (va_A (LiW dA la g ++ (ws)) sz)) 0 0 (va_A (LiW dA la g ++ (ws)) sz) := by
  refine mkC (y := ⟨"java/util/ArrayList", "clear", "()V"⟩) (cc := prog_37_method_40_code) (maxL := 4) (av := [.ref (la 0)]) (ws := LiW dA la g ++ (ws)) (sz := sz) (Qc := fun A => va_Qv (fun (u9 : Unit) => True) (fun (u9 : Unit) t9 => bW D A (LiW dA la (LI.s_el (LI.s_mc (LI.s_sz g 0) (g.mc + 1)) (clF g.el g.sz)) ++ (ws)) t9) A) (by decide) (Nat.le_of_ble_eq_true rfl) ?_
  intro A p e s m below meth c ls hsz hB
  obtain ⟨hx, hb, hr, hml, hown, hin, hlk, hE, hK, hP, hD, hS, hA, hN, hl⟩ := hB
  have hown : s.vm.findClass "java/util/ArrayList" = some m.cls := hown
  have hl : lv_has ls 4 [(0, .ref (la 0))] := hl
  obtain ⟨H, hH⟩ : ∃ z, z = s.heap := ⟨_, rfl⟩
  have hP : va_P D vwCl (LiW dA la g ++ (ws)) H := by rw [hH]; exact hP
  have hS : va_S A s.heap H [] := by rw [hH]; exact hS
  rw [← hH]
  refine lv_aload_n hx hb d_L_clear_0 rfl (lv_at hl 0 rfl) ?_
  refine lv_dup hx hb d_L_clear_1 rfl ?_
  refine gFU (v := .int g.mc) hx hb hown hE hK hP 0 rfl rfl layL 2 (by decide) w654 w655 rfl d_L_clear_2 ?_
  refine lv_iconst (v := 1) hx hb d_L_clear_5 (by decide) ?_
  refine lv_iadd hx hb d_L_clear_6 ?_
  refine pFU (v := .int (g.mc + 1)) hx hb hown hE hK hP hD hS 0 rfl rfl layL tyL tokL nmL 2 (by decide) w654 w655 rfl rfl rfl (Nat.le_of_ble_eq_true rfl) d_L_clear_7 (fun H locs hP hD hS => ?_)
  have hP : va_P D vwCl (LiW dA la (LI.s_mc g (g.mc + 1)) ++ (ws)) H := hP
  have hD : va_D A (LiW dA la (LI.s_mc g (g.mc + 1)) ++ (ws)) := hD
  refine lv_aload_n hx hb d_L_clear_10 rfl (lv_at hl 0 rfl) ?_
  refine gF (v := .ref g.eA) hx hb hown hE hK hP 0 rfl rfl layL 0 (by decide) w656 rfl d_L_clear_11 ?_
  refine lv_astore_n hx hb d_L_clear_14 rfl hl (by decide) rfl (fun ls hl => ?_)
  have hl : lv_has ls 4 [(1, .ref g.eA), (0, .ref (la 0))] := hl
  refine lv_aload_n hx hb d_L_clear_15 rfl (lv_at hl 1 rfl) ?_
  refine gF (v := .int (nI g.sz)) hx hb hown hE hK hP 0 rfl rfl layL 1 (by decide) w657 rfl d_L_clear_16 ?_
  refine lv_istore_n hx hb d_L_clear_19 rfl hl (by decide) rfl (fun ls hl => ?_)
  have hl : lv_has ls 4 [(2, .int (nI g.sz)), (1, .ref g.eA), (0, .ref (la 0))] := hl
  refine lv_aload_n hx hb d_L_clear_20 rfl (lv_at hl 2 rfl) ?_
  refine lv_iconst (v := 0) hx hb d_L_clear_21 (by decide) ?_
  refine lv_dup_x1 hx hb d_L_clear_22 rfl rfl ?_
  refine pF (v := .int (nI 0)) hx hb hown hE hK hP hD hS 0 rfl rfl layL tyL tokL nmL 1 (by decide) w657 rfl rfl rfl (Nat.le_of_ble_eq_true rfl) d_L_clear_23 (fun H locs hP hD hS => ?_)
  have hP : va_P D vwCl (LiW dA la (LI.s_mc (LI.s_sz g 0) (g.mc + 1)) ++ (ws)) H := hP
  have hD : va_D A (LiW dA la (LI.s_mc (LI.s_sz g 0) (g.mc + 1)) ++ (ws)) := hD
  refine lv_istore_n hx hb d_L_clear_26 rfl hl (by decide) rfl (fun ls hl => ?_)
  have hl : lv_has ls 4 [(3, .int 0), (2, .int (nI g.sz)), (1, .ref g.eA), (0, .ref (la 0))] := hl
  have L27 : ∀ (k9 : Nat) (i : Nat) (i1 : i ≤ g.sz) (hk9 : g.sz - i = k9), ∀ (H : Heap) (locs : List Loc) (ls : Array Slot) (hP : va_P D vwCl (LiW dA la (LI.s_el (LI.s_mc (LI.s_sz g 0) (g.mc + 1)) (clF g.el i)) ++ (ws)) H) (hD : va_D A (LiW dA la (LI.s_el (LI.s_mc (LI.s_sz g 0) (g.mc + 1)) (clF g.el i)) ++ (ws))) (hS : va_S A s.heap H locs) (hl : lv_has ls 4 [(3, .int (nI i)), (1, .ref g.eA), (2, .int (nI g.sz)), (0, .ref (la 0))]), W p l e ({ frames := 1, cells := 0, slots := 0, locals := 0 } : Room) s m ([.ref (la 0)] : List Value).toArray below meth c H locs 0 0 (MQ below (va_Qv (fun (u9 : Unit) => True) (fun (u9 : Unit) t9 => bW D A (LiW dA la (LI.s_el (LI.s_mc (LI.s_sz g 0) (g.mc + 1)) (clF g.el g.sz)) ++ (ws)) t9) A) ([.ref (la 0)] : List Value).toArray s 0 0 A) (F0 m 27 ls []) := by
    intro k9
    induction k9 using Nat.strongRecOn with
    | ind k9 ih27 =>
      intro i i1 hk9 H locs ls hP hD hS hl
      refine lv_iload_n hx hb d_L_clear_27 rfl (lv_at hl 0 rfl) ?_
      refine lv_iload_n hx hb d_L_clear_28 rfl (lv_at hl 2 rfl) ?_
      refine lv_icmp_ge hx hb d_L_clear_29 (tgt := 42) rfl (fun g1 => ?_) (fun g1 => ?_)
      · have g1 := (nI_leI (a := g.sz) (b := i) (by omega) (by omega)).mp g1
        have e9 : (LI.s_el (LI.s_mc (LI.s_sz g 0) (g.mc + 1)) (clF g.el i) : LI) = LI.s_el (LI.s_mc (LI.s_sz g 0) (g.mc + 1)) (clF g.el g.sz) := by rw [show (clF g.el g.sz) = (clF g.el i) from by (rw [show g.sz = i by omega])] <;> rfl
        rw [e9] at hP hD
        exact rfV hx hb hr hlk hS () trivial hP hD (Nat.le_of_ble_eq_true rfl) (Nat.le_of_ble_eq_true rfl) d_L_clear_42
      · have g1 := mt (nI_leI (a := g.sz) (b := i) (by omega) (by omega)).mpr g1
        refine lv_aload_n hx hb d_L_clear_32 rfl (lv_at hl 1 rfl) ?_
        refine lv_iload_n hx hb d_L_clear_33 rfl (lv_at hl 0 rfl) ?_
        refine lv_null hx hb d_L_clear_34 ?_
        refine nqstN (f := (clF g.el i)) (n := g.eN) hx hb hK hP hD hS (1) 7 rfl rfl (i) (by omega) (by omega) d_L_clear_35 (fun H locs hP hD hS => ?_)
        have hP : va_P D vwCl (LiW dA la (LI.s_el (LI.s_mc (LI.s_sz g 0) (g.mc + 1)) (va_up (clF g.el i) i none)) ++ (ws)) H := hP
        have hD : va_D A (LiW dA la (LI.s_el (LI.s_mc (LI.s_sz g 0) (g.mc + 1)) (va_up (clF g.el i) i none)) ++ (ws)) := hD
        refine lv_iinc (k := 0) (v := nI (i + 1)) hx hb d_L_clear_36 hl rfl (iincN (i) 1 1 (by decide)) (by decide) rfl (fun ls hl => ?_)
        have hl : lv_has ls 4 [(3, .int (nI (i + 1))), (1, .ref g.eA), (2, .int (nI g.sz)), (0, .ref (la 0))] := hl
        refine lv_goto hx hb d_L_clear_39 (tgt := 27) rfl ?_
        have e9 : (LI.s_el (LI.s_mc (LI.s_sz g 0) (g.mc + 1)) (va_up (clF g.el i) i none) : LI) = LI.s_el (LI.s_mc (LI.s_sz g 0) (g.mc + 1)) (clF g.el (i + 1)) := by rw [show (clF g.el (i + 1)) = (va_up (clF g.el i) i none) from (clF_s _ _).symm] <;> rfl
        rw [e9] at hP hD
        exact ih27 _ (by omega) (i + 1) (by omega) rfl H _ ls hP hD hS (lv_sub hl [0, 1, 2, 3] rfl)
  have e9 : (LI.s_mc (LI.s_sz g 0) (g.mc + 1) : LI) = LI.s_el (LI.s_mc (LI.s_sz g 0) (g.mc + 1)) (clF g.el 0) := by rw [show (clF g.el 0) = g.el from (clF_0 _)] <;> rfl
  rw [e9] at hP hD
  exact L27 _ 0 (Nat.zero_le _) rfl H _ ls hP hD hS (lv_sub hl [0, 2, 1, 3] rfl)
theorem w1456 : Cond.castable "SeriesVault$Word" "java/lang/Object" ∈ aW := aw_of (tb_11 (List.mem_of_getElem? (i := 105) rfl)) rfl
set_option maxHeartbeats 4000000 in
set_option maxRecDepth 100000 in
theorem v_Ladd3_W (l : Launch) (D : va_G) (dA : Nat → ClassId) (sz : Nat) (ws : va_W) (la : Nat → Nat) (g : LI) (v : Nat) (fs : List Value) (h1 : g.sz < g.eN) (hn : g.eN ≤ 65536) (mo : (v, .inr (10, fs)) ∈ ws) : Met l ⟨"java/util/ArrayList", "add", "(Ljava/lang/Object;[Ljava/lang/Object;I)V"⟩ [Cond.code ⟨"java/util/ArrayList", "add", "(Ljava/lang/Object;[Ljava/lang/Object;I)V"⟩ prog_37_method_24_code 4 none] { frames := 1, cells := 0, slots := 0, locals := 0 } (pC D dA [.ref (la 0), .ref v, .ref g.eA, .int (nI g.sz)] (LiW dA la g ++ (ws)) sz) (va_Qv (fun (u9 : Unit) => True) (fun (u9 : Unit) t9 => bW D (va_A (LiW dA la g ++ (ws)) sz) (LiW dA la (LI.s_el (LI.s_sz g (g.sz + 1)) (va_up g.el g.sz (some v))) ++ (ws)) t9) (va_A (LiW dA la g ++ (ws)) sz)) 0 0 (va_A (LiW dA la g ++ (ws)) sz) := by
  refine mkC (y := ⟨"java/util/ArrayList", "add", "(Ljava/lang/Object;[Ljava/lang/Object;I)V"⟩) (cc := prog_37_method_24_code) (maxL := 4) (av := [.ref (la 0), .ref v, .ref g.eA, .int (nI g.sz)]) (ws := LiW dA la g ++ (ws)) (sz := sz) (Qc := fun A => va_Qv (fun (u9 : Unit) => True) (fun (u9 : Unit) t9 => bW D A (LiW dA la (LI.s_el (LI.s_sz g (g.sz + 1)) (va_up g.el g.sz (some v))) ++ (ws)) t9) A) (by decide) (Nat.le_of_ble_eq_true rfl) ?_
  intro A p e s m below meth c ls hsz hB
  obtain ⟨hx, hb, hr, hml, hown, hin, hlk, hE, hK, hP, hD, hS, hA, hN, hl⟩ := hB
  have hown : s.vm.findClass "java/util/ArrayList" = some m.cls := hown
  have hl : lv_has ls 4 [(0, .ref (la 0)), (1, .ref v), (2, .ref g.eA), (3, .int (nI g.sz))] := hl
  obtain ⟨H, hH⟩ : ∃ z, z = s.heap := ⟨_, rfl⟩
  have hP : va_P D vwCl (LiW dA la g ++ (ws)) H := by rw [hH]; exact hP
  have hS : va_S A s.heap H [] := by rw [hH]; exact hS
  rw [← hH]
  refine lv_iload_n hx hb d_L_add_faf_0 rfl (lv_at hl 3 rfl) ?_
  refine lv_aload_n hx hb d_L_add_faf_1 rfl (lv_at hl 2 rfl) ?_
  refine va_alen (v := nI g.eN) hx hb hK hP (1) 7 rfl rfl rfl d_L_add_faf_2 ?_
  refine lv_icmp_ne hx hb d_L_add_faf_3 (tgt := 11) rfl (fun g1 => ?_) (fun g1 => ?_)
  rotate_left
  · have g1 := (nI_eq (a := g.sz) (b := g.eN) (by omega) (by omega)).mp g1; exfalso; omega
  have g1 := mt (nI_eq (a := g.sz) (b := g.eN) (by omega) (by omega)).mpr g1
  refine lv_aload_n hx hb d_L_add_faf_11 rfl (lv_at hl 2 rfl) ?_
  refine lv_iload_n hx hb d_L_add_faf_12 rfl (lv_at hl 3 rfl) ?_
  refine lv_aload_n hx hb d_L_add_faf_13 rfl (lv_at hl 1 rfl) ?_
  obtain ⟨qp2, ep3⟩ := List.getElem?_of_mem (show ((v, .inr (10, fs)) : Nat × va_E) ∈ LiW dA la g ++ (ws) from (List.mem_append_right _ mo))
  refine nqstO (E := "java/lang/Object") (r := ("SeriesVault$Word", TW, 1)) (f := g.el) (n := g.eN) hx hb hK hP hD hS (1) 7 (qp2) 10 rfl rfl (show va_Nw (.castable "SeriesVault$Word" "java/lang/Object") s from hE.1 _ w1456) ep3 rfl (g.sz) (by omega) (by omega) d_L_add_faf_14 (fun H locs hP hD hS => ?_)
  have hP : va_P D vwCl (LiW dA la (LI.s_el g (va_up g.el g.sz (some v))) ++ (ws)) H := hP
  have hD : va_D A (LiW dA la (LI.s_el g (va_up g.el g.sz (some v))) ++ (ws)) := hD
  refine lv_aload_n hx hb d_L_add_faf_15 rfl (lv_at hl 0 rfl) ?_
  refine lv_iload_n hx hb d_L_add_faf_16 rfl (lv_at hl 3 rfl) ?_
  refine lv_iconst (v := 1) hx hb d_L_add_faf_17 (by decide) ?_
  refine lv_iadd hx hb d_L_add_faf_18 (tpi (y := nI (g.sz + 1)) (nI_add (g.sz) (1)) ?_)
  refine pF (v := .int (nI (g.sz + 1))) hx hb hown hE hK hP hD hS 0 rfl rfl layL tyL tokL nmL 1 (by decide) w657 rfl rfl rfl (Nat.le_of_ble_eq_true rfl) d_L_add_faf_19 (fun H locs hP hD hS => ?_)
  have hP : va_P D vwCl (LiW dA la (LI.s_el (LI.s_sz g (g.sz + 1)) (va_up g.el g.sz (some v))) ++ (ws)) H := hP
  have hD : va_D A (LiW dA la (LI.s_el (LI.s_sz g (g.sz + 1)) (va_up g.el g.sz (some v))) ++ (ws)) := hD
  exact rfV hx hb hr hlk hS () trivial hP hD (Nat.le_of_ble_eq_true rfl) (Nat.le_of_ble_eq_true rfl) d_L_add_faf_22
set_option maxHeartbeats 4000000 in
set_option maxRecDepth 100000 in
theorem v_Ladd_W (l : Launch) (D : va_G) (dA : Nat → ClassId) (sz : Nat) (ws : va_W) (la : Nat → Nat) (g : LI) (v : Nat) (fs : List Value) (h1 : g.sz < g.eN) (hn : g.eN ≤ 65536) (mo : (v, .inr (10, fs)) ∈ ws) : Met l ⟨"java/util/ArrayList", "add", "(Ljava/lang/Object;)Z"⟩ [Cond.code ⟨"java/util/ArrayList", "add", "(Ljava/lang/Object;)Z"⟩ prog_37_method_25_code 2 (some FieldType.boolean)] { frames := 2, cells := 0, slots := 0, locals := 23 } (pC D dA [.ref (la 0), .ref v] (LiW dA la g ++ (ws)) sz) (va_Qi (fun (r9 : Int32) (u9 : Unit) => r9 = 1) (fun (u9 : Unit) t9 => bW D (va_A (LiW dA la g ++ (ws)) sz) (LiW dA la (LI.s_el (LI.s_mc (LI.s_sz g (g.sz + 1)) (g.mc + 1)) (va_up g.el g.sz (some v))) ++ (ws)) t9) (va_A (LiW dA la g ++ (ws)) sz)) 0 0 (va_A (LiW dA la g ++ (ws)) sz) := by
  refine mkC (y := ⟨"java/util/ArrayList", "add", "(Ljava/lang/Object;)Z"⟩) (cc := prog_37_method_25_code) (maxL := 2) (av := [.ref (la 0), .ref v]) (ws := LiW dA la g ++ (ws)) (sz := sz) (Qc := fun A => va_Qi (fun (r9 : Int32) (u9 : Unit) => r9 = 1) (fun (u9 : Unit) t9 => bW D A (LiW dA la (LI.s_el (LI.s_mc (LI.s_sz g (g.sz + 1)) (g.mc + 1)) (va_up g.el g.sz (some v))) ++ (ws)) t9) A) (by decide) (Nat.le_of_ble_eq_true rfl) ?_
  intro A p e s m below meth c ls hsz hB
  obtain ⟨hx, hb, hr, hml, hown, hin, hlk, hE, hK, hP, hD, hS, hA, hN, hl⟩ := hB
  have hown : s.vm.findClass "java/util/ArrayList" = some m.cls := hown
  have hl : lv_has ls 2 [(0, .ref (la 0)), (1, .ref v)] := hl
  obtain ⟨H, hH⟩ : ∃ z, z = s.heap := ⟨_, rfl⟩
  have hP : va_P D vwCl (LiW dA la g ++ (ws)) H := by rw [hH]; exact hP
  have hS : va_S A s.heap H [] := by rw [hH]; exact hS
  rw [← hH]
  refine lv_aload_n hx hb d_L_add_9ae_0 rfl (lv_at hl 0 rfl) ?_
  refine lv_dup hx hb d_L_add_9ae_1 rfl ?_
  refine gFU (v := .int g.mc) hx hb hown hE hK hP 0 rfl rfl layL 2 (by decide) w654 w655 rfl d_L_add_9ae_2 ?_
  refine lv_iconst (v := 1) hx hb d_L_add_9ae_5 (by decide) ?_
  refine lv_iadd hx hb d_L_add_9ae_6 ?_
  refine pFU (v := .int (g.mc + 1)) hx hb hown hE hK hP hD hS 0 rfl rfl layL tyL tokL nmL 2 (by decide) w654 w655 rfl rfl rfl (Nat.le_of_ble_eq_true rfl) d_L_add_9ae_7 (fun H locs hP hD hS => ?_)
  have hP : va_P D vwCl (LiW dA la (LI.s_mc g (g.mc + 1)) ++ (ws)) H := hP
  have hD : va_D A (LiW dA la (LI.s_mc g (g.mc + 1)) ++ (ws)) := hD
  refine lv_aload_n hx hb d_L_add_9ae_10 rfl (lv_at hl 0 rfl) ?_
  refine lv_aload_n hx hb d_L_add_9ae_11 rfl (lv_at hl 1 rfl) ?_
  refine lv_aload_n hx hb d_L_add_9ae_12 rfl (lv_at hl 0 rfl) ?_
  refine gF (v := .ref g.eA) hx hb hown hE hK hP 0 rfl rfl layL 0 (by decide) w656 rfl d_L_add_9ae_13 ?_
  refine lv_aload_n hx hb d_L_add_9ae_16 rfl (lv_at hl 0 rfl) ?_
  refine gF (v := .int (nI g.sz)) hx hb hown hE hK hP 0 rfl rfl layL 1 (by decide) w657 rfl d_L_add_9ae_17 ?_
  refine jkV (wr := []) (rnV (As := [.ref v, .ref g.eA, .int (nI g.sz)]) (rest := []) hx hb hml hown hE hK (hN _ _ hS) hP hD (v_Ladd3_W l D dA H.size ws la (LI.s_mc g (g.mc + 1)) v fs (show g.sz < g.eN from by omega) (show g.eN ≤ 65536 from by omega) mo) (q0 := 0) rfl rfl w778 w777 w779 w780 w680 rfl rfl ⟨⟨by decide, by decide⟩, rfl⟩ ⟨(Nat.le_of_ble_eq_true rfl), (Nat.le_of_ble_eq_true rfl)⟩ rfl hl.1 rfl (Nat.le_of_ble_eq_true rfl) d_L_add_9ae_20 ⟨(Nat.le_of_ble_eq_true rfl), (Nat.le_of_ble_eq_true rfl)⟩) hP hD hS hA (fun u2 H locs hp9 hP hD hS => ?_)
  have hP : va_P D vwCl (LiW dA la (LI.s_el (LI.s_mc (LI.s_sz g (g.sz + 1)) (g.mc + 1)) (va_up g.el g.sz (some v))) ++ (ws)) H := hP
  have hD : va_D A (LiW dA la (LI.s_el (LI.s_mc (LI.s_sz g (g.sz + 1)) (g.mc + 1)) (va_up g.el g.sz (some v))) ++ (ws)) := hD
  refine lv_iconst (v := 1) hx hb d_L_add_9ae_23 (by decide) ?_
  exact rfZ hx hb hr (bI_nar true) hlk hS () rfl hP hD (Nat.le_of_ble_eq_true rfl) (Nat.le_of_ble_eq_true rfl) d_L_add_9ae_24
theorem w1457 : Cond.castable "SeriesVault$Step" "java/lang/Object" ∈ aW := aw_of (tb_11 (List.mem_of_getElem? (i := 109) rfl)) rfl
set_option maxHeartbeats 4000000 in
set_option maxRecDepth 100000 in
theorem v_Ladd3_E (l : Launch) (D : va_G) (dA : Nat → ClassId) (sz : Nat) (ws : va_W) (la : Nat → Nat) (g : LI) (v : Nat) (fs : List Value) (h1 : g.sz < g.eN) (hn : g.eN ≤ 65536) (mo : (v, .inr (13, fs)) ∈ ws) : Met l ⟨"java/util/ArrayList", "add", "(Ljava/lang/Object;[Ljava/lang/Object;I)V"⟩ [Cond.code ⟨"java/util/ArrayList", "add", "(Ljava/lang/Object;[Ljava/lang/Object;I)V"⟩ prog_37_method_24_code 4 none] { frames := 1, cells := 0, slots := 0, locals := 0 } (pC D dA [.ref (la 0), .ref v, .ref g.eA, .int (nI g.sz)] (LiW dA la g ++ (ws)) sz) (va_Qv (fun (u9 : Unit) => True) (fun (u9 : Unit) t9 => bW D (va_A (LiW dA la g ++ (ws)) sz) (LiW dA la (LI.s_el (LI.s_sz g (g.sz + 1)) (va_up g.el g.sz (some v))) ++ (ws)) t9) (va_A (LiW dA la g ++ (ws)) sz)) 0 0 (va_A (LiW dA la g ++ (ws)) sz) := by
  refine mkC (y := ⟨"java/util/ArrayList", "add", "(Ljava/lang/Object;[Ljava/lang/Object;I)V"⟩) (cc := prog_37_method_24_code) (maxL := 4) (av := [.ref (la 0), .ref v, .ref g.eA, .int (nI g.sz)]) (ws := LiW dA la g ++ (ws)) (sz := sz) (Qc := fun A => va_Qv (fun (u9 : Unit) => True) (fun (u9 : Unit) t9 => bW D A (LiW dA la (LI.s_el (LI.s_sz g (g.sz + 1)) (va_up g.el g.sz (some v))) ++ (ws)) t9) A) (by decide) (Nat.le_of_ble_eq_true rfl) ?_
  intro A p e s m below meth c ls hsz hB
  obtain ⟨hx, hb, hr, hml, hown, hin, hlk, hE, hK, hP, hD, hS, hA, hN, hl⟩ := hB
  have hown : s.vm.findClass "java/util/ArrayList" = some m.cls := hown
  have hl : lv_has ls 4 [(0, .ref (la 0)), (1, .ref v), (2, .ref g.eA), (3, .int (nI g.sz))] := hl
  obtain ⟨H, hH⟩ : ∃ z, z = s.heap := ⟨_, rfl⟩
  have hP : va_P D vwCl (LiW dA la g ++ (ws)) H := by rw [hH]; exact hP
  have hS : va_S A s.heap H [] := by rw [hH]; exact hS
  rw [← hH]
  refine lv_iload_n hx hb d_L_add_faf_0 rfl (lv_at hl 3 rfl) ?_
  refine lv_aload_n hx hb d_L_add_faf_1 rfl (lv_at hl 2 rfl) ?_
  refine va_alen (v := nI g.eN) hx hb hK hP (1) 7 rfl rfl rfl d_L_add_faf_2 ?_
  refine lv_icmp_ne hx hb d_L_add_faf_3 (tgt := 11) rfl (fun g1 => ?_) (fun g1 => ?_)
  rotate_left
  · have g1 := (nI_eq (a := g.sz) (b := g.eN) (by omega) (by omega)).mp g1; exfalso; omega
  have g1 := mt (nI_eq (a := g.sz) (b := g.eN) (by omega) (by omega)).mpr g1
  refine lv_aload_n hx hb d_L_add_faf_11 rfl (lv_at hl 2 rfl) ?_
  refine lv_iload_n hx hb d_L_add_faf_12 rfl (lv_at hl 3 rfl) ?_
  refine lv_aload_n hx hb d_L_add_faf_13 rfl (lv_at hl 1 rfl) ?_
  obtain ⟨qp2, ep3⟩ := List.getElem?_of_mem (show ((v, .inr (13, fs)) : Nat × va_E) ∈ LiW dA la g ++ (ws) from (List.mem_append_right _ mo))
  refine nqstO (E := "java/lang/Object") (r := ("SeriesVault$Step", TE, 8)) (f := g.el) (n := g.eN) hx hb hK hP hD hS (1) 7 (qp2) 13 rfl rfl (show va_Nw (.castable "SeriesVault$Step" "java/lang/Object") s from hE.1 _ w1457) ep3 rfl (g.sz) (by omega) (by omega) d_L_add_faf_14 (fun H locs hP hD hS => ?_)
  have hP : va_P D vwCl (LiW dA la (LI.s_el g (va_up g.el g.sz (some v))) ++ (ws)) H := hP
  have hD : va_D A (LiW dA la (LI.s_el g (va_up g.el g.sz (some v))) ++ (ws)) := hD
  refine lv_aload_n hx hb d_L_add_faf_15 rfl (lv_at hl 0 rfl) ?_
  refine lv_iload_n hx hb d_L_add_faf_16 rfl (lv_at hl 3 rfl) ?_
  refine lv_iconst (v := 1) hx hb d_L_add_faf_17 (by decide) ?_
  refine lv_iadd hx hb d_L_add_faf_18 (tpi (y := nI (g.sz + 1)) (nI_add (g.sz) (1)) ?_)
  refine pF (v := .int (nI (g.sz + 1))) hx hb hown hE hK hP hD hS 0 rfl rfl layL tyL tokL nmL 1 (by decide) w657 rfl rfl rfl (Nat.le_of_ble_eq_true rfl) d_L_add_faf_19 (fun H locs hP hD hS => ?_)
  have hP : va_P D vwCl (LiW dA la (LI.s_el (LI.s_sz g (g.sz + 1)) (va_up g.el g.sz (some v))) ++ (ws)) H := hP
  have hD : va_D A (LiW dA la (LI.s_el (LI.s_sz g (g.sz + 1)) (va_up g.el g.sz (some v))) ++ (ws)) := hD
  exact rfV hx hb hr hlk hS () trivial hP hD (Nat.le_of_ble_eq_true rfl) (Nat.le_of_ble_eq_true rfl) d_L_add_faf_22
set_option maxHeartbeats 4000000 in
set_option maxRecDepth 100000 in
theorem v_Ladd_E (l : Launch) (D : va_G) (dA : Nat → ClassId) (sz : Nat) (ws : va_W) (la : Nat → Nat) (g : LI) (v : Nat) (fs : List Value) (h1 : g.sz < g.eN) (hn : g.eN ≤ 65536) (mo : (v, .inr (13, fs)) ∈ ws) : Met l ⟨"java/util/ArrayList", "add", "(Ljava/lang/Object;)Z"⟩ [Cond.code ⟨"java/util/ArrayList", "add", "(Ljava/lang/Object;)Z"⟩ prog_37_method_25_code 2 (some FieldType.boolean)] { frames := 2, cells := 0, slots := 0, locals := 23 } (pC D dA [.ref (la 0), .ref v] (LiW dA la g ++ (ws)) sz) (va_Qi (fun (r9 : Int32) (u9 : Unit) => r9 = 1) (fun (u9 : Unit) t9 => bW D (va_A (LiW dA la g ++ (ws)) sz) (LiW dA la (LI.s_el (LI.s_mc (LI.s_sz g (g.sz + 1)) (g.mc + 1)) (va_up g.el g.sz (some v))) ++ (ws)) t9) (va_A (LiW dA la g ++ (ws)) sz)) 0 0 (va_A (LiW dA la g ++ (ws)) sz) := by
  refine mkC (y := ⟨"java/util/ArrayList", "add", "(Ljava/lang/Object;)Z"⟩) (cc := prog_37_method_25_code) (maxL := 2) (av := [.ref (la 0), .ref v]) (ws := LiW dA la g ++ (ws)) (sz := sz) (Qc := fun A => va_Qi (fun (r9 : Int32) (u9 : Unit) => r9 = 1) (fun (u9 : Unit) t9 => bW D A (LiW dA la (LI.s_el (LI.s_mc (LI.s_sz g (g.sz + 1)) (g.mc + 1)) (va_up g.el g.sz (some v))) ++ (ws)) t9) A) (by decide) (Nat.le_of_ble_eq_true rfl) ?_
  intro A p e s m below meth c ls hsz hB
  obtain ⟨hx, hb, hr, hml, hown, hin, hlk, hE, hK, hP, hD, hS, hA, hN, hl⟩ := hB
  have hown : s.vm.findClass "java/util/ArrayList" = some m.cls := hown
  have hl : lv_has ls 2 [(0, .ref (la 0)), (1, .ref v)] := hl
  obtain ⟨H, hH⟩ : ∃ z, z = s.heap := ⟨_, rfl⟩
  have hP : va_P D vwCl (LiW dA la g ++ (ws)) H := by rw [hH]; exact hP
  have hS : va_S A s.heap H [] := by rw [hH]; exact hS
  rw [← hH]
  refine lv_aload_n hx hb d_L_add_9ae_0 rfl (lv_at hl 0 rfl) ?_
  refine lv_dup hx hb d_L_add_9ae_1 rfl ?_
  refine gFU (v := .int g.mc) hx hb hown hE hK hP 0 rfl rfl layL 2 (by decide) w654 w655 rfl d_L_add_9ae_2 ?_
  refine lv_iconst (v := 1) hx hb d_L_add_9ae_5 (by decide) ?_
  refine lv_iadd hx hb d_L_add_9ae_6 ?_
  refine pFU (v := .int (g.mc + 1)) hx hb hown hE hK hP hD hS 0 rfl rfl layL tyL tokL nmL 2 (by decide) w654 w655 rfl rfl rfl (Nat.le_of_ble_eq_true rfl) d_L_add_9ae_7 (fun H locs hP hD hS => ?_)
  have hP : va_P D vwCl (LiW dA la (LI.s_mc g (g.mc + 1)) ++ (ws)) H := hP
  have hD : va_D A (LiW dA la (LI.s_mc g (g.mc + 1)) ++ (ws)) := hD
  refine lv_aload_n hx hb d_L_add_9ae_10 rfl (lv_at hl 0 rfl) ?_
  refine lv_aload_n hx hb d_L_add_9ae_11 rfl (lv_at hl 1 rfl) ?_
  refine lv_aload_n hx hb d_L_add_9ae_12 rfl (lv_at hl 0 rfl) ?_
  refine gF (v := .ref g.eA) hx hb hown hE hK hP 0 rfl rfl layL 0 (by decide) w656 rfl d_L_add_9ae_13 ?_
  refine lv_aload_n hx hb d_L_add_9ae_16 rfl (lv_at hl 0 rfl) ?_
  refine gF (v := .int (nI g.sz)) hx hb hown hE hK hP 0 rfl rfl layL 1 (by decide) w657 rfl d_L_add_9ae_17 ?_
  refine jkV (wr := []) (rnV (As := [.ref v, .ref g.eA, .int (nI g.sz)]) (rest := []) hx hb hml hown hE hK (hN _ _ hS) hP hD (v_Ladd3_E l D dA H.size ws la (LI.s_mc g (g.mc + 1)) v fs (show g.sz < g.eN from by omega) (show g.eN ≤ 65536 from by omega) mo) (q0 := 0) rfl rfl w778 w777 w779 w780 w680 rfl rfl ⟨⟨by decide, by decide⟩, rfl⟩ ⟨(Nat.le_of_ble_eq_true rfl), (Nat.le_of_ble_eq_true rfl)⟩ rfl hl.1 rfl (Nat.le_of_ble_eq_true rfl) d_L_add_9ae_20 ⟨(Nat.le_of_ble_eq_true rfl), (Nat.le_of_ble_eq_true rfl)⟩) hP hD hS hA (fun u2 H locs hp9 hP hD hS => ?_)
  have hP : va_P D vwCl (LiW dA la (LI.s_el (LI.s_mc (LI.s_sz g (g.sz + 1)) (g.mc + 1)) (va_up g.el g.sz (some v))) ++ (ws)) H := hP
  have hD : va_D A (LiW dA la (LI.s_el (LI.s_mc (LI.s_sz g (g.sz + 1)) (g.mc + 1)) (va_up g.el g.sz (some v))) ++ (ws)) := hD
  refine lv_iconst (v := 1) hx hb d_L_add_9ae_23 (by decide) ?_
  exact rfZ hx hb hr (bI_nar true) hlk hS () rfl hP hD (Nat.le_of_ble_eq_true rfl) (Nat.le_of_ble_eq_true rfl) d_L_add_9ae_24
set_option maxHeartbeats 4000000 in
set_option maxRecDepth 100000 in
theorem v_Ladd3_T (l : Launch) (D : va_G) (dA : Nat → ClassId) (sz : Nat) (ws : va_W) (la : Nat → Nat) (g : LI) (v : Nat) (fs : List Value) (h1 : g.sz < g.eN) (hn : g.eN ≤ 65536) (mo : (v, .inr (8, fs)) ∈ ws) : Met l ⟨"java/util/ArrayList", "add", "(Ljava/lang/Object;[Ljava/lang/Object;I)V"⟩ [Cond.code ⟨"java/util/ArrayList", "add", "(Ljava/lang/Object;[Ljava/lang/Object;I)V"⟩ prog_37_method_24_code 4 none] { frames := 1, cells := 0, slots := 0, locals := 0 } (pC D dA [.ref (la 0), .ref v, .ref g.eA, .int (nI g.sz)] (LiW dA la g ++ (ws)) sz) (va_Qv (fun (u9 : Unit) => True) (fun (u9 : Unit) t9 => bW D (va_A (LiW dA la g ++ (ws)) sz) (LiW dA la (LI.s_el (LI.s_sz g (g.sz + 1)) (va_up g.el g.sz (some v))) ++ (ws)) t9) (va_A (LiW dA la g ++ (ws)) sz)) 0 0 (va_A (LiW dA la g ++ (ws)) sz) := by
  refine mkC (y := ⟨"java/util/ArrayList", "add", "(Ljava/lang/Object;[Ljava/lang/Object;I)V"⟩) (cc := prog_37_method_24_code) (maxL := 4) (av := [.ref (la 0), .ref v, .ref g.eA, .int (nI g.sz)]) (ws := LiW dA la g ++ (ws)) (sz := sz) (Qc := fun A => va_Qv (fun (u9 : Unit) => True) (fun (u9 : Unit) t9 => bW D A (LiW dA la (LI.s_el (LI.s_sz g (g.sz + 1)) (va_up g.el g.sz (some v))) ++ (ws)) t9) A) (by decide) (Nat.le_of_ble_eq_true rfl) ?_
  intro A p e s m below meth c ls hsz hB
  obtain ⟨hx, hb, hr, hml, hown, hin, hlk, hE, hK, hP, hD, hS, hA, hN, hl⟩ := hB
  have hown : s.vm.findClass "java/util/ArrayList" = some m.cls := hown
  have hl : lv_has ls 4 [(0, .ref (la 0)), (1, .ref v), (2, .ref g.eA), (3, .int (nI g.sz))] := hl
  obtain ⟨H, hH⟩ : ∃ z, z = s.heap := ⟨_, rfl⟩
  have hP : va_P D vwCl (LiW dA la g ++ (ws)) H := by rw [hH]; exact hP
  have hS : va_S A s.heap H [] := by rw [hH]; exact hS
  rw [← hH]
  refine lv_iload_n hx hb d_L_add_faf_0 rfl (lv_at hl 3 rfl) ?_
  refine lv_aload_n hx hb d_L_add_faf_1 rfl (lv_at hl 2 rfl) ?_
  refine va_alen (v := nI g.eN) hx hb hK hP (1) 7 rfl rfl rfl d_L_add_faf_2 ?_
  refine lv_icmp_ne hx hb d_L_add_faf_3 (tgt := 11) rfl (fun g1 => ?_) (fun g1 => ?_)
  rotate_left
  · have g1 := (nI_eq (a := g.sz) (b := g.eN) (by omega) (by omega)).mp g1; exfalso; omega
  have g1 := mt (nI_eq (a := g.sz) (b := g.eN) (by omega) (by omega)).mpr g1
  refine lv_aload_n hx hb d_L_add_faf_11 rfl (lv_at hl 2 rfl) ?_
  refine lv_iload_n hx hb d_L_add_faf_12 rfl (lv_at hl 3 rfl) ?_
  refine lv_aload_n hx hb d_L_add_faf_13 rfl (lv_at hl 1 rfl) ?_
  obtain ⟨qp2, ep3⟩ := List.getElem?_of_mem (show ((v, .inr (8, fs)) : Nat × va_E) ∈ LiW dA la g ++ (ws) from (List.mem_append_right _ mo))
  refine nqstO (E := "java/lang/Object") (r := ("SeriesVault$Table", TT, 7)) (f := g.el) (n := g.eN) hx hb hK hP hD hS (1) 7 (qp2) 8 rfl rfl (show va_Nw (.castable "SeriesVault$Table" "java/lang/Object") s from hE.1 _ w776) ep3 rfl (g.sz) (by omega) (by omega) d_L_add_faf_14 (fun H locs hP hD hS => ?_)
  have hP : va_P D vwCl (LiW dA la (LI.s_el g (va_up g.el g.sz (some v))) ++ (ws)) H := hP
  have hD : va_D A (LiW dA la (LI.s_el g (va_up g.el g.sz (some v))) ++ (ws)) := hD
  refine lv_aload_n hx hb d_L_add_faf_15 rfl (lv_at hl 0 rfl) ?_
  refine lv_iload_n hx hb d_L_add_faf_16 rfl (lv_at hl 3 rfl) ?_
  refine lv_iconst (v := 1) hx hb d_L_add_faf_17 (by decide) ?_
  refine lv_iadd hx hb d_L_add_faf_18 (tpi (y := nI (g.sz + 1)) (nI_add (g.sz) (1)) ?_)
  refine pF (v := .int (nI (g.sz + 1))) hx hb hown hE hK hP hD hS 0 rfl rfl layL tyL tokL nmL 1 (by decide) w657 rfl rfl rfl (Nat.le_of_ble_eq_true rfl) d_L_add_faf_19 (fun H locs hP hD hS => ?_)
  have hP : va_P D vwCl (LiW dA la (LI.s_el (LI.s_sz g (g.sz + 1)) (va_up g.el g.sz (some v))) ++ (ws)) H := hP
  have hD : va_D A (LiW dA la (LI.s_el (LI.s_sz g (g.sz + 1)) (va_up g.el g.sz (some v))) ++ (ws)) := hD
  exact rfV hx hb hr hlk hS () trivial hP hD (Nat.le_of_ble_eq_true rfl) (Nat.le_of_ble_eq_true rfl) d_L_add_faf_22
set_option maxHeartbeats 4000000 in
set_option maxRecDepth 100000 in
theorem v_Ladd_T (l : Launch) (D : va_G) (dA : Nat → ClassId) (sz : Nat) (ws : va_W) (la : Nat → Nat) (g : LI) (v : Nat) (fs : List Value) (h1 : g.sz < g.eN) (hn : g.eN ≤ 65536) (mo : (v, .inr (8, fs)) ∈ ws) : Met l ⟨"java/util/ArrayList", "add", "(Ljava/lang/Object;)Z"⟩ [Cond.code ⟨"java/util/ArrayList", "add", "(Ljava/lang/Object;)Z"⟩ prog_37_method_25_code 2 (some FieldType.boolean)] { frames := 2, cells := 0, slots := 0, locals := 23 } (pC D dA [.ref (la 0), .ref v] (LiW dA la g ++ (ws)) sz) (va_Qi (fun (r9 : Int32) (u9 : Unit) => r9 = 1) (fun (u9 : Unit) t9 => bW D (va_A (LiW dA la g ++ (ws)) sz) (LiW dA la (LI.s_el (LI.s_mc (LI.s_sz g (g.sz + 1)) (g.mc + 1)) (va_up g.el g.sz (some v))) ++ (ws)) t9) (va_A (LiW dA la g ++ (ws)) sz)) 0 0 (va_A (LiW dA la g ++ (ws)) sz) := by
  refine mkC (y := ⟨"java/util/ArrayList", "add", "(Ljava/lang/Object;)Z"⟩) (cc := prog_37_method_25_code) (maxL := 2) (av := [.ref (la 0), .ref v]) (ws := LiW dA la g ++ (ws)) (sz := sz) (Qc := fun A => va_Qi (fun (r9 : Int32) (u9 : Unit) => r9 = 1) (fun (u9 : Unit) t9 => bW D A (LiW dA la (LI.s_el (LI.s_mc (LI.s_sz g (g.sz + 1)) (g.mc + 1)) (va_up g.el g.sz (some v))) ++ (ws)) t9) A) (by decide) (Nat.le_of_ble_eq_true rfl) ?_
  intro A p e s m below meth c ls hsz hB
  obtain ⟨hx, hb, hr, hml, hown, hin, hlk, hE, hK, hP, hD, hS, hA, hN, hl⟩ := hB
  have hown : s.vm.findClass "java/util/ArrayList" = some m.cls := hown
  have hl : lv_has ls 2 [(0, .ref (la 0)), (1, .ref v)] := hl
  obtain ⟨H, hH⟩ : ∃ z, z = s.heap := ⟨_, rfl⟩
  have hP : va_P D vwCl (LiW dA la g ++ (ws)) H := by rw [hH]; exact hP
  have hS : va_S A s.heap H [] := by rw [hH]; exact hS
  rw [← hH]
  refine lv_aload_n hx hb d_L_add_9ae_0 rfl (lv_at hl 0 rfl) ?_
  refine lv_dup hx hb d_L_add_9ae_1 rfl ?_
  refine gFU (v := .int g.mc) hx hb hown hE hK hP 0 rfl rfl layL 2 (by decide) w654 w655 rfl d_L_add_9ae_2 ?_
  refine lv_iconst (v := 1) hx hb d_L_add_9ae_5 (by decide) ?_
  refine lv_iadd hx hb d_L_add_9ae_6 ?_
  refine pFU (v := .int (g.mc + 1)) hx hb hown hE hK hP hD hS 0 rfl rfl layL tyL tokL nmL 2 (by decide) w654 w655 rfl rfl rfl (Nat.le_of_ble_eq_true rfl) d_L_add_9ae_7 (fun H locs hP hD hS => ?_)
  have hP : va_P D vwCl (LiW dA la (LI.s_mc g (g.mc + 1)) ++ (ws)) H := hP
  have hD : va_D A (LiW dA la (LI.s_mc g (g.mc + 1)) ++ (ws)) := hD
  refine lv_aload_n hx hb d_L_add_9ae_10 rfl (lv_at hl 0 rfl) ?_
  refine lv_aload_n hx hb d_L_add_9ae_11 rfl (lv_at hl 1 rfl) ?_
  refine lv_aload_n hx hb d_L_add_9ae_12 rfl (lv_at hl 0 rfl) ?_
  refine gF (v := .ref g.eA) hx hb hown hE hK hP 0 rfl rfl layL 0 (by decide) w656 rfl d_L_add_9ae_13 ?_
  refine lv_aload_n hx hb d_L_add_9ae_16 rfl (lv_at hl 0 rfl) ?_
  refine gF (v := .int (nI g.sz)) hx hb hown hE hK hP 0 rfl rfl layL 1 (by decide) w657 rfl d_L_add_9ae_17 ?_
  refine jkV (wr := []) (rnV (As := [.ref v, .ref g.eA, .int (nI g.sz)]) (rest := []) hx hb hml hown hE hK (hN _ _ hS) hP hD (v_Ladd3_T l D dA H.size ws la (LI.s_mc g (g.mc + 1)) v fs (show g.sz < g.eN from by omega) (show g.eN ≤ 65536 from by omega) mo) (q0 := 0) rfl rfl w778 w777 w779 w780 w680 rfl rfl ⟨⟨by decide, by decide⟩, rfl⟩ ⟨(Nat.le_of_ble_eq_true rfl), (Nat.le_of_ble_eq_true rfl)⟩ rfl hl.1 rfl (Nat.le_of_ble_eq_true rfl) d_L_add_9ae_20 ⟨(Nat.le_of_ble_eq_true rfl), (Nat.le_of_ble_eq_true rfl)⟩) hP hD hS hA (fun u2 H locs hp9 hP hD hS => ?_)
  have hP : va_P D vwCl (LiW dA la (LI.s_el (LI.s_mc (LI.s_sz g (g.sz + 1)) (g.mc + 1)) (va_up g.el g.sz (some v))) ++ (ws)) H := hP
  have hD : va_D A (LiW dA la (LI.s_el (LI.s_mc (LI.s_sz g (g.sz + 1)) (g.mc + 1)) (va_up g.el g.sz (some v))) ++ (ws)) := hD
  refine lv_iconst (v := 1) hx hb d_L_add_9ae_23 (by decide) ?_
  exact rfZ hx hb hr (bI_nar true) hlk hS () rfl hP hD (Nat.le_of_ble_eq_true rfl) (Nat.le_of_ble_eq_true rfl) d_L_add_9ae_24
