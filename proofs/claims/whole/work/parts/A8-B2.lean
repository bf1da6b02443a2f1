section
def VS.hgS (x : VS) (pa : Nat → Nat) : VS := VS.s_hV (VS.s_hT (VS.s_hO (VS.s_hN (VS.s_hA x pa) (2 * x.hsize)) (va_cpy x.hO (fun _ => 0) 0 0 (min x.hN (2 * x.hsize)))) (va_cpy x.hT (fun _ => 0) 0 0 (min x.hN (2 * x.hsize)))) (va_cpy x.hV (fun _ => 0) 0 0 (min x.hN (2 * x.hsize)))
def VS.haS (x : VS) (w : Nat) (a b : Int64) : VS := VS.s_hsize (VS.s_hV (VS.s_hT (VS.s_hO x (va_up x.hO x.hsize w)) (va_up x.hT x.hsize a)) (va_up x.hV x.hsize b)) (x.hsize + 1)
def VS.hcap (x : VS) : Nat := if x.hsize = x.hN then 2 * x.hsize else x.hN
def VS.haF (x : VS) (pa : Nat → Nat) (w : Nat) (a b : Int64) : VS := (if x.hsize = x.hN then x.hgS pa else x).haS w a b
theorem d_P_add_12 : decode prog_5_method_3_code 12 = .ok (.aload_n 0, 1) := by decide +kernel
theorem d_P_add_13 : decode prog_5_method_3_code 13 = .ok (.aload_n 0, 1) := by decide +kernel
theorem d_P_add_14 : decode prog_5_method_3_code 14 = .ok (.getfield 7, 3) := by decide +kernel
theorem d_P_add_17 : decode prog_5_method_3_code 17 = .ok (.iconst 2, 1) := by decide +kernel
theorem d_P_add_18 : decode prog_5_method_3_code 18 = .ok (.aload_n 0, 1) := by decide +kernel
theorem d_P_add_19 : decode prog_5_method_3_code 19 = .ok (.getfield 20, 3) := by decide +kernel
theorem d_P_add_22 : decode prog_5_method_3_code 22 = .ok (.imul, 1) := by decide +kernel
theorem d_P_add_23 : decode prog_5_method_3_code 23 = .ok (.invokestatic 24, 3) := by decide +kernel
theorem d_P_add_26 : decode prog_5_method_3_code 26 = .ok (.putfield 7, 3) := by decide +kernel
theorem d_P_add_29 : decode prog_5_method_3_code 29 = .ok (.aload_n 0, 1) := by decide +kernel
theorem d_P_add_30 : decode prog_5_method_3_code 30 = .ok (.aload_n 0, 1) := by decide +kernel
theorem d_P_add_31 : decode prog_5_method_3_code 31 = .ok (.getfield 13, 3) := by decide +kernel
theorem d_P_add_34 : decode prog_5_method_3_code 34 = .ok (.iconst 2, 1) := by decide +kernel
theorem d_P_add_35 : decode prog_5_method_3_code 35 = .ok (.aload_n 0, 1) := by decide +kernel
theorem d_P_add_36 : decode prog_5_method_3_code 36 = .ok (.getfield 20, 3) := by decide +kernel
theorem d_P_add_39 : decode prog_5_method_3_code 39 = .ok (.imul, 1) := by decide +kernel
theorem d_P_add_40 : decode prog_5_method_3_code 40 = .ok (.invokestatic 30, 3) := by decide +kernel
theorem d_P_add_43 : decode prog_5_method_3_code 43 = .ok (.putfield 13, 3) := by decide +kernel
theorem d_P_add_46 : decode prog_5_method_3_code 46 = .ok (.aload_n 0, 1) := by decide +kernel
theorem d_P_add_47 : decode prog_5_method_3_code 47 = .ok (.aload_n 0, 1) := by decide +kernel
theorem d_P_add_48 : decode prog_5_method_3_code 48 = .ok (.getfield 17, 3) := by decide +kernel
theorem d_P_add_51 : decode prog_5_method_3_code 51 = .ok (.iconst 2, 1) := by decide +kernel
theorem d_P_add_52 : decode prog_5_method_3_code 52 = .ok (.aload_n 0, 1) := by decide +kernel
theorem d_P_add_53 : decode prog_5_method_3_code 53 = .ok (.getfield 20, 3) := by decide +kernel
theorem d_P_add_56 : decode prog_5_method_3_code 56 = .ok (.imul, 1) := by decide +kernel
theorem d_P_add_57 : decode prog_5_method_3_code 57 = .ok (.invokestatic 30, 3) := by decide +kernel
theorem d_P_add_60 : decode prog_5_method_3_code 60 = .ok (.putfield 17, 3) := by decide +kernel
theorem w1130 : Cond.methodLink "SeriesVault$Points" 24 ⟨"java/util/Arrays", "copyOf", "([II)[I"⟩ ∈ aW := aw_of (tb_5 (List.mem_of_getElem? (i := 157) rfl)) rfl
theorem w1131 : Cond.methodLink "SeriesVault$Points" 30 ⟨"java/util/Arrays", "copyOf", "([JI)[J"⟩ ∈ aW := aw_of (tb_5 (List.mem_of_getElem? (i := 158) rfl)) rfl
set_option maxHeartbeats 4000000 in
set_option maxRecDepth 100000 in
theorem v_paddF_h (l : Launch) (D : va_G) (dA : Nat → ClassId) (sz : Nat) (h : Nat) (ad : Nat → Nat) (x : VS) (w : Nat) (a : Int64) (b : Int64) (hs1 : x.hsize ≤ x.hN) (hs2 : 0 < x.hN) (hs3 : x.hN ≤ 32768) : Met l ⟨"SeriesVault$Points", "add", "(IJJ)V"⟩ [Cond.code ⟨"SeriesVault$Points", "add", "(IJJ)V"⟩ prog_5_method_3_code 6 none] { frames := 2, cells := 3 * (x.hcap - x.hN), slots := 6 * (x.hcap - x.hN), locals := 62 } (pC D dA [.ref (ad 1), .int (nI w), .long a, .long b] (VW dA h ad x) sz) (va_Qv (fun (u9 : VS) => ∃ pa : Nat → Nat, u9 = x.haF pa w a b) (fun (u9 : VS) t9 => bW D (va_A (VW dA h ad x) sz) (VW dA h ad u9) t9) (va_A (VW dA h ad x) sz)) (3 * (x.hcap - x.hN)) (6 * (x.hcap - x.hN)) (va_A (VW dA h ad x) sz) := by
  refine mkC (y := ⟨"SeriesVault$Points", "add", "(IJJ)V"⟩) (cc := prog_5_method_3_code) (maxL := 6) (av := [.ref (ad 1), .int (nI w), .long a, .long b]) (ws := VW dA h ad x) (sz := sz) (Qc := fun A => va_Qv (fun (u9 : VS) => ∃ pa : Nat → Nat, u9 = x.haF pa w a b) (fun (u9 : VS) t9 => bW D A (VW dA h ad u9) t9) A) (by decide) (Nat.le_of_ble_eq_true rfl) ?_
  intro A p e s m below meth c ls hsz hB
  obtain ⟨hx, hb, hr, hml, hown, hin, hlk, hE, hK, hP, hD, hS, hA, hN, hl⟩ := hB
  have hown : s.vm.findClass "SeriesVault$Points" = some m.cls := hown
  have hl : lv_has ls 6 [(0, .ref (ad 1)), (1, .int (nI w)), (2, .long a), (4, .long b)] := hl
  obtain ⟨H, hH⟩ : ∃ z, z = s.heap := ⟨_, rfl⟩
  have hP : va_P D vwCl (VW dA h ad x) H := by rw [hH]; exact hP
  have hS : va_S A s.heap H [] := by rw [hH]; exact hS
  rw [← hH]
  refine lv_aload_n hx hb d_P_add_0 rfl (lv_at hl 0 rfl) ?_
  refine gF (v := .int (nI x.hsize)) hx hb hown hE hK hP 9 rfl rfl layP 3 (by decide) w565 rfl d_P_add_1 ?_
  refine lv_aload_n hx hb d_P_add_4 rfl (lv_at hl 0 rfl) ?_
  refine gF (v := .ref (x.hA 0)) hx hb hown hE hK hP 9 rfl rfl layP 0 (by decide) w185 rfl d_P_add_5 ?_
  refine va_alen (v := nI x.hN) hx hb hK hP (10) 1 rfl rfl rfl d_P_add_8 ?_
  refine lv_icmp_ne hx hb d_P_add_9 (tgt := 63) rfl (fun g1 => ?_) (fun g1 => ?_)
  · have g1 := mt (nI_eq (a := x.hsize) (b := x.hN) (by omega) (by omega)).mpr g1
    have jc : x.hcap = x.hN := if_neg g1
    refine lv_aload_n hx hb d_P_add_63 rfl (lv_at hl 0 rfl) ?_
    refine lv_aload_n hx hb d_P_add_64 rfl (lv_at hl 0 rfl) ?_
    refine gF (v := .int (nI x.hsize)) hx hb hown hE hK hP 9 rfl rfl layP 3 (by decide) w565 rfl d_P_add_65 ?_
    refine lv_iload_n hx hb d_P_add_68 rfl (lv_at hl 1 rfl) ?_
    refine lv_lload_n hx hb d_P_add_69 rfl (lv_at hl 2 rfl) ?_
    refine lv_lload hx hb d_P_add_70 (lv_at hl 3 rfl) ?_
    refine jfV (rnV (As := [.int (nI x.hsize), .int (nI w), .long a, .long b]) (rest := []) hx hb hml hown hE hK (hN _ _ hS) hP hD (v_pset_h l D dA H.size h ad x x.hsize w a b (show x.hsize < x.hN from by omega) (show x.hN ≤ 65536 from by omega)) (q0 := 9) rfl rfl w1086 w1085 w1087 w1088 w578 rfl rfl ⟨⟨by decide, by decide⟩, rfl⟩ ⟨(Nat.le_of_ble_eq_true rfl), (Nat.le_of_ble_eq_true rfl)⟩ rfl hl.1 rfl (Nat.le_of_ble_eq_true rfl) d_P_add_72 ⟨(show 0 + 0 ≤ 3 * (x.hcap - x.hN) by omega), (show 0 + 0 ≤ 6 * (x.hcap - x.hN) by omega)⟩) hP hD hS hA (fun u3 H locs hp9 hP hD hS => ?_)
    have hP : va_P D vwCl (VW dA h ad (VS.s_hV (VS.s_hT (VS.s_hO x (va_up x.hO x.hsize w)) (va_up x.hT x.hsize a)) (va_up x.hV x.hsize b))) H := hP
    have hD : va_D A (VW dA h ad (VS.s_hV (VS.s_hT (VS.s_hO x (va_up x.hO x.hsize w)) (va_up x.hT x.hsize a)) (va_up x.hV x.hsize b))) := hD
    refine lv_aload_n hx hb d_P_add_75 rfl (lv_at hl 0 rfl) ?_
    refine lv_dup hx hb d_P_add_76 rfl ?_
    refine gF (v := .int (nI x.hsize)) hx hb hown hE hK hP 9 rfl rfl layP 3 (by decide) w565 rfl d_P_add_77 ?_
    refine lv_iconst (v := 1) hx hb d_P_add_80 (by decide) ?_
    refine lv_iadd hx hb d_P_add_81 (tpi (y := nI (x.hsize + 1)) (nI_add (x.hsize) (1)) ?_)
    refine pF (v := .int (nI (x.hsize + 1))) hx hb hown hE hK hP hD hS 9 rfl rfl layP tyP tokP nmP 3 (by decide) w565 rfl rfl rfl (Nat.le_of_ble_eq_true rfl) d_P_add_82 (fun H locs hP hD hS => ?_)
    have hP : va_P D vwCl (VW dA h ad (VS.s_hsize (VS.s_hV (VS.s_hT (VS.s_hO x (va_up x.hO x.hsize w)) (va_up x.hT x.hsize a)) (va_up x.hV x.hsize b)) (x.hsize + 1))) H := hP
    have hD : va_D A (VW dA h ad (VS.s_hsize (VS.s_hV (VS.s_hT (VS.s_hO x (va_up x.hO x.hsize w)) (va_up x.hT x.hsize a)) (va_up x.hV x.hsize b)) (x.hsize + 1))) := hD
    exact rfV hx hb hr hlk hS (VS.s_hsize (VS.s_hV (VS.s_hT (VS.s_hO x (va_up x.hO x.hsize w)) (va_up x.hT x.hsize a)) (va_up x.hV x.hsize b)) (x.hsize + 1)) ⟨x.hA, by unfold VS.haF; rw [if_neg g1]; rfl⟩ hP hD (show 0 + 0 ≤ 3 * (x.hcap - x.hN) by omega) (show 0 + 0 ≤ 6 * (x.hcap - x.hN) by omega) d_P_add_85
  · have g1 := (nI_eq (a := x.hsize) (b := x.hN) (by omega) (by omega)).mp g1
    have jc : x.hcap = 2 * x.hsize := if_pos g1
    refine lv_aload_n hx hb d_P_add_12 rfl (lv_at hl 0 rfl) ?_
    refine lv_aload_n hx hb d_P_add_13 rfl (lv_at hl 0 rfl) ?_
    refine gF (v := .ref (x.hA 0)) hx hb hown hE hK hP 9 rfl rfl layP 0 (by decide) w185 rfl d_P_add_14 ?_
    refine lv_iconst (v := 2) hx hb d_P_add_17 (by decide) ?_
    refine lv_aload_n hx hb d_P_add_18 rfl (lv_at hl 0 rfl) ?_
    refine gF (v := .int (nI x.hsize)) hx hb hown hE hK hP 9 rfl rfl layP 3 (by decide) w565 rfl d_P_add_19 ?_
    refine lv_imul hx hb d_P_add_22 (tpi (y := nI (2 * x.hsize)) (pk_mul (2) (x.hsize)) ?_)
    refine jfR (rnS (As := [.ref (x.hA 0), .int (nI (2 * x.hsize))]) (rest := [.ref (ad 1)]) hx hb hml hown hE hK (hN _ _ hS) hP hD (v_copyOfI l D dA H.size (VW dA h ad x) (10) (x.hA 0) x.hN x.hO (2 * x.hsize) rfl (show x.hN < 2 * x.hsize by omega) (show 2 * x.hsize ≤ 131072 by omega)) w1111 w1130 w1113 w712 rfl rfl ⟨⟨by decide, by decide⟩, rfl⟩ ⟨(Nat.le_of_ble_eq_true rfl), (Nat.le_of_ble_eq_true rfl)⟩ rfl hl.1 rfl (Nat.le_of_ble_eq_true rfl) d_P_add_23 ⟨(show 0 + 1 ≤ 3 * (x.hcap - x.hN) by omega), (show 0 + (2 * x.hsize) ≤ 6 * (x.hcap - x.hN) by omega)⟩) hP hD hS hA (fun u9 q4 H locs hp9 hP hD hS => ?_)
    have hP : va_P D vwCl ([(q4, .inl (dA 1, 2 * x.hsize, .inl (fun z9 => nI ((va_cpy x.hO (fun _ => 0) 0 0 (min x.hN (2 * x.hsize))) z9))))] ++ VW dA h ad x) H := hP
    have hD : va_D A ([(q4, .inl (dA 1, 2 * x.hsize, .inl (fun z9 => nI ((va_cpy x.hO (fun _ => 0) 0 0 (min x.hN (2 * x.hsize))) z9))))] ++ VW dA h ad x) := hD
    refine pF (v := .ref q4) hx hb hown hE hK hP hD hS 10 rfl rfl layP tyP tokP nmP 0 (by decide) w185 rfl rfl rfl (Nat.le_of_ble_eq_true rfl) d_P_add_26 (fun H locs hP hD hS => ?_)
    have hP : va_P D vwCl ([(q4, .inl (dA 1, 2 * x.hsize, .inl (fun z9 => nI ((va_cpy x.hO (fun _ => 0) 0 0 (min x.hN (2 * x.hsize))) z9))))] ++ VWf dA h ad x (VS.s_hA x (va_up x.hA 0 q4))) H := hP
    have hD : va_D A ([(q4, .inl (dA 1, 2 * x.hsize, .inl (fun z9 => nI ((va_cpy x.hO (fun _ => 0) 0 0 (min x.hN (2 * x.hsize))) z9))))] ++ VWf dA h ad x (VS.s_hA x (va_up x.hA 0 q4))) := hD
    refine lv_aload_n hx hb d_P_add_29 rfl (lv_at hl 0 rfl) ?_
    refine lv_aload_n hx hb d_P_add_30 rfl (lv_at hl 0 rfl) ?_
    refine gF (v := .ref (x.hA 1)) hx hb hown hE hK hP 10 rfl rfl layP 1 (by decide) w187 rfl d_P_add_31 ?_
    refine lv_iconst (v := 2) hx hb d_P_add_34 (by decide) ?_
    refine lv_aload_n hx hb d_P_add_35 rfl (lv_at hl 0 rfl) ?_
    refine gF (v := .int (nI x.hsize)) hx hb hown hE hK hP 10 rfl rfl layP 3 (by decide) w565 rfl d_P_add_36 ?_
    refine lv_imul hx hb d_P_add_39 (tpi (y := nI (2 * x.hsize)) (pk_mul (2) (x.hsize)) ?_)
    refine jfR (rnS (As := [.ref (x.hA 1), .int (nI (2 * x.hsize))]) (rest := [.ref (ad 1)]) hx hb hml hown hE hK (hN _ _ hS) hP hD (v_copyOfJ l D dA H.size ([(q4, .inl (dA 1, 2 * x.hsize, .inl (fun z9 => nI ((va_cpy x.hO (fun _ => 0) 0 0 (min x.hN (2 * x.hsize))) z9))))] ++ VWf dA h ad x (VS.s_hA x (va_up x.hA 0 q4))) (12) (x.hA 1) x.hN x.hT (2 * x.hsize) rfl (show x.hN < 2 * x.hsize by omega) (show 2 * x.hsize ≤ 131072 by omega)) w1114 w1131 w1116 w712 rfl rfl ⟨⟨by decide, by decide⟩, rfl⟩ ⟨(Nat.le_of_ble_eq_true rfl), (Nat.le_of_ble_eq_true rfl)⟩ rfl hl.1 rfl (Nat.le_of_ble_eq_true rfl) d_P_add_40 ⟨(show (0 + 1) + 1 ≤ 3 * (x.hcap - x.hN) by omega), (show (0 + (2 * x.hsize)) + (2 * x.hsize) ≤ 6 * (x.hcap - x.hN) by omega)⟩) hP hD hS hA (fun u9 q5 H locs hp9 hP hD hS => ?_)
    have hP : va_P D vwCl ([(q5, .inl (dA 2, 2 * x.hsize, .inr (.inl (va_cpy x.hT (fun _ => 0) 0 0 (min x.hN (2 * x.hsize)))))), (q4, .inl (dA 1, 2 * x.hsize, .inl (fun z9 => nI ((va_cpy x.hO (fun _ => 0) 0 0 (min x.hN (2 * x.hsize))) z9))))] ++ VWf dA h ad x (VS.s_hA x (va_up x.hA 0 q4))) H := hP
    have hD : va_D A ([(q5, .inl (dA 2, 2 * x.hsize, .inr (.inl (va_cpy x.hT (fun _ => 0) 0 0 (min x.hN (2 * x.hsize)))))), (q4, .inl (dA 1, 2 * x.hsize, .inl (fun z9 => nI ((va_cpy x.hO (fun _ => 0) 0 0 (min x.hN (2 * x.hsize))) z9))))] ++ VWf dA h ad x (VS.s_hA x (va_up x.hA 0 q4))) := hD
    refine pF (v := .ref q5) hx hb hown hE hK hP hD hS 11 rfl rfl layP tyP tokP nmP 1 (by decide) w187 rfl rfl rfl (Nat.le_of_ble_eq_true rfl) d_P_add_43 (fun H locs hP hD hS => ?_)
    have hP : va_P D vwCl ([(q5, .inl (dA 2, 2 * x.hsize, .inr (.inl (va_cpy x.hT (fun _ => 0) 0 0 (min x.hN (2 * x.hsize)))))), (q4, .inl (dA 1, 2 * x.hsize, .inl (fun z9 => nI ((va_cpy x.hO (fun _ => 0) 0 0 (min x.hN (2 * x.hsize))) z9))))] ++ VWf dA h ad x (VS.s_hA x (va_up (va_up x.hA 0 q4) 1 q5))) H := hP
    have hD : va_D A ([(q5, .inl (dA 2, 2 * x.hsize, .inr (.inl (va_cpy x.hT (fun _ => 0) 0 0 (min x.hN (2 * x.hsize)))))), (q4, .inl (dA 1, 2 * x.hsize, .inl (fun z9 => nI ((va_cpy x.hO (fun _ => 0) 0 0 (min x.hN (2 * x.hsize))) z9))))] ++ VWf dA h ad x (VS.s_hA x (va_up (va_up x.hA 0 q4) 1 q5))) := hD
    refine lv_aload_n hx hb d_P_add_46 rfl (lv_at hl 0 rfl) ?_
    refine lv_aload_n hx hb d_P_add_47 rfl (lv_at hl 0 rfl) ?_
    refine gF (v := .ref (x.hA 2)) hx hb hown hE hK hP 11 rfl rfl layP 2 (by decide) w188 rfl d_P_add_48 ?_
    refine lv_iconst (v := 2) hx hb d_P_add_51 (by decide) ?_
    refine lv_aload_n hx hb d_P_add_52 rfl (lv_at hl 0 rfl) ?_
    refine gF (v := .int (nI x.hsize)) hx hb hown hE hK hP 11 rfl rfl layP 3 (by decide) w565 rfl d_P_add_53 ?_
    refine lv_imul hx hb d_P_add_56 (tpi (y := nI (2 * x.hsize)) (pk_mul (2) (x.hsize)) ?_)
    refine jfR (rnS (As := [.ref (x.hA 2), .int (nI (2 * x.hsize))]) (rest := [.ref (ad 1)]) hx hb hml hown hE hK (hN _ _ hS) hP hD (v_copyOfJ l D dA H.size ([(q5, .inl (dA 2, 2 * x.hsize, .inr (.inl (va_cpy x.hT (fun _ => 0) 0 0 (min x.hN (2 * x.hsize)))))), (q4, .inl (dA 1, 2 * x.hsize, .inl (fun z9 => nI ((va_cpy x.hO (fun _ => 0) 0 0 (min x.hN (2 * x.hsize))) z9))))] ++ VWf dA h ad x (VS.s_hA x (va_up (va_up x.hA 0 q4) 1 q5))) (14) (x.hA 2) x.hN x.hV (2 * x.hsize) rfl (show x.hN < 2 * x.hsize by omega) (show 2 * x.hsize ≤ 131072 by omega)) w1114 w1131 w1116 w712 rfl rfl ⟨⟨by decide, by decide⟩, rfl⟩ ⟨(Nat.le_of_ble_eq_true rfl), (Nat.le_of_ble_eq_true rfl)⟩ rfl hl.1 rfl (Nat.le_of_ble_eq_true rfl) d_P_add_57 ⟨(show (0 + 1 + 1) + 1 ≤ 3 * (x.hcap - x.hN) by omega), (show (0 + (2 * x.hsize) + (2 * x.hsize)) + (2 * x.hsize) ≤ 6 * (x.hcap - x.hN) by omega)⟩) hP hD hS hA (fun u9 q6 H locs hp9 hP hD hS => ?_)
    have hP : va_P D vwCl ([(q6, .inl (dA 2, 2 * x.hsize, .inr (.inl (va_cpy x.hV (fun _ => 0) 0 0 (min x.hN (2 * x.hsize)))))), (q5, .inl (dA 2, 2 * x.hsize, .inr (.inl (va_cpy x.hT (fun _ => 0) 0 0 (min x.hN (2 * x.hsize)))))), (q4, .inl (dA 1, 2 * x.hsize, .inl (fun z9 => nI ((va_cpy x.hO (fun _ => 0) 0 0 (min x.hN (2 * x.hsize))) z9))))] ++ VWf dA h ad x (VS.s_hA x (va_up (va_up x.hA 0 q4) 1 q5))) H := hP
    have hD : va_D A ([(q6, .inl (dA 2, 2 * x.hsize, .inr (.inl (va_cpy x.hV (fun _ => 0) 0 0 (min x.hN (2 * x.hsize)))))), (q5, .inl (dA 2, 2 * x.hsize, .inr (.inl (va_cpy x.hT (fun _ => 0) 0 0 (min x.hN (2 * x.hsize)))))), (q4, .inl (dA 1, 2 * x.hsize, .inl (fun z9 => nI ((va_cpy x.hO (fun _ => 0) 0 0 (min x.hN (2 * x.hsize))) z9))))] ++ VWf dA h ad x (VS.s_hA x (va_up (va_up x.hA 0 q4) 1 q5))) := hD
    refine pF (v := .ref q6) hx hb hown hE hK hP hD hS 12 rfl rfl layP tyP tokP nmP 2 (by decide) w188 rfl rfl rfl (Nat.le_of_ble_eq_true rfl) d_P_add_60 (fun H locs hP hD hS => ?_)
    have hP : va_P D vwCl ([(q6, .inl (dA 2, 2 * x.hsize, .inr (.inl (va_cpy x.hV (fun _ => 0) 0 0 (min x.hN (2 * x.hsize)))))), (q5, .inl (dA 2, 2 * x.hsize, .inr (.inl (va_cpy x.hT (fun _ => 0) 0 0 (min x.hN (2 * x.hsize)))))), (q4, .inl (dA 1, 2 * x.hsize, .inl (fun z9 => nI ((va_cpy x.hO (fun _ => 0) 0 0 (min x.hN (2 * x.hsize))) z9))))] ++ VWf dA h ad x (VS.s_hA x (va_up (va_up (va_up x.hA 0 q4) 1 q5) 2 q6))) H := hP
    have hD : va_D A ([(q6, .inl (dA 2, 2 * x.hsize, .inr (.inl (va_cpy x.hV (fun _ => 0) 0 0 (min x.hN (2 * x.hsize)))))), (q5, .inl (dA 2, 2 * x.hsize, .inr (.inl (va_cpy x.hT (fun _ => 0) 0 0 (min x.hN (2 * x.hsize)))))), (q4, .inl (dA 1, 2 * x.hsize, .inl (fun z9 => nI ((va_cpy x.hO (fun _ => 0) 0 0 (min x.hN (2 * x.hsize))) z9))))] ++ VWf dA h ad x (VS.s_hA x (va_up (va_up (va_up x.hA 0 q4) 1 q5) 2 q6))) := hD
    have hP := swP 14 hP
    have hD := swD 14 hD
    have hP := swP 12 hP
    have hD := swD 12 hD
    have hP := swP 10 hP
    have hD := swD 10 hD
    have hP : va_P D vwCl (VW dA h ad (VS.s_hV (VS.s_hT (VS.s_hO (VS.s_hN (VS.s_hA x (va_up (va_up (va_up x.hA 0 q4) 1 q5) 2 q6)) (2 * x.hsize)) (va_cpy x.hO (fun _ => 0) 0 0 (min x.hN (2 * x.hsize)))) (va_cpy x.hT (fun _ => 0) 0 0 (min x.hN (2 * x.hsize)))) (va_cpy x.hV (fun _ => 0) 0 0 (min x.hN (2 * x.hsize))))) H := hP
    have hD : va_D A (VW dA h ad (VS.s_hV (VS.s_hT (VS.s_hO (VS.s_hN (VS.s_hA x (va_up (va_up (va_up x.hA 0 q4) 1 q5) 2 q6)) (2 * x.hsize)) (va_cpy x.hO (fun _ => 0) 0 0 (min x.hN (2 * x.hsize)))) (va_cpy x.hT (fun _ => 0) 0 0 (min x.hN (2 * x.hsize)))) (va_cpy x.hV (fun _ => 0) 0 0 (min x.hN (2 * x.hsize))))) := hD
    refine lv_aload_n hx hb d_P_add_63 rfl (lv_at hl 0 rfl) ?_
    refine lv_aload_n hx hb d_P_add_64 rfl (lv_at hl 0 rfl) ?_
    refine gF (v := .int (nI x.hsize)) hx hb hown hE hK hP 9 rfl rfl layP 3 (by decide) w565 rfl d_P_add_65 ?_
    refine lv_iload_n hx hb d_P_add_68 rfl (lv_at hl 1 rfl) ?_
    refine lv_lload_n hx hb d_P_add_69 rfl (lv_at hl 2 rfl) ?_
    refine lv_lload hx hb d_P_add_70 (lv_at hl 3 rfl) ?_
    refine jfV (rnV (As := [.int (nI x.hsize), .int (nI w), .long a, .long b]) (rest := []) hx hb hml hown hE hK (hN _ _ hS) hP hD (v_pset_h l D dA H.size h ad (VS.s_hV (VS.s_hT (VS.s_hO (VS.s_hN (VS.s_hA x (va_up (va_up (va_up x.hA 0 q4) 1 q5) 2 q6)) (2 * x.hsize)) (va_cpy x.hO (fun _ => 0) 0 0 (min x.hN (2 * x.hsize)))) (va_cpy x.hT (fun _ => 0) 0 0 (min x.hN (2 * x.hsize)))) (va_cpy x.hV (fun _ => 0) 0 0 (min x.hN (2 * x.hsize)))) x.hsize w a b (show x.hsize < (2 * x.hsize) from by omega) (show (2 * x.hsize) ≤ 65536 from by omega)) (q0 := 9) rfl rfl w1086 w1085 w1087 w1088 w578 rfl rfl ⟨⟨by decide, by decide⟩, rfl⟩ ⟨(Nat.le_of_ble_eq_true rfl), (Nat.le_of_ble_eq_true rfl)⟩ rfl hl.1 rfl (Nat.le_of_ble_eq_true rfl) d_P_add_72 ⟨(show 0 + 1 + 1 + 1 + 0 ≤ 3 * (x.hcap - x.hN) by omega), (show 0 + (2 * x.hsize) + (2 * x.hsize) + (2 * x.hsize) + 0 ≤ 6 * (x.hcap - x.hN) by omega)⟩) hP hD hS hA (fun u8 H locs hp9 hP hD hS => ?_)
    have hP : va_P D vwCl (VW dA h ad (VS.s_hV (VS.s_hT (VS.s_hO (VS.s_hN (VS.s_hA x (va_up (va_up (va_up x.hA 0 q4) 1 q5) 2 q6)) (2 * x.hsize)) (va_up (va_cpy x.hO (fun _ => 0) 0 0 (min x.hN (2 * x.hsize))) x.hsize w)) (va_up (va_cpy x.hT (fun _ => 0) 0 0 (min x.hN (2 * x.hsize))) x.hsize a)) (va_up (va_cpy x.hV (fun _ => 0) 0 0 (min x.hN (2 * x.hsize))) x.hsize b))) H := hP
    have hD : va_D A (VW dA h ad (VS.s_hV (VS.s_hT (VS.s_hO (VS.s_hN (VS.s_hA x (va_up (va_up (va_up x.hA 0 q4) 1 q5) 2 q6)) (2 * x.hsize)) (va_up (va_cpy x.hO (fun _ => 0) 0 0 (min x.hN (2 * x.hsize))) x.hsize w)) (va_up (va_cpy x.hT (fun _ => 0) 0 0 (min x.hN (2 * x.hsize))) x.hsize a)) (va_up (va_cpy x.hV (fun _ => 0) 0 0 (min x.hN (2 * x.hsize))) x.hsize b))) := hD
    refine lv_aload_n hx hb d_P_add_75 rfl (lv_at hl 0 rfl) ?_
    refine lv_dup hx hb d_P_add_76 rfl ?_
    refine gF (v := .int (nI x.hsize)) hx hb hown hE hK hP 9 rfl rfl layP 3 (by decide) w565 rfl d_P_add_77 ?_
    refine lv_iconst (v := 1) hx hb d_P_add_80 (by decide) ?_
    refine lv_iadd hx hb d_P_add_81 (tpi (y := nI (x.hsize + 1)) (nI_add (x.hsize) (1)) ?_)
    refine pF (v := .int (nI (x.hsize + 1))) hx hb hown hE hK hP hD hS 9 rfl rfl layP tyP tokP nmP 3 (by decide) w565 rfl rfl rfl (Nat.le_of_ble_eq_true rfl) d_P_add_82 (fun H locs hP hD hS => ?_)
    have hP : va_P D vwCl (VW dA h ad (VS.s_hsize (VS.s_hV (VS.s_hT (VS.s_hO (VS.s_hN (VS.s_hA x (va_up (va_up (va_up x.hA 0 q4) 1 q5) 2 q6)) (2 * x.hsize)) (va_up (va_cpy x.hO (fun _ => 0) 0 0 (min x.hN (2 * x.hsize))) x.hsize w)) (va_up (va_cpy x.hT (fun _ => 0) 0 0 (min x.hN (2 * x.hsize))) x.hsize a)) (va_up (va_cpy x.hV (fun _ => 0) 0 0 (min x.hN (2 * x.hsize))) x.hsize b)) (x.hsize + 1))) H := hP
    have hD : va_D A (VW dA h ad (VS.s_hsize (VS.s_hV (VS.s_hT (VS.s_hO (VS.s_hN (VS.s_hA x (va_up (va_up (va_up x.hA 0 q4) 1 q5) 2 q6)) (2 * x.hsize)) (va_up (va_cpy x.hO (fun _ => 0) 0 0 (min x.hN (2 * x.hsize))) x.hsize w)) (va_up (va_cpy x.hT (fun _ => 0) 0 0 (min x.hN (2 * x.hsize))) x.hsize a)) (va_up (va_cpy x.hV (fun _ => 0) 0 0 (min x.hN (2 * x.hsize))) x.hsize b)) (x.hsize + 1))) := hD
    exact rfV hx hb hr hlk hS (VS.s_hsize (VS.s_hV (VS.s_hT (VS.s_hO (VS.s_hN (VS.s_hA x (va_up (va_up (va_up x.hA 0 q4) 1 q5) 2 q6)) (2 * x.hsize)) (va_up (va_cpy x.hO (fun _ => 0) 0 0 (min x.hN (2 * x.hsize))) x.hsize w)) (va_up (va_cpy x.hT (fun _ => 0) 0 0 (min x.hN (2 * x.hsize))) x.hsize a)) (va_up (va_cpy x.hV (fun _ => 0) 0 0 (min x.hN (2 * x.hsize))) x.hsize b)) (x.hsize + 1)) ⟨va_up (va_up (va_up x.hA 0 q4) 1 q5) 2 q6, by unfold VS.haF; rw [if_pos g1]; rfl⟩ hP hD (show 0 + 1 + 1 + 1 + 0 ≤ 3 * (x.hcap - x.hN) by omega) (show 0 + (2 * x.hsize) + (2 * x.hsize) + (2 * x.hsize) + 0 ≤ 6 * (x.hcap - x.hN) by omega) d_P_add_85
def VS.ggS (x : VS) (pa : Nat → Nat) : VS := VS.s_gV (VS.s_gT (VS.s_gO (VS.s_gN (VS.s_gA x pa) (2 * x.gsize)) (va_cpy x.gO (fun _ => 0) 0 0 (min x.gN (2 * x.gsize)))) (va_cpy x.gT (fun _ => 0) 0 0 (min x.gN (2 * x.gsize)))) (va_cpy x.gV (fun _ => 0) 0 0 (min x.gN (2 * x.gsize)))
def VS.gaS (x : VS) (w : Nat) (a b : Int64) : VS := VS.s_gsize (VS.s_gV (VS.s_gT (VS.s_gO x (va_up x.gO x.gsize w)) (va_up x.gT x.gsize a)) (va_up x.gV x.gsize b)) (x.gsize + 1)
def VS.gcap (x : VS) : Nat := if x.gsize = x.gN then 2 * x.gsize else x.gN
def VS.gaF (x : VS) (pa : Nat → Nat) (w : Nat) (a b : Int64) : VS := (if x.gsize = x.gN then x.ggS pa else x).gaS w a b
set_option maxHeartbeats 4000000 in
set_option maxRecDepth 100000 in
theorem v_paddF_g (l : Launch) (D : va_G) (dA : Nat → ClassId) (sz : Nat) (h : Nat) (ad : Nat → Nat) (x : VS) (w : Nat) (a : Int64) (b : Int64) (hs1 : x.gsize ≤ x.gN) (hs2 : 0 < x.gN) (hs3 : x.gN ≤ 32768) : Met l ⟨"SeriesVault$Points", "add", "(IJJ)V"⟩ [Cond.code ⟨"SeriesVault$Points", "add", "(IJJ)V"⟩ prog_5_method_3_code 6 none] { frames := 2, cells := 3 * (x.gcap - x.gN), slots := 6 * (x.gcap - x.gN), locals := 62 } (pC D dA [.ref (ad 2), .int (nI w), .long a, .long b] (VW dA h ad x) sz) (va_Qv (fun (u9 : VS) => ∃ pa : Nat → Nat, u9 = x.gaF pa w a b) (fun (u9 : VS) t9 => bW D (va_A (VW dA h ad x) sz) (VW dA h ad u9) t9) (va_A (VW dA h ad x) sz)) (3 * (x.gcap - x.gN)) (6 * (x.gcap - x.gN)) (va_A (VW dA h ad x) sz) := by
  refine mkC (y := ⟨"SeriesVault$Points", "add", "(IJJ)V"⟩) (cc := prog_5_method_3_code) (maxL := 6) (av := [.ref (ad 2), .int (nI w), .long a, .long b]) (ws := VW dA h ad x) (sz := sz) (Qc := fun A => va_Qv (fun (u9 : VS) => ∃ pa : Nat → Nat, u9 = x.gaF pa w a b) (fun (u9 : VS) t9 => bW D A (VW dA h ad u9) t9) A) (by decide) (Nat.le_of_ble_eq_true rfl) ?_
  intro A p e s m below meth c ls hsz hB
  obtain ⟨hx, hb, hr, hml, hown, hin, hlk, hE, hK, hP, hD, hS, hA, hN, hl⟩ := hB
  have hown : s.vm.findClass "SeriesVault$Points" = some m.cls := hown
  have hl : lv_has ls 6 [(0, .ref (ad 2)), (1, .int (nI w)), (2, .long a), (4, .long b)] := hl
  obtain ⟨H, hH⟩ : ∃ z, z = s.heap := ⟨_, rfl⟩
  have hP : va_P D vwCl (VW dA h ad x) H := by rw [hH]; exact hP
  have hS : va_S A s.heap H [] := by rw [hH]; exact hS
  rw [← hH]
  refine lv_aload_n hx hb d_P_add_0 rfl (lv_at hl 0 rfl) ?_
  refine gF (v := .int (nI x.gsize)) hx hb hown hE hK hP 13 rfl rfl layP 3 (by decide) w565 rfl d_P_add_1 ?_
  refine lv_aload_n hx hb d_P_add_4 rfl (lv_at hl 0 rfl) ?_
  refine gF (v := .ref (x.gA 0)) hx hb hown hE hK hP 13 rfl rfl layP 0 (by decide) w185 rfl d_P_add_5 ?_
  refine va_alen (v := nI x.gN) hx hb hK hP (14) 1 rfl rfl rfl d_P_add_8 ?_
  refine lv_icmp_ne hx hb d_P_add_9 (tgt := 63) rfl (fun g1 => ?_) (fun g1 => ?_)
  · have g1 := mt (nI_eq (a := x.gsize) (b := x.gN) (by omega) (by omega)).mpr g1
    have jc : x.gcap = x.gN := if_neg g1
    refine lv_aload_n hx hb d_P_add_63 rfl (lv_at hl 0 rfl) ?_
    refine lv_aload_n hx hb d_P_add_64 rfl (lv_at hl 0 rfl) ?_
    refine gF (v := .int (nI x.gsize)) hx hb hown hE hK hP 13 rfl rfl layP 3 (by decide) w565 rfl d_P_add_65 ?_
    refine lv_iload_n hx hb d_P_add_68 rfl (lv_at hl 1 rfl) ?_
    refine lv_lload_n hx hb d_P_add_69 rfl (lv_at hl 2 rfl) ?_
    refine lv_lload hx hb d_P_add_70 (lv_at hl 3 rfl) ?_
    refine jfV (rnV (As := [.int (nI x.gsize), .int (nI w), .long a, .long b]) (rest := []) hx hb hml hown hE hK (hN _ _ hS) hP hD (v_pset_g l D dA H.size h ad x x.gsize w a b (show x.gsize < x.gN from by omega) (show x.gN ≤ 65536 from by omega)) (q0 := 13) rfl rfl w1086 w1085 w1087 w1088 w578 rfl rfl ⟨⟨by decide, by decide⟩, rfl⟩ ⟨(Nat.le_of_ble_eq_true rfl), (Nat.le_of_ble_eq_true rfl)⟩ rfl hl.1 rfl (Nat.le_of_ble_eq_true rfl) d_P_add_72 ⟨(show 0 + 0 ≤ 3 * (x.gcap - x.gN) by omega), (show 0 + 0 ≤ 6 * (x.gcap - x.gN) by omega)⟩) hP hD hS hA (fun u3 H locs hp9 hP hD hS => ?_)
    have hP : va_P D vwCl (VW dA h ad (VS.s_gV (VS.s_gT (VS.s_gO x (va_up x.gO x.gsize w)) (va_up x.gT x.gsize a)) (va_up x.gV x.gsize b))) H := hP
    have hD : va_D A (VW dA h ad (VS.s_gV (VS.s_gT (VS.s_gO x (va_up x.gO x.gsize w)) (va_up x.gT x.gsize a)) (va_up x.gV x.gsize b))) := hD
    refine lv_aload_n hx hb d_P_add_75 rfl (lv_at hl 0 rfl) ?_
    refine lv_dup hx hb d_P_add_76 rfl ?_
    refine gF (v := .int (nI x.gsize)) hx hb hown hE hK hP 13 rfl rfl layP 3 (by decide) w565 rfl d_P_add_77 ?_
    refine lv_iconst (v := 1) hx hb d_P_add_80 (by decide) ?_
    refine lv_iadd hx hb d_P_add_81 (tpi (y := nI (x.gsize + 1)) (nI_add (x.gsize) (1)) ?_)
    refine pF (v := .int (nI (x.gsize + 1))) hx hb hown hE hK hP hD hS 13 rfl rfl layP tyP tokP nmP 3 (by decide) w565 rfl rfl rfl (Nat.le_of_ble_eq_true rfl) d_P_add_82 (fun H locs hP hD hS => ?_)
    have hP : va_P D vwCl (VW dA h ad (VS.s_gsize (VS.s_gV (VS.s_gT (VS.s_gO x (va_up x.gO x.gsize w)) (va_up x.gT x.gsize a)) (va_up x.gV x.gsize b)) (x.gsize + 1))) H := hP
    have hD : va_D A (VW dA h ad (VS.s_gsize (VS.s_gV (VS.s_gT (VS.s_gO x (va_up x.gO x.gsize w)) (va_up x.gT x.gsize a)) (va_up x.gV x.gsize b)) (x.gsize + 1))) := hD
    exact rfV hx hb hr hlk hS (VS.s_gsize (VS.s_gV (VS.s_gT (VS.s_gO x (va_up x.gO x.gsize w)) (va_up x.gT x.gsize a)) (va_up x.gV x.gsize b)) (x.gsize + 1)) ⟨x.gA, by unfold VS.gaF; rw [if_neg g1]; rfl⟩ hP hD (show 0 + 0 ≤ 3 * (x.gcap - x.gN) by omega) (show 0 + 0 ≤ 6 * (x.gcap - x.gN) by omega) d_P_add_85
  · have g1 := (nI_eq (a := x.gsize) (b := x.gN) (by omega) (by omega)).mp g1
    have jc : x.gcap = 2 * x.gsize := if_pos g1
    refine lv_aload_n hx hb d_P_add_12 rfl (lv_at hl 0 rfl) ?_
    refine lv_aload_n hx hb d_P_add_13 rfl (lv_at hl 0 rfl) ?_
    refine gF (v := .ref (x.gA 0)) hx hb hown hE hK hP 13 rfl rfl layP 0 (by decide) w185 rfl d_P_add_14 ?_
    refine lv_iconst (v := 2) hx hb d_P_add_17 (by decide) ?_
    refine lv_aload_n hx hb d_P_add_18 rfl (lv_at hl 0 rfl) ?_
    refine gF (v := .int (nI x.gsize)) hx hb hown hE hK hP 13 rfl rfl layP 3 (by decide) w565 rfl d_P_add_19 ?_
    refine lv_imul hx hb d_P_add_22 (tpi (y := nI (2 * x.gsize)) (pk_mul (2) (x.gsize)) ?_)
    refine jfR (rnS (As := [.ref (x.gA 0), .int (nI (2 * x.gsize))]) (rest := [.ref (ad 2)]) hx hb hml hown hE hK (hN _ _ hS) hP hD (v_copyOfI l D dA H.size (VW dA h ad x) (14) (x.gA 0) x.gN x.gO (2 * x.gsize) rfl (show x.gN < 2 * x.gsize by omega) (show 2 * x.gsize ≤ 131072 by omega)) w1111 w1130 w1113 w712 rfl rfl ⟨⟨by decide, by decide⟩, rfl⟩ ⟨(Nat.le_of_ble_eq_true rfl), (Nat.le_of_ble_eq_true rfl)⟩ rfl hl.1 rfl (Nat.le_of_ble_eq_true rfl) d_P_add_23 ⟨(show 0 + 1 ≤ 3 * (x.gcap - x.gN) by omega), (show 0 + (2 * x.gsize) ≤ 6 * (x.gcap - x.gN) by omega)⟩) hP hD hS hA (fun u9 q4 H locs hp9 hP hD hS => ?_)
    have hP : va_P D vwCl ([(q4, .inl (dA 1, 2 * x.gsize, .inl (fun z9 => nI ((va_cpy x.gO (fun _ => 0) 0 0 (min x.gN (2 * x.gsize))) z9))))] ++ VW dA h ad x) H := hP
    have hD : va_D A ([(q4, .inl (dA 1, 2 * x.gsize, .inl (fun z9 => nI ((va_cpy x.gO (fun _ => 0) 0 0 (min x.gN (2 * x.gsize))) z9))))] ++ VW dA h ad x) := hD
    refine pF (v := .ref q4) hx hb hown hE hK hP hD hS 14 rfl rfl layP tyP tokP nmP 0 (by decide) w185 rfl rfl rfl (Nat.le_of_ble_eq_true rfl) d_P_add_26 (fun H locs hP hD hS => ?_)
    have hP : va_P D vwCl ([(q4, .inl (dA 1, 2 * x.gsize, .inl (fun z9 => nI ((va_cpy x.gO (fun _ => 0) 0 0 (min x.gN (2 * x.gsize))) z9))))] ++ VWf dA h ad x (VS.s_gA x (va_up x.gA 0 q4))) H := hP
    have hD : va_D A ([(q4, .inl (dA 1, 2 * x.gsize, .inl (fun z9 => nI ((va_cpy x.gO (fun _ => 0) 0 0 (min x.gN (2 * x.gsize))) z9))))] ++ VWf dA h ad x (VS.s_gA x (va_up x.gA 0 q4))) := hD
    refine lv_aload_n hx hb d_P_add_29 rfl (lv_at hl 0 rfl) ?_
    refine lv_aload_n hx hb d_P_add_30 rfl (lv_at hl 0 rfl) ?_
    refine gF (v := .ref (x.gA 1)) hx hb hown hE hK hP 14 rfl rfl layP 1 (by decide) w187 rfl d_P_add_31 ?_
    refine lv_iconst (v := 2) hx hb d_P_add_34 (by decide) ?_
    refine lv_aload_n hx hb d_P_add_35 rfl (lv_at hl 0 rfl) ?_
    refine gF (v := .int (nI x.gsize)) hx hb hown hE hK hP 14 rfl rfl layP 3 (by decide) w565 rfl d_P_add_36 ?_
    refine lv_imul hx hb d_P_add_39 (tpi (y := nI (2 * x.gsize)) (pk_mul (2) (x.gsize)) ?_)
    refine jfR (rnS (As := [.ref (x.gA 1), .int (nI (2 * x.gsize))]) (rest := [.ref (ad 2)]) hx hb hml hown hE hK (hN _ _ hS) hP hD (v_copyOfJ l D dA H.size ([(q4, .inl (dA 1, 2 * x.gsize, .inl (fun z9 => nI ((va_cpy x.gO (fun _ => 0) 0 0 (min x.gN (2 * x.gsize))) z9))))] ++ VWf dA h ad x (VS.s_gA x (va_up x.gA 0 q4))) (16) (x.gA 1) x.gN x.gT (2 * x.gsize) rfl (show x.gN < 2 * x.gsize by omega) (show 2 * x.gsize ≤ 131072 by omega)) w1114 w1131 w1116 w712 rfl rfl ⟨⟨by decide, by decide⟩, rfl⟩ ⟨(Nat.le_of_ble_eq_true rfl), (Nat.le_of_ble_eq_true rfl)⟩ rfl hl.1 rfl (Nat.le_of_ble_eq_true rfl) d_P_add_40 ⟨(show (0 + 1) + 1 ≤ 3 * (x.gcap - x.gN) by omega), (show (0 + (2 * x.gsize)) + (2 * x.gsize) ≤ 6 * (x.gcap - x.gN) by omega)⟩) hP hD hS hA (fun u9 q5 H locs hp9 hP hD hS => ?_)
    have hP : va_P D vwCl ([(q5, .inl (dA 2, 2 * x.gsize, .inr (.inl (va_cpy x.gT (fun _ => 0) 0 0 (min x.gN (2 * x.gsize)))))), (q4, .inl (dA 1, 2 * x.gsize, .inl (fun z9 => nI ((va_cpy x.gO (fun _ => 0) 0 0 (min x.gN (2 * x.gsize))) z9))))] ++ VWf dA h ad x (VS.s_gA x (va_up x.gA 0 q4))) H := hP
    have hD : va_D A ([(q5, .inl (dA 2, 2 * x.gsize, .inr (.inl (va_cpy x.gT (fun _ => 0) 0 0 (min x.gN (2 * x.gsize)))))), (q4, .inl (dA 1, 2 * x.gsize, .inl (fun z9 => nI ((va_cpy x.gO (fun _ => 0) 0 0 (min x.gN (2 * x.gsize))) z9))))] ++ VWf dA h ad x (VS.s_gA x (va_up x.gA 0 q4))) := hD
    refine pF (v := .ref q5) hx hb hown hE hK hP hD hS 15 rfl rfl layP tyP tokP nmP 1 (by decide) w187 rfl rfl rfl (Nat.le_of_ble_eq_true rfl) d_P_add_43 (fun H locs hP hD hS => ?_)
    have hP : va_P D vwCl ([(q5, .inl (dA 2, 2 * x.gsize, .inr (.inl (va_cpy x.gT (fun _ => 0) 0 0 (min x.gN (2 * x.gsize)))))), (q4, .inl (dA 1, 2 * x.gsize, .inl (fun z9 => nI ((va_cpy x.gO (fun _ => 0) 0 0 (min x.gN (2 * x.gsize))) z9))))] ++ VWf dA h ad x (VS.s_gA x (va_up (va_up x.gA 0 q4) 1 q5))) H := hP
    have hD : va_D A ([(q5, .inl (dA 2, 2 * x.gsize, .inr (.inl (va_cpy x.gT (fun _ => 0) 0 0 (min x.gN (2 * x.gsize)))))), (q4, .inl (dA 1, 2 * x.gsize, .inl (fun z9 => nI ((va_cpy x.gO (fun _ => 0) 0 0 (min x.gN (2 * x.gsize))) z9))))] ++ VWf dA h ad x (VS.s_gA x (va_up (va_up x.gA 0 q4) 1 q5))) := hD
    refine lv_aload_n hx hb d_P_add_46 rfl (lv_at hl 0 rfl) ?_
    refine lv_aload_n hx hb d_P_add_47 rfl (lv_at hl 0 rfl) ?_
    refine gF (v := .ref (x.gA 2)) hx hb hown hE hK hP 15 rfl rfl layP 2 (by decide) w188 rfl d_P_add_48 ?_
    refine lv_iconst (v := 2) hx hb d_P_add_51 (by decide) ?_
    refine lv_aload_n hx hb d_P_add_52 rfl (lv_at hl 0 rfl) ?_
    refine gF (v := .int (nI x.gsize)) hx hb hown hE hK hP 15 rfl rfl layP 3 (by decide) w565 rfl d_P_add_53 ?_
    refine lv_imul hx hb d_P_add_56 (tpi (y := nI (2 * x.gsize)) (pk_mul (2) (x.gsize)) ?_)
    refine jfR (rnS (As := [.ref (x.gA 2), .int (nI (2 * x.gsize))]) (rest := [.ref (ad 2)]) hx hb hml hown hE hK (hN _ _ hS) hP hD (v_copyOfJ l D dA H.size ([(q5, .inl (dA 2, 2 * x.gsize, .inr (.inl (va_cpy x.gT (fun _ => 0) 0 0 (min x.gN (2 * x.gsize)))))), (q4, .inl (dA 1, 2 * x.gsize, .inl (fun z9 => nI ((va_cpy x.gO (fun _ => 0) 0 0 (min x.gN (2 * x.gsize))) z9))))] ++ VWf dA h ad x (VS.s_gA x (va_up (va_up x.gA 0 q4) 1 q5))) (18) (x.gA 2) x.gN x.gV (2 * x.gsize) rfl (show x.gN < 2 * x.gsize by omega) (show 2 * x.gsize ≤ 131072 by omega)) w1114 w1131 w1116 w712 rfl rfl ⟨⟨by decide, by decide⟩, rfl⟩ ⟨(Nat.le_of_ble_eq_true rfl), (Nat.le_of_ble_eq_true rfl)⟩ rfl hl.1 rfl (Nat.le_of_ble_eq_true rfl) d_P_add_57 ⟨(show (0 + 1 + 1) + 1 ≤ 3 * (x.gcap - x.gN) by omega), (show (0 + (2 * x.gsize) + (2 * x.gsize)) + (2 * x.gsize) ≤ 6 * (x.gcap - x.gN) by omega)⟩) hP hD hS hA (fun u9 q6 H locs hp9 hP hD hS => ?_)
    have hP : va_P D vwCl ([(q6, .inl (dA 2, 2 * x.gsize, .inr (.inl (va_cpy x.gV (fun _ => 0) 0 0 (min x.gN (2 * x.gsize)))))), (q5, .inl (dA 2, 2 * x.gsize, .inr (.inl (va_cpy x.gT (fun _ => 0) 0 0 (min x.gN (2 * x.gsize)))))), (q4, .inl (dA 1, 2 * x.gsize, .inl (fun z9 => nI ((va_cpy x.gO (fun _ => 0) 0 0 (min x.gN (2 * x.gsize))) z9))))] ++ VWf dA h ad x (VS.s_gA x (va_up (va_up x.gA 0 q4) 1 q5))) H := hP
    have hD : va_D A ([(q6, .inl (dA 2, 2 * x.gsize, .inr (.inl (va_cpy x.gV (fun _ => 0) 0 0 (min x.gN (2 * x.gsize)))))), (q5, .inl (dA 2, 2 * x.gsize, .inr (.inl (va_cpy x.gT (fun _ => 0) 0 0 (min x.gN (2 * x.gsize)))))), (q4, .inl (dA 1, 2 * x.gsize, .inl (fun z9 => nI ((va_cpy x.gO (fun _ => 0) 0 0 (min x.gN (2 * x.gsize))) z9))))] ++ VWf dA h ad x (VS.s_gA x (va_up (va_up x.gA 0 q4) 1 q5))) := hD
    refine pF (v := .ref q6) hx hb hown hE hK hP hD hS 16 rfl rfl layP tyP tokP nmP 2 (by decide) w188 rfl rfl rfl (Nat.le_of_ble_eq_true rfl) d_P_add_60 (fun H locs hP hD hS => ?_)
    have hP : va_P D vwCl ([(q6, .inl (dA 2, 2 * x.gsize, .inr (.inl (va_cpy x.gV (fun _ => 0) 0 0 (min x.gN (2 * x.gsize)))))), (q5, .inl (dA 2, 2 * x.gsize, .inr (.inl (va_cpy x.gT (fun _ => 0) 0 0 (min x.gN (2 * x.gsize)))))), (q4, .inl (dA 1, 2 * x.gsize, .inl (fun z9 => nI ((va_cpy x.gO (fun _ => 0) 0 0 (min x.gN (2 * x.gsize))) z9))))] ++ VWf dA h ad x (VS.s_gA x (va_up (va_up (va_up x.gA 0 q4) 1 q5) 2 q6))) H := hP
    have hD : va_D A ([(q6, .inl (dA 2, 2 * x.gsize, .inr (.inl (va_cpy x.gV (fun _ => 0) 0 0 (min x.gN (2 * x.gsize)))))), (q5, .inl (dA 2, 2 * x.gsize, .inr (.inl (va_cpy x.gT (fun _ => 0) 0 0 (min x.gN (2 * x.gsize)))))), (q4, .inl (dA 1, 2 * x.gsize, .inl (fun z9 => nI ((va_cpy x.gO (fun _ => 0) 0 0 (min x.gN (2 * x.gsize))) z9))))] ++ VWf dA h ad x (VS.s_gA x (va_up (va_up (va_up x.gA 0 q4) 1 q5) 2 q6))) := hD
    have hP := swP 18 hP
    have hD := swD 18 hD
    have hP := swP 16 hP
    have hD := swD 16 hD
    have hP := swP 14 hP
    have hD := swD 14 hD
    have hP : va_P D vwCl (VW dA h ad (VS.s_gV (VS.s_gT (VS.s_gO (VS.s_gN (VS.s_gA x (va_up (va_up (va_up x.gA 0 q4) 1 q5) 2 q6)) (2 * x.gsize)) (va_cpy x.gO (fun _ => 0) 0 0 (min x.gN (2 * x.gsize)))) (va_cpy x.gT (fun _ => 0) 0 0 (min x.gN (2 * x.gsize)))) (va_cpy x.gV (fun _ => 0) 0 0 (min x.gN (2 * x.gsize))))) H := hP
    have hD : va_D A (VW dA h ad (VS.s_gV (VS.s_gT (VS.s_gO (VS.s_gN (VS.s_gA x (va_up (va_up (va_up x.gA 0 q4) 1 q5) 2 q6)) (2 * x.gsize)) (va_cpy x.gO (fun _ => 0) 0 0 (min x.gN (2 * x.gsize)))) (va_cpy x.gT (fun _ => 0) 0 0 (min x.gN (2 * x.gsize)))) (va_cpy x.gV (fun _ => 0) 0 0 (min x.gN (2 * x.gsize))))) := hD
    refine lv_aload_n hx hb d_P_add_63 rfl (lv_at hl 0 rfl) ?_
    refine lv_aload_n hx hb d_P_add_64 rfl (lv_at hl 0 rfl) ?_
    refine gF (v := .int (nI x.gsize)) hx hb hown hE hK hP 13 rfl rfl layP 3 (by decide) w565 rfl d_P_add_65 ?_
    refine lv_iload_n hx hb d_P_add_68 rfl (lv_at hl 1 rfl) ?_
    refine lv_lload_n hx hb d_P_add_69 rfl (lv_at hl 2 rfl) ?_
    refine lv_lload hx hb d_P_add_70 (lv_at hl 3 rfl) ?_
    refine jfV (rnV (As := [.int (nI x.gsize), .int (nI w), .long a, .long b]) (rest := []) hx hb hml hown hE hK (hN _ _ hS) hP hD (v_pset_g l D dA H.size h ad (VS.s_gV (VS.s_gT (VS.s_gO (VS.s_gN (VS.s_gA x (va_up (va_up (va_up x.gA 0 q4) 1 q5) 2 q6)) (2 * x.gsize)) (va_cpy x.gO (fun _ => 0) 0 0 (min x.gN (2 * x.gsize)))) (va_cpy x.gT (fun _ => 0) 0 0 (min x.gN (2 * x.gsize)))) (va_cpy x.gV (fun _ => 0) 0 0 (min x.gN (2 * x.gsize)))) x.gsize w a b (show x.gsize < (2 * x.gsize) from by omega) (show (2 * x.gsize) ≤ 65536 from by omega)) (q0 := 13) rfl rfl w1086 w1085 w1087 w1088 w578 rfl rfl ⟨⟨by decide, by decide⟩, rfl⟩ ⟨(Nat.le_of_ble_eq_true rfl), (Nat.le_of_ble_eq_true rfl)⟩ rfl hl.1 rfl (Nat.le_of_ble_eq_true rfl) d_P_add_72 ⟨(show 0 + 1 + 1 + 1 + 0 ≤ 3 * (x.gcap - x.gN) by omega), (show 0 + (2 * x.gsize) + (2 * x.gsize) + (2 * x.gsize) + 0 ≤ 6 * (x.gcap - x.gN) by omega)⟩) hP hD hS hA (fun u8 H locs hp9 hP hD hS => ?_)
    have hP : va_P D vwCl (VW dA h ad (VS.s_gV (VS.s_gT (VS.s_gO (VS.s_gN (VS.s_gA x (va_up (va_up (va_up x.gA 0 q4) 1 q5) 2 q6)) (2 * x.gsize)) (va_up (va_cpy x.gO (fun _ => 0) 0 0 (min x.gN (2 * x.gsize))) x.gsize w)) (va_up (va_cpy x.gT (fun _ => 0) 0 0 (min x.gN (2 * x.gsize))) x.gsize a)) (va_up (va_cpy x.gV (fun _ => 0) 0 0 (min x.gN (2 * x.gsize))) x.gsize b))) H := hP
    have hD : va_D A (VW dA h ad (VS.s_gV (VS.s_gT (VS.s_gO (VS.s_gN (VS.s_gA x (va_up (va_up (va_up x.gA 0 q4) 1 q5) 2 q6)) (2 * x.gsize)) (va_up (va_cpy x.gO (fun _ => 0) 0 0 (min x.gN (2 * x.gsize))) x.gsize w)) (va_up (va_cpy x.gT (fun _ => 0) 0 0 (min x.gN (2 * x.gsize))) x.gsize a)) (va_up (va_cpy x.gV (fun _ => 0) 0 0 (min x.gN (2 * x.gsize))) x.gsize b))) := hD
    refine lv_aload_n hx hb d_P_add_75 rfl (lv_at hl 0 rfl) ?_
    refine lv_dup hx hb d_P_add_76 rfl ?_
    refine gF (v := .int (nI x.gsize)) hx hb hown hE hK hP 13 rfl rfl layP 3 (by decide) w565 rfl d_P_add_77 ?_
    refine lv_iconst (v := 1) hx hb d_P_add_80 (by decide) ?_
    refine lv_iadd hx hb d_P_add_81 (tpi (y := nI (x.gsize + 1)) (nI_add (x.gsize) (1)) ?_)
    refine pF (v := .int (nI (x.gsize + 1))) hx hb hown hE hK hP hD hS 13 rfl rfl layP tyP tokP nmP 3 (by decide) w565 rfl rfl rfl (Nat.le_of_ble_eq_true rfl) d_P_add_82 (fun H locs hP hD hS => ?_)
    have hP : va_P D vwCl (VW dA h ad (VS.s_gsize (VS.s_gV (VS.s_gT (VS.s_gO (VS.s_gN (VS.s_gA x (va_up (va_up (va_up x.gA 0 q4) 1 q5) 2 q6)) (2 * x.gsize)) (va_up (va_cpy x.gO (fun _ => 0) 0 0 (min x.gN (2 * x.gsize))) x.gsize w)) (va_up (va_cpy x.gT (fun _ => 0) 0 0 (min x.gN (2 * x.gsize))) x.gsize a)) (va_up (va_cpy x.gV (fun _ => 0) 0 0 (min x.gN (2 * x.gsize))) x.gsize b)) (x.gsize + 1))) H := hP
    have hD : va_D A (VW dA h ad (VS.s_gsize (VS.s_gV (VS.s_gT (VS.s_gO (VS.s_gN (VS.s_gA x (va_up (va_up (va_up x.gA 0 q4) 1 q5) 2 q6)) (2 * x.gsize)) (va_up (va_cpy x.gO (fun _ => 0) 0 0 (min x.gN (2 * x.gsize))) x.gsize w)) (va_up (va_cpy x.gT (fun _ => 0) 0 0 (min x.gN (2 * x.gsize))) x.gsize a)) (va_up (va_cpy x.gV (fun _ => 0) 0 0 (min x.gN (2 * x.gsize))) x.gsize b)) (x.gsize + 1))) := hD
    exact rfV hx hb hr hlk hS (VS.s_gsize (VS.s_gV (VS.s_gT (VS.s_gO (VS.s_gN (VS.s_gA x (va_up (va_up (va_up x.gA 0 q4) 1 q5) 2 q6)) (2 * x.gsize)) (va_up (va_cpy x.gO (fun _ => 0) 0 0 (min x.gN (2 * x.gsize))) x.gsize w)) (va_up (va_cpy x.gT (fun _ => 0) 0 0 (min x.gN (2 * x.gsize))) x.gsize a)) (va_up (va_cpy x.gV (fun _ => 0) 0 0 (min x.gN (2 * x.gsize))) x.gsize b)) (x.gsize + 1)) ⟨va_up (va_up (va_up x.gA 0 q4) 1 q5) 2 q6, by unfold VS.gaF; rw [if_pos g1]; rfl⟩ hP hD (show 0 + 1 + 1 + 1 + 0 ≤ 3 * (x.gcap - x.gN) by omega) (show 0 + (2 * x.gsize) + (2 * x.gsize) + (2 * x.gsize) + 0 ≤ 6 * (x.gcap - x.gN) by omega) d_P_add_85
/-- a point comes -/
def VS.cmF (x : VS) (pa : Nat → Nat) (w : Nat) (a b : Int64) : VS := if a < x.nhor then VS.s_nlast x (va_up x.nlast w a) else (VS.s_nlast x (va_up x.nlast w a)).haF pa w a b
def VS.cmcap (x : VS) (a : Int64) : Nat := if a < x.nhor then x.hN else x.hcap
set_option maxHeartbeats 4000000 in
set_option maxRecDepth 100000 in
theorem v_comePoint (l : Launch) (D : va_G) (dA : Nat → ClassId) (sz : Nat) (h : Nat) (ad : Nat → Nat) (x : VS) (w : Nat) (a : Int64) (b : Int64) (hw : w < 256) (hs1 : x.hsize ≤ x.hN) (hs2 : 0 < x.hN) (hs3 : x.hN ≤ 32768) : Met l ⟨"SeriesVault", "comePoint", "(IJJ)V"⟩ [Cond.code ⟨"SeriesVault", "comePoint", "(IJJ)V"⟩ prog_1_method_32_code 6 none] { frames := 3, cells := 3 * (x.cmcap a - x.hN), slots := 6 * (x.cmcap a - x.hN), locals := 87 } (pC D dA [.ref h, .int (nI w), .long a, .long b] (VW dA h ad x) sz) (va_Qv (fun (u9 : VS) => ∃ pa : Nat → Nat, u9 = x.cmF pa w a b) (fun (u9 : VS) t9 => bW D (va_A (VW dA h ad x) sz) (VW dA h ad u9) t9) (va_A (VW dA h ad x) sz)) (3 * (x.cmcap a - x.hN)) (6 * (x.cmcap a - x.hN)) (va_A (VW dA h ad x) sz) := by
  refine mkC (y := ⟨"SeriesVault", "comePoint", "(IJJ)V"⟩) (cc := prog_1_method_32_code) (maxL := 6) (av := [.ref h, .int (nI w), .long a, .long b]) (ws := VW dA h ad x) (sz := sz) (Qc := fun A => va_Qv (fun (u9 : VS) => ∃ pa : Nat → Nat, u9 = x.cmF pa w a b) (fun (u9 : VS) t9 => bW D A (VW dA h ad u9) t9) A) (by decide) (Nat.le_of_ble_eq_true rfl) ?_
  intro A p e s m below meth c ls hsz hB
  obtain ⟨hx, hb, hr, hml, hown, hin, hlk, hE, hK, hP, hD, hS, hA, hN, hl⟩ := hB
  have hown : s.vm.findClass "SeriesVault" = some m.cls := hown
  have hl : lv_has ls 6 [(0, .ref h), (1, .int (nI w)), (2, .long a), (4, .long b)] := hl
  obtain ⟨H, hH⟩ : ∃ z, z = s.heap := ⟨_, rfl⟩
  have hP : va_P D vwCl (VW dA h ad x) H := by rw [hH]; exact hP
  have hS : va_S A s.heap H [] := by rw [hH]; exact hS
  rw [← hH]
  refine lv_aload_n hx hb d_V_comePoint_0 rfl (lv_at hl 0 rfl) ?_
  refine gF (v := .ref (ad 3)) hx hb hown hE hK hP 0 rfl rfl layV 11 (by decide) w297 rfl d_V_comePoint_1 ?_
  refine gFN (v := .ref (ad 9)) hx hb hown hE hK hP 17 rfl rfl layH 9 (by decide) w1104 rfl d_V_comePoint_4 ?_
  refine lv_iload_n hx hb d_V_comePoint_7 rfl (lv_at hl 1 rfl) ?_
  refine lv_lload_n hx hb d_V_comePoint_8 rfl (lv_at hl 2 rfl) ?_
  refine nlst (n := 256) hx hb hK hP hD hS 23 2 rfl rfl (w) (by omega) (by decide) d_V_comePoint_9 (fun H locs hP hD hS => ?_)
  have hP : va_P D vwCl (VW dA h ad (VS.s_nlast x (va_up x.nlast w a))) H := hP
  have hD : va_D A (VW dA h ad (VS.s_nlast x (va_up x.nlast w a))) := hD
  refine lv_lload_n hx hb d_V_comePoint_10 rfl (lv_at hl 2 rfl) ?_
  refine lv_aload_n hx hb d_V_comePoint_11 rfl (lv_at hl 0 rfl) ?_
  refine gF (v := .ref (ad 3)) hx hb hown hE hK hP 0 rfl rfl layV 11 (by decide) w297 rfl d_V_comePoint_12 ?_
  refine gFN (v := .long x.nhor) hx hb hown hE hK hP 17 rfl rfl layH 7 (by decide) w710 rfl d_V_comePoint_15 ?_
  refine W.lcmp hx hb d_V_comePoint_18 ?_
  refine lv_if_lt hx hb d_V_comePoint_19 (tgt := 33) rfl (fun g1 => ?_) (fun g1 => ?_)
  · have g1 := (lg_cmp_lt _ _).mp g1
    have jc : x.cmcap a = x.hN := if_pos g1
    exact rfV hx hb hr hlk hS (VS.s_nlast x (va_up x.nlast w a)) ⟨x.hA, (if_pos g1).symm⟩ hP hD (show 0 ≤ 3 * (x.cmcap a - x.hN) by omega) (show 0 ≤ 6 * (x.cmcap a - x.hN) by omega) d_V_comePoint_33
  · have g1 := mt (lg_cmp_lt _ _).mpr g1
    have jc : x.cmcap a = x.hcap := if_neg g1
    refine lv_aload_n hx hb d_V_comePoint_22 rfl (lv_at hl 0 rfl) ?_
    refine gF (v := .ref (ad 1)) hx hb hown hE hK hP 0 rfl rfl layV 9 (by decide) w576 rfl d_V_comePoint_23 ?_
    refine lv_iload_n hx hb d_V_comePoint_26 rfl (lv_at hl 1 rfl) ?_
    refine lv_lload_n hx hb d_V_comePoint_27 rfl (lv_at hl 2 rfl) ?_
    refine lv_lload hx hb d_V_comePoint_28 (lv_at hl 3 rfl) ?_
    refine jfV (rnV (As := [.int (nI w), .long a, .long b]) (rest := []) hx hb hml hown hE hK (hN _ _ hS) hP hD (v_paddF_h l D dA H.size h ad (VS.s_nlast x (va_up x.nlast w a)) w a b hs1 hs2 hs3) (q0 := 9) rfl rfl w1106 w1105 w1107 w1108 w578 rfl rfl ⟨⟨by decide, by decide⟩, rfl⟩ ⟨(Nat.le_of_ble_eq_true rfl), (Nat.le_of_ble_eq_true rfl)⟩ rfl hl.1 rfl (Nat.le_of_ble_eq_true rfl) d_V_comePoint_30 ⟨(show 0 + (3 * (x.hcap - x.hN)) ≤ 3 * (x.cmcap a - x.hN) by omega), (show 0 + (6 * (x.hcap - x.hN)) ≤ 6 * (x.cmcap a - x.hN) by omega)⟩) hP hD hS hA (fun u3 H locs hp9 hP hD hS => ?_)
    obtain ⟨y4, h9u⟩ : ∃ z9, z9 = u3 := ⟨_, rfl⟩
    subst h9u
    have hP : va_P D vwCl (VW dA h ad y4) H := hP
    have hD : va_D A (VW dA h ad y4) := hD
    have f_e_5 := hp9
    exact rfV hx hb hr hlk hS y4 (by obtain ⟨pa, h9⟩ := f_e_5; exact ⟨pa, h9.trans (if_neg g1).symm⟩) hP hD (show 0 + (3 * (x.hcap - x.hN)) ≤ 3 * (x.cmcap a - x.hN) by omega) (show 0 + (6 * (x.hcap - x.hN)) ≤ 6 * (x.cmcap a - x.hN) by omega) d_V_comePoint_33
end
section
def VS.tgS (x : VS) (ta : Nat) : VS := VS.s_tape (VS.s_tpN (VS.s_tpA x ta) (2 * x.tpN)) (va_cpy x.tape (fun _ => 0) 0 0 (min x.tpN (2 * x.tpN)))
def VS.put1 (x : VS) (a : Int32) : VS := VS.s_tapeLength (VS.s_tape x (ptT a x.tape x.tapeLength)) (x.tapeLength + 1 + 1 + 1 + 1)
def VS.tcap (x : VS) : Nat := if x.tapeLength + 20 ≤ x.tpN then x.tpN else 2 * x.tpN
def VS.tgF (x : VS) (ta : Nat) : VS := if x.tapeLength + 20 ≤ x.tpN then x else x.tgS ta
def VS.fdF (x : VS) (ta : Nat) (a1 a2 a3 a4 a5 : Int32) : VS := ((((x.tgF ta).put1 a1).put1 a2).put1 a3).put1 a4 |>.put1 a5
set_option maxHeartbeats 4000000 in
set_option maxRecDepth 100000 in
theorem v_jclear (l : Launch) (D : va_G) (dA : Nat → ClassId) (sz : Nat) (h : Nat) (ad : Nat → Nat) (x : VS) (h9 : x.jN ≤ 65536) (h8 : x.jkept < 2 ^ 31) : Met l ⟨"SeriesVault$Journal", "clear", "()V"⟩ [Cond.code ⟨"SeriesVault$Journal", "clear", "()V"⟩ prog_3_method_3_code 1 none] { frames := 2, cells := 0, slots := 0, locals := 35 } (pC D dA [.ref (ad 0)] (VW dA h ad x) sz) (va_Qv (fun (u9 : Unit) => True) (fun (u9 : Unit) t9 => bW D (va_A (VW dA h ad x) sz) (VW dA h ad (VS.s_jch (VS.s_jfill (VS.s_jblock (VS.s_junits (VS.s_jkept (VS.s_jsize x 0) 0) 0) 0) 0) false)) t9) (va_A (VW dA h ad x) sz)) 0 0 (va_A (VW dA h ad x) sz) := by
  refine mkC (y := ⟨"SeriesVault$Journal", "clear", "()V"⟩) (cc := prog_3_method_3_code) (maxL := 1) (av := [.ref (ad 0)]) (ws := VW dA h ad x) (sz := sz) (Qc := fun A => va_Qv (fun (u9 : Unit) => True) (fun (u9 : Unit) t9 => bW D A (VW dA h ad (VS.s_jch (VS.s_jfill (VS.s_jblock (VS.s_junits (VS.s_jkept (VS.s_jsize x 0) 0) 0) 0) 0) false)) t9) A) (by decide) (Nat.le_of_ble_eq_true rfl) ?_
  intro A p e s m below meth c ls hsz hB
  obtain ⟨hx, hb, hr, hml, hown, hin, hlk, hE, hK, hP, hD, hS, hA, hN, hl⟩ := hB
  have hown : s.vm.findClass "SeriesVault$Journal" = some m.cls := hown
  have hl : lv_has ls 1 [(0, .ref (ad 0))] := hl
  obtain ⟨H, hH⟩ : ∃ z, z = s.heap := ⟨_, rfl⟩
  have hP : va_P D vwCl (VW dA h ad x) H := by rw [hH]; exact hP
  have hS : va_S A s.heap H [] := by rw [hH]; exact hS
  rw [← hH]
  refine lv_aload_n hx hb d_J_clear_0 rfl (lv_at hl 0 rfl) ?_
  refine lv_iconst (v := 0) hx hb d_J_clear_1 (by decide) ?_
  refine pF (v := .int (nI 0)) hx hb hown hE hK hP hD hS 2 rfl rfl layJ tyJ tokJ nmJ 6 (by decide) w545 rfl rfl rfl (Nat.le_of_ble_eq_true rfl) d_J_clear_2 (fun H locs hP hD hS => ?_)
  have hP : va_P D vwCl (VW dA h ad (VS.s_jsize x 0)) H := hP
  have hD : va_D A (VW dA h ad (VS.s_jsize x 0)) := hD
  refine lv_aload_n hx hb d_J_clear_5 rfl (lv_at hl 0 rfl) ?_
  refine jfV (rnV (As := []) (rest := []) hx hb hml hown hE hK (hN _ _ hS) hP hD (v_forgetUnkept l D dA H.size h ad (VS.s_jsize x 0) 0 0 0 (Nat.zero_le _) (show x.jN ≤ 65536 from by omega) (show x.jkept < 2 ^ 31 from by omega) (fun q hq => absurd hq (Nat.not_lt_zero q)) (by rw [Nat.zero_min]; rfl)) (q0 := 2) rfl rfl w557 w555 w558 w559 w556 rfl rfl ⟨⟨by decide, by decide⟩, rfl⟩ ⟨(Nat.le_of_ble_eq_true rfl), (Nat.le_of_ble_eq_true rfl)⟩ rfl hl.1 rfl (Nat.le_of_ble_eq_true rfl) d_J_clear_6 ⟨(Nat.le_of_ble_eq_true rfl), (Nat.le_of_ble_eq_true rfl)⟩) hP hD hS hA (fun u2 H locs hp9 hP hD hS => ?_)
  have hP : va_P D vwCl (VW dA h ad (VS.s_jch (VS.s_jfill (VS.s_jblock (VS.s_junits (VS.s_jkept (VS.s_jsize x (min 0 x.jkept)) (min 0 x.jkept)) 0) 0) 0) false)) H := hP
  have hD : va_D A (VW dA h ad (VS.s_jch (VS.s_jfill (VS.s_jblock (VS.s_junits (VS.s_jkept (VS.s_jsize x (min 0 x.jkept)) (min 0 x.jkept)) 0) 0) 0) false)) := hD
  have e9 : (VS.s_jch (VS.s_jfill (VS.s_jblock (VS.s_junits (VS.s_jkept (VS.s_jsize x (min 0 x.jkept)) (min 0 x.jkept)) 0) 0) 0) false : VS) = VS.s_jch (VS.s_jfill (VS.s_jblock (VS.s_junits (VS.s_jkept (VS.s_jsize x 0) 0) 0) 0) 0) false := by rw [show 0 = (min 0 x.jkept) from by (exact (Nat.zero_min _).symm), show 0 = (min 0 x.jkept) from by (exact (Nat.zero_min _).symm)] <;> rfl
  exact rfV hx hb hr hlk hS () trivial (cvPv e9 hP) (cvDv e9 hD) (Nat.le_of_ble_eq_true rfl) (Nat.le_of_ble_eq_true rfl) d_J_clear_9
set_option maxHeartbeats 4000000 in
set_option maxRecDepth 100000 in
theorem v_jreset (l : Launch) (D : va_G) (dA : Nat → ClassId) (sz : Nat) (h : Nat) (ad : Nat → Nat) (x : VS) (j : Nat) (h9 : x.jN ≤ 65536) (h8 : x.jkept < 2 ^ 31) : Met l ⟨"SeriesVault$Journal", "reset", "(I)V"⟩ [Cond.code ⟨"SeriesVault$Journal", "reset", "(I)V"⟩ prog_3_method_2_code 2 none] { frames := 3, cells := 0, slots := 0, locals := 55 } (pC D dA [.ref (ad 0), .int (nI j)] (VW dA h ad x) sz) (va_Qv (fun (u9 : Unit) => True) (fun (u9 : Unit) t9 => bW D (va_A (VW dA h ad x) sz) (VW dA h ad (VS.s_jch (VS.s_jfill (VS.s_jblock (VS.s_jlimit (VS.s_junits (VS.s_jkept (VS.s_jsize x 0) 0) 0) j) 0) 0) false)) t9) (va_A (VW dA h ad x) sz)) 0 0 (va_A (VW dA h ad x) sz) := by
  refine mkC (y := ⟨"SeriesVault$Journal", "reset", "(I)V"⟩) (cc := prog_3_method_2_code) (maxL := 2) (av := [.ref (ad 0), .int (nI j)]) (ws := VW dA h ad x) (sz := sz) (Qc := fun A => va_Qv (fun (u9 : Unit) => True) (fun (u9 : Unit) t9 => bW D A (VW dA h ad (VS.s_jch (VS.s_jfill (VS.s_jblock (VS.s_jlimit (VS.s_junits (VS.s_jkept (VS.s_jsize x 0) 0) 0) j) 0) 0) false)) t9) A) (by decide) (Nat.le_of_ble_eq_true rfl) ?_
  intro A p e s m below meth c ls hsz hB
  obtain ⟨hx, hb, hr, hml, hown, hin, hlk, hE, hK, hP, hD, hS, hA, hN, hl⟩ := hB
  have hown : s.vm.findClass "SeriesVault$Journal" = some m.cls := hown
  have hl : lv_has ls 2 [(0, .ref (ad 0)), (1, .int (nI j))] := hl
  obtain ⟨H, hH⟩ : ∃ z, z = s.heap := ⟨_, rfl⟩
  have hP : va_P D vwCl (VW dA h ad x) H := by rw [hH]; exact hP
  have hS : va_S A s.heap H [] := by rw [hH]; exact hS
  rw [← hH]
  refine lv_aload_n hx hb d_J_reset_0 rfl (lv_at hl 0 rfl) ?_
  refine lv_iload_n hx hb d_J_reset_1 rfl (lv_at hl 1 rfl) ?_
  refine pF (v := .int (nI j)) hx hb hown hE hK hP hD hS 2 rfl rfl layJ tyJ tokJ nmJ 9 (by decide) w560 rfl rfl rfl (Nat.le_of_ble_eq_true rfl) d_J_reset_2 (fun H locs hP hD hS => ?_)
  have hP : va_P D vwCl (VW dA h ad (VS.s_jlimit x j)) H := hP
  have hD : va_D A (VW dA h ad (VS.s_jlimit x j)) := hD
  refine lv_aload_n hx hb d_J_reset_5 rfl (lv_at hl 0 rfl) ?_
  refine jfV (rnV (As := []) (rest := []) hx hb hml hown hE hK (hN _ _ hS) hP hD (v_jclear l D dA H.size h ad (VS.s_jlimit x j) (show x.jN ≤ 65536 from by omega) (show x.jkept < 2 ^ 31 from by omega)) (q0 := 2) rfl rfl w562 w561 w563 w564 w556 rfl rfl ⟨⟨by decide, by decide⟩, rfl⟩ ⟨(Nat.le_of_ble_eq_true rfl), (Nat.le_of_ble_eq_true rfl)⟩ rfl hl.1 rfl (Nat.le_of_ble_eq_true rfl) d_J_reset_6 ⟨(Nat.le_of_ble_eq_true rfl), (Nat.le_of_ble_eq_true rfl)⟩) hP hD hS hA (fun u2 H locs hp9 hP hD hS => ?_)
  have hP : va_P D vwCl (VW dA h ad (VS.s_jch (VS.s_jfill (VS.s_jblock (VS.s_jlimit (VS.s_junits (VS.s_jkept (VS.s_jsize x 0) 0) 0) j) 0) 0) false)) H := hP
  have hD : va_D A (VW dA h ad (VS.s_jch (VS.s_jfill (VS.s_jblock (VS.s_jlimit (VS.s_junits (VS.s_jkept (VS.s_jsize x 0) 0) 0) j) 0) 0) false)) := hD
  exact rfV hx hb hr hlk hS () trivial hP hD (Nat.le_of_ble_eq_true rfl) (Nat.le_of_ble_eq_true rfl) d_J_reset_9
set_option maxHeartbeats 4000000 in
set_option maxRecDepth 100000 in
theorem v_makeDisk (l : Launch) (D : va_G) (dA : Nat → ClassId) (sz : Nat) (h : Nat) (ad : Nat → Nat) (x : VS) (n : Nat) (j : Nat) (h9 : x.jN ≤ 65536) (h8 : x.jkept < 2 ^ 31) : Met l ⟨"SeriesVault", "makeDisk", "(II)V"⟩ [Cond.code ⟨"SeriesVault", "makeDisk", "(II)V"⟩ prog_1_method_9_code 3 none] { frames := 4, cells := 0, slots := 0, locals := 76 } (pC D dA [.ref h, .int (nI n), .int (nI j)] (VW dA h ad x) sz) (va_Qv (fun (u9 : Unit) => True) (fun (u9 : Unit) t9 => bW D (va_A (VW dA h ad x) sz) (VW dA h ad (VS.s_scat (VS.s_sser (VS.s_shor (VS.s_ssc (VS.s_spc (VS.s_ncat (VS.s_nser (VS.s_nhor (VS.s_nsc (VS.s_npc (VS.s_hsize (VS.s_jch (VS.s_jfill (VS.s_jblock (VS.s_jlimit (VS.s_junits (VS.s_jkept (VS.s_jsize (VS.s_hasTable (VS.s_writes (VS.s_cutLeft (VS.s_powered (VS.s_diskBlocks x n) true) (-1)) 0) false) 0) 0) 0) j) 0) 0) false) 0) 0) 0) 0) 0) 0) 0) 0) 0) 0) 0)) t9) (va_A (VW dA h ad x) sz)) 0 0 (va_A (VW dA h ad x) sz) := by
  refine mkC (y := ⟨"SeriesVault", "makeDisk", "(II)V"⟩) (cc := prog_1_method_9_code) (maxL := 3) (av := [.ref h, .int (nI n), .int (nI j)]) (ws := VW dA h ad x) (sz := sz) (Qc := fun A => va_Qv (fun (u9 : Unit) => True) (fun (u9 : Unit) t9 => bW D A (VW dA h ad (VS.s_scat (VS.s_sser (VS.s_shor (VS.s_ssc (VS.s_spc (VS.s_ncat (VS.s_nser (VS.s_nhor (VS.s_nsc (VS.s_npc (VS.s_hsize (VS.s_jch (VS.s_jfill (VS.s_jblock (VS.s_jlimit (VS.s_junits (VS.s_jkept (VS.s_jsize (VS.s_hasTable (VS.s_writes (VS.s_cutLeft (VS.s_powered (VS.s_diskBlocks x n) true) (-1)) 0) false) 0) 0) 0) j) 0) 0) false) 0) 0) 0) 0) 0) 0) 0) 0) 0) 0) 0)) t9) A) (by decide) (Nat.le_of_ble_eq_true rfl) ?_
  intro A p e s m below meth c ls hsz hB
  obtain ⟨hx, hb, hr, hml, hown, hin, hlk, hE, hK, hP, hD, hS, hA, hN, hl⟩ := hB
  have hown : s.vm.findClass "SeriesVault" = some m.cls := hown
  have hl : lv_has ls 3 [(0, .ref h), (1, .int (nI n)), (2, .int (nI j))] := hl
  obtain ⟨H, hH⟩ : ∃ z, z = s.heap := ⟨_, rfl⟩
  have hP : va_P D vwCl (VW dA h ad x) H := by rw [hH]; exact hP
  have hS : va_S A s.heap H [] := by rw [hH]; exact hS
  rw [← hH]
  refine lv_aload_n hx hb d_V_makeDisk_0 rfl (lv_at hl 0 rfl) ?_
  refine lv_iload_n hx hb d_V_makeDisk_1 rfl (lv_at hl 1 rfl) ?_
  refine pF (v := .int (nI n)) hx hb hown hE hK hP hD hS 0 rfl rfl layV tyV tokV nmV 4 (by decide) w571 rfl rfl rfl (Nat.le_of_ble_eq_true rfl) d_V_makeDisk_2 (fun H locs hP hD hS => ?_)
  have hP : va_P D vwCl (VW dA h ad (VS.s_diskBlocks x n)) H := hP
  have hD : va_D A (VW dA h ad (VS.s_diskBlocks x n)) := hD
  refine lv_aload_n hx hb d_V_makeDisk_5 rfl (lv_at hl 0 rfl) ?_
  refine lv_iconst (v := 1) hx hb d_V_makeDisk_6 (by decide) ?_
  refine pF (v := .int (bI true)) hx hb hown hE hK hP hD hS 0 rfl rfl layV tyV tokV nmV 5 (by decide) w275 rfl (bI_nar true) (bI_fit true) (Nat.le_of_ble_eq_true rfl) d_V_makeDisk_7 (fun H locs hP hD hS => ?_)
  have hP : va_P D vwCl (VW dA h ad (VS.s_powered (VS.s_diskBlocks x n) true)) H := hP
  have hD : va_D A (VW dA h ad (VS.s_powered (VS.s_diskBlocks x n) true)) := hD
  refine lv_aload_n hx hb d_V_makeDisk_10 rfl (lv_at hl 0 rfl) ?_
  refine lv_iconst (v := (-1)) hx hb d_V_makeDisk_11 (by decide) ?_
  refine pF (v := .int (-1)) hx hb hown hE hK hP hD hS 0 rfl rfl layV tyV tokV nmV 6 (by decide) w281 rfl rfl rfl (Nat.le_of_ble_eq_true rfl) d_V_makeDisk_12 (fun H locs hP hD hS => ?_)
  have hP : va_P D vwCl (VW dA h ad (VS.s_cutLeft (VS.s_powered (VS.s_diskBlocks x n) true) (-1))) H := hP
  have hD : va_D A (VW dA h ad (VS.s_cutLeft (VS.s_powered (VS.s_diskBlocks x n) true) (-1))) := hD
  refine lv_aload_n hx hb d_V_makeDisk_15 rfl (lv_at hl 0 rfl) ?_
  refine lv_iconst (v := 0) hx hb d_V_makeDisk_16 (by decide) ?_
  refine pF (v := .int (nI 0)) hx hb hown hE hK hP hD hS 0 rfl rfl layV tyV tokV nmV 7 (by decide) w209 rfl rfl rfl (Nat.le_of_ble_eq_true rfl) d_V_makeDisk_17 (fun H locs hP hD hS => ?_)
  have hP : va_P D vwCl (VW dA h ad (VS.s_writes (VS.s_cutLeft (VS.s_powered (VS.s_diskBlocks x n) true) (-1)) 0)) H := hP
  have hD : va_D A (VW dA h ad (VS.s_writes (VS.s_cutLeft (VS.s_powered (VS.s_diskBlocks x n) true) (-1)) 0)) := hD
  refine lv_aload_n hx hb d_V_makeDisk_20 rfl (lv_at hl 0 rfl) ?_
  refine lv_iconst (v := 0) hx hb d_V_makeDisk_21 (by decide) ?_
  refine pF (v := .int (bI false)) hx hb hown hE hK hP hD hS 0 rfl rfl layV tyV tokV nmV 17 (by decide) w210 rfl (bI_nar false) (bI_fit false) (Nat.le_of_ble_eq_true rfl) d_V_makeDisk_22 (fun H locs hP hD hS => ?_)
  have hP : va_P D vwCl (VW dA h ad (VS.s_hasTable (VS.s_writes (VS.s_cutLeft (VS.s_powered (VS.s_diskBlocks x n) true) (-1)) 0) false)) H := hP
  have hD : va_D A (VW dA h ad (VS.s_hasTable (VS.s_writes (VS.s_cutLeft (VS.s_powered (VS.s_diskBlocks x n) true) (-1)) 0) false)) := hD
  refine lv_aload_n hx hb d_V_makeDisk_25 rfl (lv_at hl 0 rfl) ?_
  refine gF (v := .ref (ad 0)) hx hb hown hE hK hP 0 rfl rfl layV 8 (by decide) w312 rfl d_V_makeDisk_26 ?_
  refine lv_iload_n hx hb d_V_makeDisk_29 rfl (lv_at hl 2 rfl) ?_
  refine jfV (rnV (As := [.int (nI j)]) (rest := []) hx hb hml hown hE hK (hN _ _ hS) hP hD (v_jreset l D dA H.size h ad (VS.s_hasTable (VS.s_writes (VS.s_cutLeft (VS.s_powered (VS.s_diskBlocks x n) true) (-1)) 0) false) j (show x.jN ≤ 65536 from by omega) (show x.jkept < 2 ^ 31 from by omega)) (q0 := 2) rfl rfl w573 w572 w574 w575 w556 rfl rfl ⟨⟨by decide, by decide⟩, rfl⟩ ⟨(Nat.le_of_ble_eq_true rfl), (Nat.le_of_ble_eq_true rfl)⟩ rfl hl.1 rfl (Nat.le_of_ble_eq_true rfl) d_V_makeDisk_30 ⟨(Nat.le_of_ble_eq_true rfl), (Nat.le_of_ble_eq_true rfl)⟩) hP hD hS hA (fun u2 H locs hp9 hP hD hS => ?_)
  have hP : va_P D vwCl (VW dA h ad (VS.s_jch (VS.s_jfill (VS.s_jblock (VS.s_jlimit (VS.s_junits (VS.s_jkept (VS.s_jsize (VS.s_hasTable (VS.s_writes (VS.s_cutLeft (VS.s_powered (VS.s_diskBlocks x n) true) (-1)) 0) false) 0) 0) 0) j) 0) 0) false)) H := hP
  have hD : va_D A (VW dA h ad (VS.s_jch (VS.s_jfill (VS.s_jblock (VS.s_jlimit (VS.s_junits (VS.s_jkept (VS.s_jsize (VS.s_hasTable (VS.s_writes (VS.s_cutLeft (VS.s_powered (VS.s_diskBlocks x n) true) (-1)) 0) false) 0) 0) 0) j) 0) 0) false)) := hD
  refine lv_aload_n hx hb d_V_makeDisk_33 rfl (lv_at hl 0 rfl) ?_
  refine gF (v := .ref (ad 1)) hx hb hown hE hK hP 0 rfl rfl layV 9 (by decide) w576 rfl d_V_makeDisk_34 ?_
  refine jfV (rnV (As := []) (rest := []) hx hb hml hown hE hK (hN _ _ hS) hP hD (v_pclear_h l D dA H.size h ad (VS.s_jch (VS.s_jfill (VS.s_jblock (VS.s_jlimit (VS.s_junits (VS.s_jkept (VS.s_jsize (VS.s_hasTable (VS.s_writes (VS.s_cutLeft (VS.s_powered (VS.s_diskBlocks x n) true) (-1)) 0) false) 0) 0) 0) j) 0) 0) false)) (q0 := 9) rfl rfl w579 w577 w580 w581 w578 rfl rfl ⟨⟨by decide, by decide⟩, rfl⟩ ⟨(Nat.le_of_ble_eq_true rfl), (Nat.le_of_ble_eq_true rfl)⟩ rfl hl.1 rfl (Nat.le_of_ble_eq_true rfl) d_V_makeDisk_37 ⟨(Nat.le_of_ble_eq_true rfl), (Nat.le_of_ble_eq_true rfl)⟩) hP hD hS hA (fun u4 H locs hp9 hP hD hS => ?_)
  have hP : va_P D vwCl (VW dA h ad (VS.s_hsize (VS.s_jch (VS.s_jfill (VS.s_jblock (VS.s_jlimit (VS.s_junits (VS.s_jkept (VS.s_jsize (VS.s_hasTable (VS.s_writes (VS.s_cutLeft (VS.s_powered (VS.s_diskBlocks x n) true) (-1)) 0) false) 0) 0) 0) j) 0) 0) false) 0)) H := hP
  have hD : va_D A (VW dA h ad (VS.s_hsize (VS.s_jch (VS.s_jfill (VS.s_jblock (VS.s_jlimit (VS.s_junits (VS.s_jkept (VS.s_jsize (VS.s_hasTable (VS.s_writes (VS.s_cutLeft (VS.s_powered (VS.s_diskBlocks x n) true) (-1)) 0) false) 0) 0) 0) j) 0) 0) false) 0)) := hD
  refine lv_aload_n hx hb d_V_makeDisk_40 rfl (lv_at hl 0 rfl) ?_
  refine gF (v := .ref (ad 3)) hx hb hown hE hK hP 0 rfl rfl layV 11 (by decide) w297 rfl d_V_makeDisk_41 ?_
  refine jfV (rnV (As := []) (rest := []) hx hb hml hown hE hK (hN _ _ hS) hP hD (v_hclear_n l D dA H.size h ad (VS.s_hsize (VS.s_jch (VS.s_jfill (VS.s_jblock (VS.s_jlimit (VS.s_junits (VS.s_jkept (VS.s_jsize (VS.s_hasTable (VS.s_writes (VS.s_cutLeft (VS.s_powered (VS.s_diskBlocks x n) true) (-1)) 0) false) 0) 0) 0) j) 0) 0) false) 0)) (q0 := 17) rfl rfl w584 w582 w585 w586 w583 rfl rfl ⟨⟨by decide, by decide⟩, rfl⟩ ⟨(Nat.le_of_ble_eq_true rfl), (Nat.le_of_ble_eq_true rfl)⟩ rfl hl.1 rfl (Nat.le_of_ble_eq_true rfl) d_V_makeDisk_44 ⟨(Nat.le_of_ble_eq_true rfl), (Nat.le_of_ble_eq_true rfl)⟩) hP hD hS hA (fun u6 H locs hp9 hP hD hS => ?_)
  have hP : va_P D vwCl (VW dA h ad (VS.s_ncat (VS.s_nser (VS.s_nhor (VS.s_nsc (VS.s_npc (VS.s_hsize (VS.s_jch (VS.s_jfill (VS.s_jblock (VS.s_jlimit (VS.s_junits (VS.s_jkept (VS.s_jsize (VS.s_hasTable (VS.s_writes (VS.s_cutLeft (VS.s_powered (VS.s_diskBlocks x n) true) (-1)) 0) false) 0) 0) 0) j) 0) 0) false) 0) 0) 0) 0) 0) 0)) H := hP
  have hD : va_D A (VW dA h ad (VS.s_ncat (VS.s_nser (VS.s_nhor (VS.s_nsc (VS.s_npc (VS.s_hsize (VS.s_jch (VS.s_jfill (VS.s_jblock (VS.s_jlimit (VS.s_junits (VS.s_jkept (VS.s_jsize (VS.s_hasTable (VS.s_writes (VS.s_cutLeft (VS.s_powered (VS.s_diskBlocks x n) true) (-1)) 0) false) 0) 0) 0) j) 0) 0) false) 0) 0) 0) 0) 0) 0)) := hD
  refine lv_aload_n hx hb d_V_makeDisk_47 rfl (lv_at hl 0 rfl) ?_
  refine gF (v := .ref (ad 10)) hx hb hown hE hK hP 0 rfl rfl layV 12 (by decide) w587 rfl d_V_makeDisk_48 ?_
  refine jfV (rnV (As := []) (rest := []) hx hb hml hown hE hK (hN _ _ hS) hP hD (v_hclear_s l D dA H.size h ad (VS.s_ncat (VS.s_nser (VS.s_nhor (VS.s_nsc (VS.s_npc (VS.s_hsize (VS.s_jch (VS.s_jfill (VS.s_jblock (VS.s_jlimit (VS.s_junits (VS.s_jkept (VS.s_jsize (VS.s_hasTable (VS.s_writes (VS.s_cutLeft (VS.s_powered (VS.s_diskBlocks x n) true) (-1)) 0) false) 0) 0) 0) j) 0) 0) false) 0) 0) 0) 0) 0) 0)) (q0 := 24) rfl rfl w584 w582 w585 w586 w583 rfl rfl ⟨⟨by decide, by decide⟩, rfl⟩ ⟨(Nat.le_of_ble_eq_true rfl), (Nat.le_of_ble_eq_true rfl)⟩ rfl hl.1 rfl (Nat.le_of_ble_eq_true rfl) d_V_makeDisk_51 ⟨(Nat.le_of_ble_eq_true rfl), (Nat.le_of_ble_eq_true rfl)⟩) hP hD hS hA (fun u8 H locs hp9 hP hD hS => ?_)
  have hP : va_P D vwCl (VW dA h ad (VS.s_scat (VS.s_sser (VS.s_shor (VS.s_ssc (VS.s_spc (VS.s_ncat (VS.s_nser (VS.s_nhor (VS.s_nsc (VS.s_npc (VS.s_hsize (VS.s_jch (VS.s_jfill (VS.s_jblock (VS.s_jlimit (VS.s_junits (VS.s_jkept (VS.s_jsize (VS.s_hasTable (VS.s_writes (VS.s_cutLeft (VS.s_powered (VS.s_diskBlocks x n) true) (-1)) 0) false) 0) 0) 0) j) 0) 0) false) 0) 0) 0) 0) 0) 0) 0) 0) 0) 0) 0)) H := hP
  have hD : va_D A (VW dA h ad (VS.s_scat (VS.s_sser (VS.s_shor (VS.s_ssc (VS.s_spc (VS.s_ncat (VS.s_nser (VS.s_nhor (VS.s_nsc (VS.s_npc (VS.s_hsize (VS.s_jch (VS.s_jfill (VS.s_jblock (VS.s_jlimit (VS.s_junits (VS.s_jkept (VS.s_jsize (VS.s_hasTable (VS.s_writes (VS.s_cutLeft (VS.s_powered (VS.s_diskBlocks x n) true) (-1)) 0) false) 0) 0) 0) j) 0) 0) false) 0) 0) 0) 0) 0) 0) 0) 0) 0) 0) 0)) := hD
  exact rfV hx hb hr hlk hS () trivial hP hD (Nat.le_of_ble_eq_true rfl) (Nat.le_of_ble_eq_true rfl) d_V_makeDisk_54
set_option maxHeartbeats 4000000 in
set_option maxRecDepth 100000 in
theorem v_format (l : Launch) (D : va_G) (dA : Nat → ClassId) (sz : Nat) (h : Nat) (ad : Nat → Nat) (x : VS) (n : Nat) (j : Nat) (h9 : x.jN ≤ 65536) (h8 : x.jkept < 2 ^ 31) (h1 : 16 ≤ n) (h2 : n ≤ 256) (h3 : 2 ≤ j) (h4 : j ≤ n - 8) : Met l ⟨"SeriesVault", "format", "(II)V"⟩ [Cond.code ⟨"SeriesVault", "format", "(II)V"⟩ prog_1_method_8_code 3 none] { frames := 5, cells := 0, slots := 0, locals := 98 } (pC D dA [.ref h, .int (nI n), .int (nI j)] (VW dA h ad x) sz) (va_Qv (fun (u9 : Unit) => True) (fun (u9 : Unit) t9 => bW D (va_A (VW dA h ad x) sz) (VW dA h ad (VS.s_scat (VS.s_sser (VS.s_shor (VS.s_ssc (VS.s_spc (VS.s_ncat (VS.s_nser (VS.s_nhor (VS.s_nsc (VS.s_npc (VS.s_hsize (VS.s_jch (VS.s_jfill (VS.s_jblock (VS.s_jlimit (VS.s_junits (VS.s_jkept (VS.s_jsize (VS.s_hasTable (VS.s_writes (VS.s_cutLeft (VS.s_powered (VS.s_diskBlocks x n) true) (-1)) 0) false) 0) 0) 0) j) 0) 0) false) 0) 0) 0) 0) 0) 0) 0) 0) 0) 0) 0)) t9) (va_A (VW dA h ad x) sz)) 0 0 (va_A (VW dA h ad x) sz) := by
  refine mkC (y := ⟨"SeriesVault", "format", "(II)V"⟩) (cc := prog_1_method_8_code) (maxL := 3) (av := [.ref h, .int (nI n), .int (nI j)]) (ws := VW dA h ad x) (sz := sz) (Qc := fun A => va_Qv (fun (u9 : Unit) => True) (fun (u9 : Unit) t9 => bW D A (VW dA h ad (VS.s_scat (VS.s_sser (VS.s_shor (VS.s_ssc (VS.s_spc (VS.s_ncat (VS.s_nser (VS.s_nhor (VS.s_nsc (VS.s_npc (VS.s_hsize (VS.s_jch (VS.s_jfill (VS.s_jblock (VS.s_jlimit (VS.s_junits (VS.s_jkept (VS.s_jsize (VS.s_hasTable (VS.s_writes (VS.s_cutLeft (VS.s_powered (VS.s_diskBlocks x n) true) (-1)) 0) false) 0) 0) 0) j) 0) 0) false) 0) 0) 0) 0) 0) 0) 0) 0) 0) 0) 0)) t9) A) (by decide) (Nat.le_of_ble_eq_true rfl) ?_
  intro A p e s m below meth c ls hsz hB
  obtain ⟨hx, hb, hr, hml, hown, hin, hlk, hE, hK, hP, hD, hS, hA, hN, hl⟩ := hB
  have hown : s.vm.findClass "SeriesVault" = some m.cls := hown
  have hl : lv_has ls 3 [(0, .ref h), (1, .int (nI n)), (2, .int (nI j))] := hl
  obtain ⟨H, hH⟩ : ∃ z, z = s.heap := ⟨_, rfl⟩
  have hP : va_P D vwCl (VW dA h ad x) H := by rw [hH]; exact hP
  have hS : va_S A s.heap H [] := by rw [hH]; exact hS
  rw [← hH]
  refine lv_iload_n hx hb d_V_format_0 rfl (lv_at hl 1 rfl) ?_
  refine lv_bipush (v := 16) hx hb d_V_format_1 (by decide) ?_
  refine lv_icmp_lt hx hb d_V_format_3 (tgt := 26) rfl (fun h9 => absurd h9 (mt (nI_ltI (a := n) (b := 16) (by omega) (by omega)).mp (Nat.not_lt.mpr h1))) (fun _ => ?_)
  refine lv_iload_n hx hb d_V_format_6 rfl (lv_at hl 1 rfl) ?_
  refine lv_sipush (v := 256) hx hb d_V_format_7 (by decide) ?_
  refine lv_icmp_gt hx hb d_V_format_10 (tgt := 26) rfl (fun h9 => absurd h9 (mt (nI_ltI (a := 256) (b := n) (by omega) (by omega)).mp (Nat.not_lt.mpr h2))) (fun _ => ?_)
  refine lv_iload_n hx hb d_V_format_13 rfl (lv_at hl 2 rfl) ?_
  refine lv_iconst (v := 2) hx hb d_V_format_14 (by decide) ?_
  refine lv_icmp_lt hx hb d_V_format_15 (tgt := 26) rfl (fun h9 => absurd h9 (mt (nI_ltI (a := j) (b := 2) (by omega) (by omega)).mp (Nat.not_lt.mpr h3))) (fun _ => ?_)
  refine lv_iload_n hx hb d_V_format_18 rfl (lv_at hl 2 rfl) ?_
  refine lv_iload_n hx hb d_V_format_19 rfl (lv_at hl 1 rfl) ?_
  refine lv_bipush (v := 8) hx hb d_V_format_20 (by decide) ?_
  refine lv_isub hx hb d_V_format_22 (tpi (y := nI (n - 8)) (pk_sub (a := n) (b := 8) (by omega)) ?_)
  refine lv_icmp_le hx hb d_V_format_23 (tgt := 34) rfl (fun _ => ?_) (fun h9 => absurd ((nI_leI (a := j) (b := n - 8) (by omega) (by omega)).mpr h4) h9)
  refine lv_aload_n hx hb d_V_format_34 rfl (lv_at hl 0 rfl) ?_
  refine lv_iload_n hx hb d_V_format_35 rfl (lv_at hl 1 rfl) ?_
  refine lv_iload_n hx hb d_V_format_36 rfl (lv_at hl 2 rfl) ?_
  refine jfV (rnV (As := [.int (nI n), .int (nI j)]) (rest := []) hx hb hml hown hE hK (hN _ _ hS) hP hD (v_makeDisk l D dA H.size h ad x n j (show x.jN ≤ 65536 from by omega) (show x.jkept < 2 ^ 31 from by omega)) (q0 := 0) rfl rfl w589 w588 w590 w591 w277 rfl rfl ⟨⟨by decide, by decide⟩, rfl⟩ ⟨(Nat.le_of_ble_eq_true rfl), (Nat.le_of_ble_eq_true rfl)⟩ rfl hl.1 rfl (Nat.le_of_ble_eq_true rfl) d_V_format_37 ⟨(Nat.le_of_ble_eq_true rfl), (Nat.le_of_ble_eq_true rfl)⟩) hP hD hS hA (fun u2 H locs hp9 hP hD hS => ?_)
  have hP : va_P D vwCl (VW dA h ad (VS.s_scat (VS.s_sser (VS.s_shor (VS.s_ssc (VS.s_spc (VS.s_ncat (VS.s_nser (VS.s_nhor (VS.s_nsc (VS.s_npc (VS.s_hsize (VS.s_jch (VS.s_jfill (VS.s_jblock (VS.s_jlimit (VS.s_junits (VS.s_jkept (VS.s_jsize (VS.s_hasTable (VS.s_writes (VS.s_cutLeft (VS.s_powered (VS.s_diskBlocks x n) true) (-1)) 0) false) 0) 0) 0) j) 0) 0) false) 0) 0) 0) 0) 0) 0) 0) 0) 0) 0) 0)) H := hP
  have hD : va_D A (VW dA h ad (VS.s_scat (VS.s_sser (VS.s_shor (VS.s_ssc (VS.s_spc (VS.s_ncat (VS.s_nser (VS.s_nhor (VS.s_nsc (VS.s_npc (VS.s_hsize (VS.s_jch (VS.s_jfill (VS.s_jblock (VS.s_jlimit (VS.s_junits (VS.s_jkept (VS.s_jsize (VS.s_hasTable (VS.s_writes (VS.s_cutLeft (VS.s_powered (VS.s_diskBlocks x n) true) (-1)) 0) false) 0) 0) 0) j) 0) 0) false) 0) 0) 0) 0) 0) 0) 0) 0) 0) 0) 0)) := hD
  exact rfV hx hb hr hlk hS () trivial hP hD (Nat.le_of_ble_eq_true rfl) (Nat.le_of_ble_eq_true rfl) d_V_format_40
def VS.apF (x : VS) (ja pa : Nat → Nat) (w : Nat) (a b : Int64) : VS := (x.wrF ja 1 w 1 a b).cmF pa w a b
theorem wrF_h (x : VS) (ja : Nat → Nat) (kd w n : Nat) (a b : Int64) : (x.wrF ja kd w n a b).hsize = x.hsize ∧ (x.wrF ja kd w n a b).hN = x.hN ∧ (x.wrF ja kd w n a b).nhor = x.nhor ∧ (x.wrF ja kd w n a b).cmcap = x.cmcap := by
  unfold VS.wrF VS.wrB VS.wjS VS.jadF
  repeat' split
  all_goals exact ⟨rfl, rfl, rfl, rfl⟩
theorem d_V_addPoint_0 : decode prog_1_method_31_code 0 = .ok (.aload_n 0, 1) := by decide +kernel
theorem d_V_addPoint_1 : decode prog_1_method_31_code 1 = .ok (.iconst 1, 1) := by decide +kernel
theorem d_V_addPoint_2 : decode prog_1_method_31_code 2 = .ok (.iload_n 1, 1) := by decide +kernel
theorem d_V_addPoint_3 : decode prog_1_method_31_code 3 = .ok (.iconst 1, 1) := by decide +kernel
theorem d_V_addPoint_4 : decode prog_1_method_31_code 4 = .ok (.lload_n 2, 1) := by decide +kernel
theorem d_V_addPoint_5 : decode prog_1_method_31_code 5 = .ok (.lload 4, 2) := by decide +kernel
theorem d_V_addPoint_7 : decode prog_1_method_31_code 7 = .ok (.invokevirtual 241, 3) := by decide +kernel
theorem d_V_addPoint_10 : decode prog_1_method_31_code 10 = .ok (.aload_n 0, 1) := by decide +kernel
theorem d_V_addPoint_11 : decode prog_1_method_31_code 11 = .ok (.iload_n 1, 1) := by decide +kernel
theorem d_V_addPoint_12 : decode prog_1_method_31_code 12 = .ok (.lload_n 2, 1) := by decide +kernel
theorem d_V_addPoint_13 : decode prog_1_method_31_code 13 = .ok (.lload 4, 2) := by decide +kernel
theorem d_V_addPoint_15 : decode prog_1_method_31_code 15 = .ok (.invokevirtual 176, 3) := by decide +kernel
theorem d_V_addPoint_18 : decode prog_1_method_31_code 18 = .ok (.return_, 1) := by decide +kernel
theorem w1132 : Cond.methodLink "SeriesVault" 241 ⟨"SeriesVault", "writeRecord", "(IIIJJ)V"⟩ ∈ aW := aw_of (tb_5 (List.mem_of_getElem? (i := 42) rfl)) rfl
theorem w1133 : Cond.code ⟨"SeriesVault", "writeRecord", "(IIIJJ)V"⟩ prog_1_method_20_code 8 none ∈ aW := aw_of (tb_5 (List.mem_of_getElem? (i := 45) rfl)) rfl
theorem w1134 : Cond.instanceMethod ⟨"SeriesVault", "writeRecord", "(IIIJJ)V"⟩ ∈ aW := aw_of (tb_5 (List.mem_of_getElem? (i := 44) rfl)) rfl
theorem w1135 : Cond.selects "SeriesVault" ⟨"SeriesVault", "writeRecord", "(IIIJJ)V"⟩ ⟨"SeriesVault", "writeRecord", "(IIIJJ)V"⟩ ∈ aW := aw_pr (List.mem_map.mpr ⟨_, pv_1 (List.mem_of_getElem? (i := 13) rfl), rfl⟩) rfl
theorem w1136 : Cond.methodLink "SeriesVault" 176 ⟨"SeriesVault", "comePoint", "(IJJ)V"⟩ ∈ aW := aw_of (tb_5 (List.mem_of_getElem? (i := 149) rfl)) rfl
theorem w1137 : Cond.code ⟨"SeriesVault", "comePoint", "(IJJ)V"⟩ prog_1_method_32_code 6 none ∈ aW := aw_of (tb_5 (List.mem_of_getElem? (i := 152) rfl)) rfl
theorem w1138 : Cond.instanceMethod ⟨"SeriesVault", "comePoint", "(IJJ)V"⟩ ∈ aW := aw_of (tb_5 (List.mem_of_getElem? (i := 151) rfl)) rfl
theorem w1139 : Cond.selects "SeriesVault" ⟨"SeriesVault", "comePoint", "(IJJ)V"⟩ ⟨"SeriesVault", "comePoint", "(IJJ)V"⟩ ∈ aW := aw_pr (List.mem_map.mpr ⟨_, pv_2 (List.mem_of_getElem? (i := 4) rfl), rfl⟩) rfl
set_option maxHeartbeats 4000000 in
set_option maxRecDepth 100000 in
theorem v_addPoint (l : Launch) (D : va_G) (dA : Nat → ClassId) (sz : Nat) (h : Nat) (ad : Nat → Nat) (x : VS) (w : Nat) (a : Int64) (b : Int64) (hs1 : x.jsize ≤ x.jN) (hs2 : 0 < x.jN) (hs3 : x.jN ≤ 65536) (hfu : x.jfill + 1 < 2 ^ 31) (hcr : x.jfill + 1 ≤ 126 ∨ x.jch = false ∨ ¬ x.cutLeft = 0) (hw : w < 256) (hp1 : x.hsize ≤ x.hN) (hp2 : 0 < x.hN) (hp3 : x.hN ≤ 32768) : Met l ⟨"SeriesVault", "addPoint", "(IJJ)V"⟩ [Cond.code ⟨"SeriesVault", "addPoint", "(IJJ)V"⟩ prog_1_method_31_code 6 none] { frames := 5, cells := 6 * (x.jcap - x.jN) + 3 * (x.cmcap a - x.hN), slots := 12 * (x.jcap - x.jN) + 6 * (x.cmcap a - x.hN), locals := 136 } (pC D dA [.ref h, .int (nI w), .long a, .long b] (VW dA h ad x) sz) (va_Qv (fun (u9 : VS) => ∃ ja pa : Nat → Nat, u9 = x.apF ja pa w a b) (fun (u9 : VS) t9 => bW D (va_A (VW dA h ad x) sz) (VW dA h ad u9) t9) (va_A (VW dA h ad x) sz)) (6 * (x.jcap - x.jN) + 3 * (x.cmcap a - x.hN)) (12 * (x.jcap - x.jN) + 6 * (x.cmcap a - x.hN)) (va_A (VW dA h ad x) sz) := by
  refine mkC (y := ⟨"SeriesVault", "addPoint", "(IJJ)V"⟩) (cc := prog_1_method_31_code) (maxL := 6) (av := [.ref h, .int (nI w), .long a, .long b]) (ws := VW dA h ad x) (sz := sz) (Qc := fun A => va_Qv (fun (u9 : VS) => ∃ ja pa : Nat → Nat, u9 = x.apF ja pa w a b) (fun (u9 : VS) t9 => bW D A (VW dA h ad u9) t9) A) (by decide) (Nat.le_of_ble_eq_true rfl) ?_
  intro A p e s m below meth c ls hsz hB
  obtain ⟨hx, hb, hr, hml, hown, hin, hlk, hE, hK, hP, hD, hS, hA, hN, hl⟩ := hB
  have hown : s.vm.findClass "SeriesVault" = some m.cls := hown
  have hl : lv_has ls 6 [(0, .ref h), (1, .int (nI w)), (2, .long a), (4, .long b)] := hl
  obtain ⟨H, hH⟩ : ∃ z, z = s.heap := ⟨_, rfl⟩
  have hP : va_P D vwCl (VW dA h ad x) H := by rw [hH]; exact hP
  have hS : va_S A s.heap H [] := by rw [hH]; exact hS
  rw [← hH]
  refine lv_aload_n hx hb d_V_addPoint_0 rfl (lv_at hl 0 rfl) ?_
  refine lv_iconst (v := 1) hx hb d_V_addPoint_1 (by decide) ?_
  refine lv_iload_n hx hb d_V_addPoint_2 rfl (lv_at hl 1 rfl) ?_
  refine lv_iconst (v := 1) hx hb d_V_addPoint_3 (by decide) ?_
  refine lv_lload_n hx hb d_V_addPoint_4 rfl (lv_at hl 2 rfl) ?_
  refine lv_lload hx hb d_V_addPoint_5 (lv_at hl 3 rfl) ?_
  refine jfV (rnV (As := [.int 1, .int (nI w), .int 1, .long a, .long b]) (rest := []) hx hb hml hown hE hK (hN _ _ hS) hP hD (v_writeRecord l D dA H.size h ad x 1 w 1 a b (show x.jsize ≤ x.jN from by omega) (show 0 < x.jN from by omega) (show x.jN ≤ 65536 from by omega) (show x.jfill + 1 < 2 ^ 31 from by omega) hcr) (q0 := 0) rfl rfl w1133 w1132 w1134 w1135 w277 rfl rfl ⟨⟨by decide, by decide⟩, rfl⟩ ⟨(Nat.le_of_ble_eq_true rfl), (Nat.le_of_ble_eq_true rfl)⟩ rfl hl.1 rfl (Nat.le_of_ble_eq_true rfl) d_V_addPoint_7 ⟨(show 0 + (6 * (x.jcap - x.jN)) ≤ 6 * (x.jcap - x.jN) + 3 * (x.cmcap a - x.hN) by omega), (show 0 + (12 * (x.jcap - x.jN)) ≤ 12 * (x.jcap - x.jN) + 6 * (x.cmcap a - x.hN) by omega)⟩) hP hD hS hA (fun u2 H locs hp9 hP hD hS => ?_)
  obtain ⟨y3, h9u⟩ : ∃ z9, z9 = u2 := ⟨_, rfl⟩
  subst h9u
  have hP : va_P D vwCl (VW dA h ad y3) H := hP
  have hD : va_D A (VW dA h ad y3) := hD
  have f_e_4 := hp9
  obtain ⟨ja, eja⟩ := f_e_4
  obtain ⟨z1, z2, z3, z4⟩ := wrF_h x ja 1 w 1 a b
  rw [← eja] at z1 z2 z3 z4
  have z5 : y3.cmcap a = x.cmcap a := congrFun z4 a
  refine lv_aload_n hx hb d_V_addPoint_10 rfl (lv_at hl 0 rfl) ?_
  refine lv_iload_n hx hb d_V_addPoint_11 rfl (lv_at hl 1 rfl) ?_
  refine lv_lload_n hx hb d_V_addPoint_12 rfl (lv_at hl 2 rfl) ?_
  refine lv_lload hx hb d_V_addPoint_13 (lv_at hl 3 rfl) ?_
  refine jfV (rnV (As := [.int (nI w), .long a, .long b]) (rest := []) hx hb hml hown hE hK (hN _ _ hS) hP hD (v_comePoint l D dA H.size h ad y3 w a b hw (by rw [z1, z2]; exact hp1) (by rw [z2]; exact hp2) (by rw [z2]; exact hp3)) (q0 := 0) rfl rfl w1137 w1136 w1138 w1139 w277 rfl rfl ⟨⟨by decide, by decide⟩, rfl⟩ ⟨(Nat.le_of_ble_eq_true rfl), (Nat.le_of_ble_eq_true rfl)⟩ rfl hl.1 rfl (Nat.le_of_ble_eq_true rfl) d_V_addPoint_15 ⟨(show 0 + (6 * (x.jcap - x.jN)) + (3 * (y3.cmcap a - y3.hN)) ≤ 6 * (x.jcap - x.jN) + 3 * (x.cmcap a - x.hN) by omega), (show 0 + (12 * (x.jcap - x.jN)) + (6 * (y3.cmcap a - y3.hN)) ≤ 12 * (x.jcap - x.jN) + 6 * (x.cmcap a - x.hN) by omega)⟩) hP hD hS hA (fun u6 H locs hp9 hP hD hS => ?_)
  obtain ⟨y7, h9u⟩ : ∃ z9, z9 = u6 := ⟨_, rfl⟩
  subst h9u
  have hP : va_P D vwCl (VW dA h ad y7) H := hP
  have hD : va_D A (VW dA h ad y7) := hD
  have f_e_8 := hp9
  exact rfV hx hb hr hlk hS y7 (by obtain ⟨pa, h9⟩ := f_e_8; exact ⟨ja, pa, by unfold VS.apF; rw [← eja]; exact h9⟩) hP hD (show 0 + (6 * (x.jcap - x.jN)) + (3 * (y3.cmcap a - y3.hN)) ≤ 6 * (x.jcap - x.jN) + 3 * (x.cmcap a - x.hN) by omega) (show 0 + (12 * (x.jcap - x.jN)) + (6 * (y3.cmcap a - y3.hN)) ≤ 12 * (x.jcap - x.jN) + 6 * (x.cmcap a - x.hN) by omega) d_V_addPoint_18
end
section
theorem d_V_feed_35 : decode prog_1_method_2_code 35 = .ok (.aload_n 0, 1) := by decide +kernel
theorem d_V_feed_36 : decode prog_1_method_2_code 36 = .ok (.aload_n 0, 1) := by decide +kernel
theorem d_V_feed_37 : decode prog_1_method_2_code 37 = .ok (.getfield 7, 3) := by decide +kernel
theorem d_V_feed_40 : decode prog_1_method_2_code 40 = .ok (.iconst 2, 1) := by decide +kernel
theorem d_V_feed_41 : decode prog_1_method_2_code 41 = .ok (.aload_n 0, 1) := by decide +kernel
theorem d_V_feed_42 : decode prog_1_method_2_code 42 = .ok (.getfield 7, 3) := by decide +kernel
theorem d_V_feed_45 : decode prog_1_method_2_code 45 = .ok (.arraylength, 1) := by decide +kernel
theorem d_V_feed_46 : decode prog_1_method_2_code 46 = .ok (.imul, 1) := by decide +kernel
theorem d_V_feed_47 : decode prog_1_method_2_code 47 = .ok (.invokestatic 79, 3) := by decide +kernel
theorem d_V_feed_50 : decode prog_1_method_2_code 50 = .ok (.putfield 7, 3) := by decide +kernel
theorem w1140 : Cond.code ⟨"java/util/Arrays", "copyOf", "([BI)[B"⟩ prog_38_method_121_code 3 (some (FieldType.array FieldType.byte)) ∈ aW := aw_of (tb_3 (List.mem_of_getElem? (i := 123) rfl)) rfl
theorem w1141 : Cond.methodLink "SeriesVault" 79 ⟨"java/util/Arrays", "copyOf", "([BI)[B"⟩ ∈ aW := aw_of (tb_3 (List.mem_of_getElem? (i := 121) rfl)) rfl
theorem w1142 : Cond.static ⟨"java/util/Arrays", "copyOf", "([BI)[B"⟩ ∈ aW := aw_of (tb_3 (List.mem_of_getElem? (i := 122) rfl)) rfl
set_option maxHeartbeats 4000000 in
set_option maxRecDepth 100000 in
theorem v_feed (l : Launch) (D : va_G) (dA : Nat → ClassId) (sz : Nat) (h : Nat) (ad : Nat → Nat) (x : VS) (a1 : Int32) (a2 : Int32) (a3 : Int32) (a4 : Int32) (a5 : Int32) (h1 : x.tapeLength + 20 ≤ 65536) (h2 : x.tapeLength ≤ x.tpN) (h3 : 256 ≤ x.tpN) (h4 : x.tpN ≤ 65536) (hby : byteF x.tape) : Met l ⟨"SeriesVault", "feed", "(IIIII)I"⟩ [Cond.code ⟨"SeriesVault", "feed", "(IIIII)I"⟩ prog_1_method_2_code 6 (some FieldType.int)] { frames := 2, cells := x.tcap - x.tpN, slots := 2 * (x.tcap - x.tpN), locals := 62 } (pC D dA [.ref h, .int a1, .int a2, .int a3, .int a4, .int a5] (VW dA h ad x) sz) (va_Qi (fun (r9 : Int32) (u9 : VS) => r9 = nI (x.tapeLength + 20) ∧ ∃ ta : Nat, u9 = x.fdF ta a1 a2 a3 a4 a5) (fun (u9 : VS) t9 => bW D (va_A (VW dA h ad x) sz) (VW dA h ad u9) t9) (va_A (VW dA h ad x) sz)) (x.tcap - x.tpN) (2 * (x.tcap - x.tpN)) (va_A (VW dA h ad x) sz) := by
  refine mkC (y := ⟨"SeriesVault", "feed", "(IIIII)I"⟩) (cc := prog_1_method_2_code) (maxL := 6) (av := [.ref h, .int a1, .int a2, .int a3, .int a4, .int a5]) (ws := VW dA h ad x) (sz := sz) (Qc := fun A => va_Qi (fun (r9 : Int32) (u9 : VS) => r9 = nI (x.tapeLength + 20) ∧ ∃ ta : Nat, u9 = x.fdF ta a1 a2 a3 a4 a5) (fun (u9 : VS) t9 => bW D A (VW dA h ad u9) t9) A) (by decide) (Nat.le_of_ble_eq_true rfl) ?_
  intro A p e s m below meth c ls hsz hB
  obtain ⟨hx, hb, hr, hml, hown, hin, hlk, hE, hK, hP, hD, hS, hA, hN, hl⟩ := hB
  have hown : s.vm.findClass "SeriesVault" = some m.cls := hown
  have hl : lv_has ls 6 [(0, .ref h), (1, .int a1), (2, .int a2), (3, .int a3), (4, .int a4), (5, .int a5)] := hl
  obtain ⟨H, hH⟩ : ∃ z, z = s.heap := ⟨_, rfl⟩
  have hP : va_P D vwCl (VW dA h ad x) H := by rw [hH]; exact hP
  have hS : va_S A s.heap H [] := by rw [hH]; exact hS
  rw [← hH]
  refine lv_aload_n hx hb d_V_feed_0 rfl (lv_at hl 0 rfl) ?_
  refine gF (v := .int (nI x.tapeLength)) hx hb hown hE hK hP 0 rfl rfl layV 1 (by decide) w259 rfl d_V_feed_1 ?_
  refine lv_bipush (v := 20) hx hb d_V_feed_4 (by decide) ?_
  refine lv_iadd hx hb d_V_feed_6 (tpi (y := nI (x.tapeLength + 20)) (nI_add (x.tapeLength) (20)) ?_)
  refine lv_ldc (v := 65536) hx hb hown (hE.t w540 rfl) d_V_feed_7 ?_
  refine lv_icmp_le hx hb d_V_feed_9 (tgt := 20) rfl (fun _ => ?_) (fun h9 => absurd ((nI_leI (a := x.tapeLength + 20) (b := 65536) (by omega) (by omega)).mpr h1) h9)
  refine lv_aload_n hx hb d_V_feed_20 rfl (lv_at hl 0 rfl) ?_
  refine gF (v := .int (nI x.tapeLength)) hx hb hown hE hK hP 0 rfl rfl layV 1 (by decide) w259 rfl d_V_feed_21 ?_
  refine lv_bipush (v := 20) hx hb d_V_feed_24 (by decide) ?_
  refine lv_iadd hx hb d_V_feed_26 (tpi (y := nI (x.tapeLength + 20)) (nI_add (x.tapeLength) (20)) ?_)
  refine lv_aload_n hx hb d_V_feed_27 rfl (lv_at hl 0 rfl) ?_
  refine gF (v := .ref x.tpA) hx hb hown hE hK hP 0 rfl rfl layV 0 (by decide) w539 rfl d_V_feed_28 ?_
  refine va_alen (v := nI x.tpN) hx hb hK hP (1) 0 rfl rfl rfl d_V_feed_31 ?_
  refine lv_icmp_le hx hb d_V_feed_32 (tgt := 53) rfl (fun g1 => ?_) (fun g1 => ?_)
  · have g1 := (nI_leI (a := x.tapeLength + 20) (b := x.tpN) (by omega) (by omega)).mp g1
    have tc : x.tcap = x.tpN := if_pos g1
    refine lv_aload_n hx hb d_V_feed_53 rfl (lv_at hl 0 rfl) ?_
    refine lv_iload_n hx hb d_V_feed_54 rfl (lv_at hl 1 rfl) ?_
    refine jfV (rnV (As := [.int a1]) (rest := []) hx hb hml hown hE hK (hN _ _ hS) hP hD (v_putOnTape l D dA H.size h ad x a1 (show x.tapeLength + 4 ≤ x.tpN from by omega) (show x.tpN ≤ 131072 from by omega)) (q0 := 0) rfl rfl w542 w541 w543 w544 w277 rfl rfl ⟨⟨by decide, by decide⟩, rfl⟩ ⟨(Nat.le_of_ble_eq_true rfl), (Nat.le_of_ble_eq_true rfl)⟩ rfl hl.1 rfl (Nat.le_of_ble_eq_true rfl) d_V_feed_55 ⟨(show 0 + 0 ≤ x.tcap - x.tpN by omega), (show 0 + 0 ≤ 2 * (x.tcap - x.tpN) by omega)⟩) hP hD hS hA (fun u3 H locs hp9 hP hD hS => ?_)
    have hP : va_P D vwCl (VW dA h ad (VS.s_tapeLength (VS.s_tape x (ptT a1 x.tape x.tapeLength)) (x.tapeLength + 1 + 1 + 1 + 1))) H := hP
    have hD : va_D A (VW dA h ad (VS.s_tapeLength (VS.s_tape x (ptT a1 x.tape x.tapeLength)) (x.tapeLength + 1 + 1 + 1 + 1))) := hD
    refine lv_aload_n hx hb d_V_feed_58 rfl (lv_at hl 0 rfl) ?_
    refine lv_iload_n hx hb d_V_feed_59 rfl (lv_at hl 2 rfl) ?_
    refine jfV (rnV (As := [.int a2]) (rest := []) hx hb hml hown hE hK (hN _ _ hS) hP hD (v_putOnTape l D dA H.size h ad (VS.s_tapeLength (VS.s_tape x (ptT a1 x.tape x.tapeLength)) (x.tapeLength + 1 + 1 + 1 + 1)) a2 (show (x.tapeLength + 1 + 1 + 1 + 1) + 4 ≤ x.tpN from by omega) (show x.tpN ≤ 131072 from by omega)) (q0 := 0) rfl rfl w542 w541 w543 w544 w277 rfl rfl ⟨⟨by decide, by decide⟩, rfl⟩ ⟨(Nat.le_of_ble_eq_true rfl), (Nat.le_of_ble_eq_true rfl)⟩ rfl hl.1 rfl (Nat.le_of_ble_eq_true rfl) d_V_feed_60 ⟨(show 0 + 0 + 0 ≤ x.tcap - x.tpN by omega), (show 0 + 0 + 0 ≤ 2 * (x.tcap - x.tpN) by omega)⟩) hP hD hS hA (fun u5 H locs hp9 hP hD hS => ?_)
    have hP : va_P D vwCl (VW dA h ad (VS.s_tapeLength (VS.s_tape x (ptT a2 (ptT a1 x.tape x.tapeLength) (x.tapeLength + 1 + 1 + 1 + 1))) ((x.tapeLength + 1 + 1 + 1 + 1) + 1 + 1 + 1 + 1))) H := hP
    have hD : va_D A (VW dA h ad (VS.s_tapeLength (VS.s_tape x (ptT a2 (ptT a1 x.tape x.tapeLength) (x.tapeLength + 1 + 1 + 1 + 1))) ((x.tapeLength + 1 + 1 + 1 + 1) + 1 + 1 + 1 + 1))) := hD
    refine lv_aload_n hx hb d_V_feed_63 rfl (lv_at hl 0 rfl) ?_
    refine lv_iload_n hx hb d_V_feed_64 rfl (lv_at hl 3 rfl) ?_
    refine jfV (rnV (As := [.int a3]) (rest := []) hx hb hml hown hE hK (hN _ _ hS) hP hD (v_putOnTape l D dA H.size h ad (VS.s_tapeLength (VS.s_tape x (ptT a2 (ptT a1 x.tape x.tapeLength) (x.tapeLength + 1 + 1 + 1 + 1))) ((x.tapeLength + 1 + 1 + 1 + 1) + 1 + 1 + 1 + 1)) a3 (show ((x.tapeLength + 1 + 1 + 1 + 1) + 1 + 1 + 1 + 1) + 4 ≤ x.tpN from by omega) (show x.tpN ≤ 131072 from by omega)) (q0 := 0) rfl rfl w542 w541 w543 w544 w277 rfl rfl ⟨⟨by decide, by decide⟩, rfl⟩ ⟨(Nat.le_of_ble_eq_true rfl), (Nat.le_of_ble_eq_true rfl)⟩ rfl hl.1 rfl (Nat.le_of_ble_eq_true rfl) d_V_feed_65 ⟨(show 0 + 0 + 0 + 0 ≤ x.tcap - x.tpN by omega), (show 0 + 0 + 0 + 0 ≤ 2 * (x.tcap - x.tpN) by omega)⟩) hP hD hS hA (fun u7 H locs hp9 hP hD hS => ?_)
    have hP : va_P D vwCl (VW dA h ad (VS.s_tapeLength (VS.s_tape x (ptT a3 (ptT a2 (ptT a1 x.tape x.tapeLength) (x.tapeLength + 1 + 1 + 1 + 1)) ((x.tapeLength + 1 + 1 + 1 + 1) + 1 + 1 + 1 + 1))) (((x.tapeLength + 1 + 1 + 1 + 1) + 1 + 1 + 1 + 1) + 1 + 1 + 1 + 1))) H := hP
    have hD : va_D A (VW dA h ad (VS.s_tapeLength (VS.s_tape x (ptT a3 (ptT a2 (ptT a1 x.tape x.tapeLength) (x.tapeLength + 1 + 1 + 1 + 1)) ((x.tapeLength + 1 + 1 + 1 + 1) + 1 + 1 + 1 + 1))) (((x.tapeLength + 1 + 1 + 1 + 1) + 1 + 1 + 1 + 1) + 1 + 1 + 1 + 1))) := hD
    refine lv_aload_n hx hb d_V_feed_68 rfl (lv_at hl 0 rfl) ?_
    refine lv_iload hx hb d_V_feed_69 (lv_at hl 4 rfl) ?_
    refine jfV (rnV (As := [.int a4]) (rest := []) hx hb hml hown hE hK (hN _ _ hS) hP hD (v_putOnTape l D dA H.size h ad (VS.s_tapeLength (VS.s_tape x (ptT a3 (ptT a2 (ptT a1 x.tape x.tapeLength) (x.tapeLength + 1 + 1 + 1 + 1)) ((x.tapeLength + 1 + 1 + 1 + 1) + 1 + 1 + 1 + 1))) (((x.tapeLength + 1 + 1 + 1 + 1) + 1 + 1 + 1 + 1) + 1 + 1 + 1 + 1)) a4 (show (((x.tapeLength + 1 + 1 + 1 + 1) + 1 + 1 + 1 + 1) + 1 + 1 + 1 + 1) + 4 ≤ x.tpN from by omega) (show x.tpN ≤ 131072 from by omega)) (q0 := 0) rfl rfl w542 w541 w543 w544 w277 rfl rfl ⟨⟨by decide, by decide⟩, rfl⟩ ⟨(Nat.le_of_ble_eq_true rfl), (Nat.le_of_ble_eq_true rfl)⟩ rfl hl.1 rfl (Nat.le_of_ble_eq_true rfl) d_V_feed_71 ⟨(show 0 + 0 + 0 + 0 + 0 ≤ x.tcap - x.tpN by omega), (show 0 + 0 + 0 + 0 + 0 ≤ 2 * (x.tcap - x.tpN) by omega)⟩) hP hD hS hA (fun u9 H locs hp9 hP hD hS => ?_)
    have hP : va_P D vwCl (VW dA h ad (VS.s_tapeLength (VS.s_tape x (ptT a4 (ptT a3 (ptT a2 (ptT a1 x.tape x.tapeLength) (x.tapeLength + 1 + 1 + 1 + 1)) ((x.tapeLength + 1 + 1 + 1 + 1) + 1 + 1 + 1 + 1)) (((x.tapeLength + 1 + 1 + 1 + 1) + 1 + 1 + 1 + 1) + 1 + 1 + 1 + 1))) ((((x.tapeLength + 1 + 1 + 1 + 1) + 1 + 1 + 1 + 1) + 1 + 1 + 1 + 1) + 1 + 1 + 1 + 1))) H := hP
    have hD : va_D A (VW dA h ad (VS.s_tapeLength (VS.s_tape x (ptT a4 (ptT a3 (ptT a2 (ptT a1 x.tape x.tapeLength) (x.tapeLength + 1 + 1 + 1 + 1)) ((x.tapeLength + 1 + 1 + 1 + 1) + 1 + 1 + 1 + 1)) (((x.tapeLength + 1 + 1 + 1 + 1) + 1 + 1 + 1 + 1) + 1 + 1 + 1 + 1))) ((((x.tapeLength + 1 + 1 + 1 + 1) + 1 + 1 + 1 + 1) + 1 + 1 + 1 + 1) + 1 + 1 + 1 + 1))) := hD
    refine lv_aload_n hx hb d_V_feed_74 rfl (lv_at hl 0 rfl) ?_
    refine lv_iload hx hb d_V_feed_75 (lv_at hl 5 rfl) ?_
    refine jfV (rnV (As := [.int a5]) (rest := []) hx hb hml hown hE hK (hN _ _ hS) hP hD (v_putOnTape l D dA H.size h ad (VS.s_tapeLength (VS.s_tape x (ptT a4 (ptT a3 (ptT a2 (ptT a1 x.tape x.tapeLength) (x.tapeLength + 1 + 1 + 1 + 1)) ((x.tapeLength + 1 + 1 + 1 + 1) + 1 + 1 + 1 + 1)) (((x.tapeLength + 1 + 1 + 1 + 1) + 1 + 1 + 1 + 1) + 1 + 1 + 1 + 1))) ((((x.tapeLength + 1 + 1 + 1 + 1) + 1 + 1 + 1 + 1) + 1 + 1 + 1 + 1) + 1 + 1 + 1 + 1)) a5 (show ((((x.tapeLength + 1 + 1 + 1 + 1) + 1 + 1 + 1 + 1) + 1 + 1 + 1 + 1) + 1 + 1 + 1 + 1) + 4 ≤ x.tpN from by omega) (show x.tpN ≤ 131072 from by omega)) (q0 := 0) rfl rfl w542 w541 w543 w544 w277 rfl rfl ⟨⟨by decide, by decide⟩, rfl⟩ ⟨(Nat.le_of_ble_eq_true rfl), (Nat.le_of_ble_eq_true rfl)⟩ rfl hl.1 rfl (Nat.le_of_ble_eq_true rfl) d_V_feed_77 ⟨(show 0 + 0 + 0 + 0 + 0 + 0 ≤ x.tcap - x.tpN by omega), (show 0 + 0 + 0 + 0 + 0 + 0 ≤ 2 * (x.tcap - x.tpN) by omega)⟩) hP hD hS hA (fun u11 H locs hp9 hP hD hS => ?_)
    have hP : va_P D vwCl (VW dA h ad (VS.s_tapeLength (VS.s_tape x (ptT a5 (ptT a4 (ptT a3 (ptT a2 (ptT a1 x.tape x.tapeLength) (x.tapeLength + 1 + 1 + 1 + 1)) ((x.tapeLength + 1 + 1 + 1 + 1) + 1 + 1 + 1 + 1)) (((x.tapeLength + 1 + 1 + 1 + 1) + 1 + 1 + 1 + 1) + 1 + 1 + 1 + 1)) ((((x.tapeLength + 1 + 1 + 1 + 1) + 1 + 1 + 1 + 1) + 1 + 1 + 1 + 1) + 1 + 1 + 1 + 1))) (((((x.tapeLength + 1 + 1 + 1 + 1) + 1 + 1 + 1 + 1) + 1 + 1 + 1 + 1) + 1 + 1 + 1 + 1) + 1 + 1 + 1 + 1))) H := hP
    have hD : va_D A (VW dA h ad (VS.s_tapeLength (VS.s_tape x (ptT a5 (ptT a4 (ptT a3 (ptT a2 (ptT a1 x.tape x.tapeLength) (x.tapeLength + 1 + 1 + 1 + 1)) ((x.tapeLength + 1 + 1 + 1 + 1) + 1 + 1 + 1 + 1)) (((x.tapeLength + 1 + 1 + 1 + 1) + 1 + 1 + 1 + 1) + 1 + 1 + 1 + 1)) ((((x.tapeLength + 1 + 1 + 1 + 1) + 1 + 1 + 1 + 1) + 1 + 1 + 1 + 1) + 1 + 1 + 1 + 1))) (((((x.tapeLength + 1 + 1 + 1 + 1) + 1 + 1 + 1 + 1) + 1 + 1 + 1 + 1) + 1 + 1 + 1 + 1) + 1 + 1 + 1 + 1))) := hD
    refine lv_aload_n hx hb d_V_feed_80 rfl (lv_at hl 0 rfl) ?_
    refine gF (v := .int (nI (((((x.tapeLength + 1 + 1 + 1 + 1) + 1 + 1 + 1 + 1) + 1 + 1 + 1 + 1) + 1 + 1 + 1 + 1) + 1 + 1 + 1 + 1))) hx hb hown hE hK hP 0 rfl rfl layV 1 (by decide) w259 rfl d_V_feed_81 ?_
    exact rfI hx hb hr hlk hS (VS.s_tapeLength (VS.s_tape x (ptT a5 (ptT a4 (ptT a3 (ptT a2 (ptT a1 x.tape x.tapeLength) (x.tapeLength + 1 + 1 + 1 + 1)) ((x.tapeLength + 1 + 1 + 1 + 1) + 1 + 1 + 1 + 1)) (((x.tapeLength + 1 + 1 + 1 + 1) + 1 + 1 + 1 + 1) + 1 + 1 + 1 + 1)) ((((x.tapeLength + 1 + 1 + 1 + 1) + 1 + 1 + 1 + 1) + 1 + 1 + 1 + 1) + 1 + 1 + 1 + 1))) (((((x.tapeLength + 1 + 1 + 1 + 1) + 1 + 1 + 1 + 1) + 1 + 1 + 1 + 1) + 1 + 1 + 1 + 1) + 1 + 1 + 1 + 1)) ⟨rfl, x.tpA, by unfold VS.fdF VS.tgF; rw [if_pos g1]; rfl⟩ hP hD (show 0 + 0 + 0 + 0 + 0 + 0 ≤ x.tcap - x.tpN by omega) (show 0 + 0 + 0 + 0 + 0 + 0 ≤ 2 * (x.tcap - x.tpN) by omega) d_V_feed_84
  · have g1 := mt (nI_leI (a := x.tapeLength + 20) (b := x.tpN) (by omega) (by omega)).mpr g1
    have tc : x.tcap = 2 * x.tpN := if_neg g1
    refine lv_aload_n hx hb d_V_feed_35 rfl (lv_at hl 0 rfl) ?_
    refine lv_aload_n hx hb d_V_feed_36 rfl (lv_at hl 0 rfl) ?_
    refine gF (v := .ref x.tpA) hx hb hown hE hK hP 0 rfl rfl layV 0 (by decide) w539 rfl d_V_feed_37 ?_
    refine lv_iconst (v := 2) hx hb d_V_feed_40 (by decide) ?_
    refine lv_aload_n hx hb d_V_feed_41 rfl (lv_at hl 0 rfl) ?_
    refine gF (v := .ref x.tpA) hx hb hown hE hK hP 0 rfl rfl layV 0 (by decide) w539 rfl d_V_feed_42 ?_
    refine va_alen (v := nI x.tpN) hx hb hK hP (1) 0 rfl rfl rfl d_V_feed_45 ?_
    refine lv_imul hx hb d_V_feed_46 (tpi (y := nI (2 * x.tpN)) (pk_mul (2) (x.tpN)) ?_)
    refine jfR (rnS (As := [.ref x.tpA, .int (nI (2 * x.tpN))]) (rest := [.ref h]) hx hb hml hown hE hK (hN _ _ hS) hP hD (v_copyOfB l D dA H.size (VW dA h ad x) (1) x.tpA x.tpN x.tape (2 * x.tpN) rfl (show x.tpN < 2 * x.tpN by omega) (show 2 * x.tpN ≤ 131072 by omega) hby) w1140 w1141 w1142 w712 rfl rfl ⟨⟨by decide, by decide⟩, rfl⟩ ⟨(Nat.le_of_ble_eq_true rfl), (Nat.le_of_ble_eq_true rfl)⟩ rfl hl.1 rfl (Nat.le_of_ble_eq_true rfl) d_V_feed_47 ⟨(show 0 + 1 ≤ x.tcap - x.tpN by omega), (show 0 + (2 * x.tpN) ≤ 2 * (x.tcap - x.tpN) by omega)⟩) hP hD hS hA (fun u9 q12 H locs hp9 hP hD hS => ?_)
    have hP : va_P D vwCl ([(q12, .inl (dA 0, 2 * x.tpN, .inl (va_cpy x.tape (fun _ => 0) 0 0 (min x.tpN (2 * x.tpN)))))] ++ VW dA h ad x) H := hP
    have hD : va_D A ([(q12, .inl (dA 0, 2 * x.tpN, .inl (va_cpy x.tape (fun _ => 0) 0 0 (min x.tpN (2 * x.tpN)))))] ++ VW dA h ad x) := hD
    refine pF (v := .ref q12) hx hb hown hE hK hP hD hS 1 rfl rfl layV tyV tokV nmV 0 (by decide) w539 rfl rfl rfl (Nat.le_of_ble_eq_true rfl) d_V_feed_50 (fun H locs hP hD hS => ?_)
    have hP : va_P D vwCl ([(q12, .inl (dA 0, 2 * x.tpN, .inl (va_cpy x.tape (fun _ => 0) 0 0 (min x.tpN (2 * x.tpN)))))] ++ VWf dA h ad x (VS.s_tpA x q12)) H := hP
    have hD : va_D A ([(q12, .inl (dA 0, 2 * x.tpN, .inl (va_cpy x.tape (fun _ => 0) 0 0 (min x.tpN (2 * x.tpN)))))] ++ VWf dA h ad x (VS.s_tpA x q12)) := hD
    have hP := swP 1 hP
    have hD := swD 1 hD
    have hP : va_P D vwCl (VW dA h ad (VS.s_tape (VS.s_tpN (VS.s_tpA x q12) (2 * x.tpN)) (va_cpy x.tape (fun _ => 0) 0 0 (min x.tpN (2 * x.tpN))))) H := hP
    have hD : va_D A (VW dA h ad (VS.s_tape (VS.s_tpN (VS.s_tpA x q12) (2 * x.tpN)) (va_cpy x.tape (fun _ => 0) 0 0 (min x.tpN (2 * x.tpN))))) := hD
    refine lv_aload_n hx hb d_V_feed_53 rfl (lv_at hl 0 rfl) ?_
    refine lv_iload_n hx hb d_V_feed_54 rfl (lv_at hl 1 rfl) ?_
    refine jfV (rnV (As := [.int a1]) (rest := []) hx hb hml hown hE hK (hN _ _ hS) hP hD (v_putOnTape l D dA H.size h ad (VS.s_tape (VS.s_tpN (VS.s_tpA x q12) (2 * x.tpN)) (va_cpy x.tape (fun _ => 0) 0 0 (min x.tpN (2 * x.tpN)))) a1 (show x.tapeLength + 4 ≤ (2 * x.tpN) from by omega) (show (2 * x.tpN) ≤ 131072 from by omega)) (q0 := 0) rfl rfl w542 w541 w543 w544 w277 rfl rfl ⟨⟨by decide, by decide⟩, rfl⟩ ⟨(Nat.le_of_ble_eq_true rfl), (Nat.le_of_ble_eq_true rfl)⟩ rfl hl.1 rfl (Nat.le_of_ble_eq_true rfl) d_V_feed_55 ⟨(show 0 + 1 + 0 ≤ x.tcap - x.tpN by omega), (show 0 + (2 * x.tpN) + 0 ≤ 2 * (x.tcap - x.tpN) by omega)⟩) hP hD hS hA (fun u14 H locs hp9 hP hD hS => ?_)
    have hP : va_P D vwCl (VW dA h ad (VS.s_tapeLength (VS.s_tape (VS.s_tpN (VS.s_tpA x q12) (2 * x.tpN)) (ptT a1 (va_cpy x.tape (fun _ => 0) 0 0 (min x.tpN (2 * x.tpN))) x.tapeLength)) (x.tapeLength + 1 + 1 + 1 + 1))) H := hP
    have hD : va_D A (VW dA h ad (VS.s_tapeLength (VS.s_tape (VS.s_tpN (VS.s_tpA x q12) (2 * x.tpN)) (ptT a1 (va_cpy x.tape (fun _ => 0) 0 0 (min x.tpN (2 * x.tpN))) x.tapeLength)) (x.tapeLength + 1 + 1 + 1 + 1))) := hD
    refine lv_aload_n hx hb d_V_feed_58 rfl (lv_at hl 0 rfl) ?_
    refine lv_iload_n hx hb d_V_feed_59 rfl (lv_at hl 2 rfl) ?_
    refine jfV (rnV (As := [.int a2]) (rest := []) hx hb hml hown hE hK (hN _ _ hS) hP hD (v_putOnTape l D dA H.size h ad (VS.s_tapeLength (VS.s_tape (VS.s_tpN (VS.s_tpA x q12) (2 * x.tpN)) (ptT a1 (va_cpy x.tape (fun _ => 0) 0 0 (min x.tpN (2 * x.tpN))) x.tapeLength)) (x.tapeLength + 1 + 1 + 1 + 1)) a2 (show (x.tapeLength + 1 + 1 + 1 + 1) + 4 ≤ (2 * x.tpN) from by omega) (show (2 * x.tpN) ≤ 131072 from by omega)) (q0 := 0) rfl rfl w542 w541 w543 w544 w277 rfl rfl ⟨⟨by decide, by decide⟩, rfl⟩ ⟨(Nat.le_of_ble_eq_true rfl), (Nat.le_of_ble_eq_true rfl)⟩ rfl hl.1 rfl (Nat.le_of_ble_eq_true rfl) d_V_feed_60 ⟨(show 0 + 1 + 0 + 0 ≤ x.tcap - x.tpN by omega), (show 0 + (2 * x.tpN) + 0 + 0 ≤ 2 * (x.tcap - x.tpN) by omega)⟩) hP hD hS hA (fun u16 H locs hp9 hP hD hS => ?_)
    have hP : va_P D vwCl (VW dA h ad (VS.s_tapeLength (VS.s_tape (VS.s_tpN (VS.s_tpA x q12) (2 * x.tpN)) (ptT a2 (ptT a1 (va_cpy x.tape (fun _ => 0) 0 0 (min x.tpN (2 * x.tpN))) x.tapeLength) (x.tapeLength + 1 + 1 + 1 + 1))) ((x.tapeLength + 1 + 1 + 1 + 1) + 1 + 1 + 1 + 1))) H := hP
    have hD : va_D A (VW dA h ad (VS.s_tapeLength (VS.s_tape (VS.s_tpN (VS.s_tpA x q12) (2 * x.tpN)) (ptT a2 (ptT a1 (va_cpy x.tape (fun _ => 0) 0 0 (min x.tpN (2 * x.tpN))) x.tapeLength) (x.tapeLength + 1 + 1 + 1 + 1))) ((x.tapeLength + 1 + 1 + 1 + 1) + 1 + 1 + 1 + 1))) := hD
    refine lv_aload_n hx hb d_V_feed_63 rfl (lv_at hl 0 rfl) ?_
    refine lv_iload_n hx hb d_V_feed_64 rfl (lv_at hl 3 rfl) ?_
    refine jfV (rnV (As := [.int a3]) (rest := []) hx hb hml hown hE hK (hN _ _ hS) hP hD (v_putOnTape l D dA H.size h ad (VS.s_tapeLength (VS.s_tape (VS.s_tpN (VS.s_tpA x q12) (2 * x.tpN)) (ptT a2 (ptT a1 (va_cpy x.tape (fun _ => 0) 0 0 (min x.tpN (2 * x.tpN))) x.tapeLength) (x.tapeLength + 1 + 1 + 1 + 1))) ((x.tapeLength + 1 + 1 + 1 + 1) + 1 + 1 + 1 + 1)) a3 (show ((x.tapeLength + 1 + 1 + 1 + 1) + 1 + 1 + 1 + 1) + 4 ≤ (2 * x.tpN) from by omega) (show (2 * x.tpN) ≤ 131072 from by omega)) (q0 := 0) rfl rfl w542 w541 w543 w544 w277 rfl rfl ⟨⟨by decide, by decide⟩, rfl⟩ ⟨(Nat.le_of_ble_eq_true rfl), (Nat.le_of_ble_eq_true rfl)⟩ rfl hl.1 rfl (Nat.le_of_ble_eq_true rfl) d_V_feed_65 ⟨(show 0 + 1 + 0 + 0 + 0 ≤ x.tcap - x.tpN by omega), (show 0 + (2 * x.tpN) + 0 + 0 + 0 ≤ 2 * (x.tcap - x.tpN) by omega)⟩) hP hD hS hA (fun u18 H locs hp9 hP hD hS => ?_)
    have hP : va_P D vwCl (VW dA h ad (VS.s_tapeLength (VS.s_tape (VS.s_tpN (VS.s_tpA x q12) (2 * x.tpN)) (ptT a3 (ptT a2 (ptT a1 (va_cpy x.tape (fun _ => 0) 0 0 (min x.tpN (2 * x.tpN))) x.tapeLength) (x.tapeLength + 1 + 1 + 1 + 1)) ((x.tapeLength + 1 + 1 + 1 + 1) + 1 + 1 + 1 + 1))) (((x.tapeLength + 1 + 1 + 1 + 1) + 1 + 1 + 1 + 1) + 1 + 1 + 1 + 1))) H := hP
    have hD : va_D A (VW dA h ad (VS.s_tapeLength (VS.s_tape (VS.s_tpN (VS.s_tpA x q12) (2 * x.tpN)) (ptT a3 (ptT a2 (ptT a1 (va_cpy x.tape (fun _ => 0) 0 0 (min x.tpN (2 * x.tpN))) x.tapeLength) (x.tapeLength + 1 + 1 + 1 + 1)) ((x.tapeLength + 1 + 1 + 1 + 1) + 1 + 1 + 1 + 1))) (((x.tapeLength + 1 + 1 + 1 + 1) + 1 + 1 + 1 + 1) + 1 + 1 + 1 + 1))) := hD
    refine lv_aload_n hx hb d_V_feed_68 rfl (lv_at hl 0 rfl) ?_
    refine lv_iload hx hb d_V_feed_69 (lv_at hl 4 rfl) ?_
    refine jfV (rnV (As := [.int a4]) (rest := []) hx hb hml hown hE hK (hN _ _ hS) hP hD (v_putOnTape l D dA H.size h ad (VS.s_tapeLength (VS.s_tape (VS.s_tpN (VS.s_tpA x q12) (2 * x.tpN)) (ptT a3 (ptT a2 (ptT a1 (va_cpy x.tape (fun _ => 0) 0 0 (min x.tpN (2 * x.tpN))) x.tapeLength) (x.tapeLength + 1 + 1 + 1 + 1)) ((x.tapeLength + 1 + 1 + 1 + 1) + 1 + 1 + 1 + 1))) (((x.tapeLength + 1 + 1 + 1 + 1) + 1 + 1 + 1 + 1) + 1 + 1 + 1 + 1)) a4 (show (((x.tapeLength + 1 + 1 + 1 + 1) + 1 + 1 + 1 + 1) + 1 + 1 + 1 + 1) + 4 ≤ (2 * x.tpN) from by omega) (show (2 * x.tpN) ≤ 131072 from by omega)) (q0 := 0) rfl rfl w542 w541 w543 w544 w277 rfl rfl ⟨⟨by decide, by decide⟩, rfl⟩ ⟨(Nat.le_of_ble_eq_true rfl), (Nat.le_of_ble_eq_true rfl)⟩ rfl hl.1 rfl (Nat.le_of_ble_eq_true rfl) d_V_feed_71 ⟨(show 0 + 1 + 0 + 0 + 0 + 0 ≤ x.tcap - x.tpN by omega), (show 0 + (2 * x.tpN) + 0 + 0 + 0 + 0 ≤ 2 * (x.tcap - x.tpN) by omega)⟩) hP hD hS hA (fun u20 H locs hp9 hP hD hS => ?_)
    have hP : va_P D vwCl (VW dA h ad (VS.s_tapeLength (VS.s_tape (VS.s_tpN (VS.s_tpA x q12) (2 * x.tpN)) (ptT a4 (ptT a3 (ptT a2 (ptT a1 (va_cpy x.tape (fun _ => 0) 0 0 (min x.tpN (2 * x.tpN))) x.tapeLength) (x.tapeLength + 1 + 1 + 1 + 1)) ((x.tapeLength + 1 + 1 + 1 + 1) + 1 + 1 + 1 + 1)) (((x.tapeLength + 1 + 1 + 1 + 1) + 1 + 1 + 1 + 1) + 1 + 1 + 1 + 1))) ((((x.tapeLength + 1 + 1 + 1 + 1) + 1 + 1 + 1 + 1) + 1 + 1 + 1 + 1) + 1 + 1 + 1 + 1))) H := hP
    have hD : va_D A (VW dA h ad (VS.s_tapeLength (VS.s_tape (VS.s_tpN (VS.s_tpA x q12) (2 * x.tpN)) (ptT a4 (ptT a3 (ptT a2 (ptT a1 (va_cpy x.tape (fun _ => 0) 0 0 (min x.tpN (2 * x.tpN))) x.tapeLength) (x.tapeLength + 1 + 1 + 1 + 1)) ((x.tapeLength + 1 + 1 + 1 + 1) + 1 + 1 + 1 + 1)) (((x.tapeLength + 1 + 1 + 1 + 1) + 1 + 1 + 1 + 1) + 1 + 1 + 1 + 1))) ((((x.tapeLength + 1 + 1 + 1 + 1) + 1 + 1 + 1 + 1) + 1 + 1 + 1 + 1) + 1 + 1 + 1 + 1))) := hD
    refine lv_aload_n hx hb d_V_feed_74 rfl (lv_at hl 0 rfl) ?_
    refine lv_iload hx hb d_V_feed_75 (lv_at hl 5 rfl) ?_
    refine jfV (rnV (As := [.int a5]) (rest := []) hx hb hml hown hE hK (hN _ _ hS) hP hD (v_putOnTape l D dA H.size h ad (VS.s_tapeLength (VS.s_tape (VS.s_tpN (VS.s_tpA x q12) (2 * x.tpN)) (ptT a4 (ptT a3 (ptT a2 (ptT a1 (va_cpy x.tape (fun _ => 0) 0 0 (min x.tpN (2 * x.tpN))) x.tapeLength) (x.tapeLength + 1 + 1 + 1 + 1)) ((x.tapeLength + 1 + 1 + 1 + 1) + 1 + 1 + 1 + 1)) (((x.tapeLength + 1 + 1 + 1 + 1) + 1 + 1 + 1 + 1) + 1 + 1 + 1 + 1))) ((((x.tapeLength + 1 + 1 + 1 + 1) + 1 + 1 + 1 + 1) + 1 + 1 + 1 + 1) + 1 + 1 + 1 + 1)) a5 (show ((((x.tapeLength + 1 + 1 + 1 + 1) + 1 + 1 + 1 + 1) + 1 + 1 + 1 + 1) + 1 + 1 + 1 + 1) + 4 ≤ (2 * x.tpN) from by omega) (show (2 * x.tpN) ≤ 131072 from by omega)) (q0 := 0) rfl rfl w542 w541 w543 w544 w277 rfl rfl ⟨⟨by decide, by decide⟩, rfl⟩ ⟨(Nat.le_of_ble_eq_true rfl), (Nat.le_of_ble_eq_true rfl)⟩ rfl hl.1 rfl (Nat.le_of_ble_eq_true rfl) d_V_feed_77 ⟨(show 0 + 1 + 0 + 0 + 0 + 0 + 0 ≤ x.tcap - x.tpN by omega), (show 0 + (2 * x.tpN) + 0 + 0 + 0 + 0 + 0 ≤ 2 * (x.tcap - x.tpN) by omega)⟩) hP hD hS hA (fun u22 H locs hp9 hP hD hS => ?_)
    have hP : va_P D vwCl (VW dA h ad (VS.s_tapeLength (VS.s_tape (VS.s_tpN (VS.s_tpA x q12) (2 * x.tpN)) (ptT a5 (ptT a4 (ptT a3 (ptT a2 (ptT a1 (va_cpy x.tape (fun _ => 0) 0 0 (min x.tpN (2 * x.tpN))) x.tapeLength) (x.tapeLength + 1 + 1 + 1 + 1)) ((x.tapeLength + 1 + 1 + 1 + 1) + 1 + 1 + 1 + 1)) (((x.tapeLength + 1 + 1 + 1 + 1) + 1 + 1 + 1 + 1) + 1 + 1 + 1 + 1)) ((((x.tapeLength + 1 + 1 + 1 + 1) + 1 + 1 + 1 + 1) + 1 + 1 + 1 + 1) + 1 + 1 + 1 + 1))) (((((x.tapeLength + 1 + 1 + 1 + 1) + 1 + 1 + 1 + 1) + 1 + 1 + 1 + 1) + 1 + 1 + 1 + 1) + 1 + 1 + 1 + 1))) H := hP
    have hD : va_D A (VW dA h ad (VS.s_tapeLength (VS.s_tape (VS.s_tpN (VS.s_tpA x q12) (2 * x.tpN)) (ptT a5 (ptT a4 (ptT a3 (ptT a2 (ptT a1 (va_cpy x.tape (fun _ => 0) 0 0 (min x.tpN (2 * x.tpN))) x.tapeLength) (x.tapeLength + 1 + 1 + 1 + 1)) ((x.tapeLength + 1 + 1 + 1 + 1) + 1 + 1 + 1 + 1)) (((x.tapeLength + 1 + 1 + 1 + 1) + 1 + 1 + 1 + 1) + 1 + 1 + 1 + 1)) ((((x.tapeLength + 1 + 1 + 1 + 1) + 1 + 1 + 1 + 1) + 1 + 1 + 1 + 1) + 1 + 1 + 1 + 1))) (((((x.tapeLength + 1 + 1 + 1 + 1) + 1 + 1 + 1 + 1) + 1 + 1 + 1 + 1) + 1 + 1 + 1 + 1) + 1 + 1 + 1 + 1))) := hD
    refine lv_aload_n hx hb d_V_feed_80 rfl (lv_at hl 0 rfl) ?_
    refine gF (v := .int (nI (((((x.tapeLength + 1 + 1 + 1 + 1) + 1 + 1 + 1 + 1) + 1 + 1 + 1 + 1) + 1 + 1 + 1 + 1) + 1 + 1 + 1 + 1))) hx hb hown hE hK hP 0 rfl rfl layV 1 (by decide) w259 rfl d_V_feed_81 ?_
    exact rfI hx hb hr hlk hS (VS.s_tapeLength (VS.s_tape (VS.s_tpN (VS.s_tpA x q12) (2 * x.tpN)) (ptT a5 (ptT a4 (ptT a3 (ptT a2 (ptT a1 (va_cpy x.tape (fun _ => 0) 0 0 (min x.tpN (2 * x.tpN))) x.tapeLength) (x.tapeLength + 1 + 1 + 1 + 1)) ((x.tapeLength + 1 + 1 + 1 + 1) + 1 + 1 + 1 + 1)) (((x.tapeLength + 1 + 1 + 1 + 1) + 1 + 1 + 1 + 1) + 1 + 1 + 1 + 1)) ((((x.tapeLength + 1 + 1 + 1 + 1) + 1 + 1 + 1 + 1) + 1 + 1 + 1 + 1) + 1 + 1 + 1 + 1))) (((((x.tapeLength + 1 + 1 + 1 + 1) + 1 + 1 + 1 + 1) + 1 + 1 + 1 + 1) + 1 + 1 + 1 + 1) + 1 + 1 + 1 + 1)) ⟨rfl, q12, by unfold VS.fdF VS.tgF; rw [if_neg g1]; rfl⟩ hP hD (show 0 + 1 + 0 + 0 + 0 + 0 + 0 ≤ x.tcap - x.tpN by omega) (show 0 + (2 * x.tpN) + 0 + 0 + 0 + 0 + 0 ≤ 2 * (x.tcap - x.tpN) by omega) d_V_feed_84
theorem d_V_feed_12 : decode prog_1_method_2_code 12 = .ok (.new 76, 3) := by decide +kernel
theorem d_V_feed_15 : decode prog_1_method_2_code 15 = .ok (.dup, 1) := by decide +kernel
theorem d_V_feed_16 : decode prog_1_method_2_code 16 = .ok (.invokespecial 78, 3) := by decide +kernel
theorem d_V_feed_19 : decode prog_1_method_2_code 19 = .ok (.athrow, 1) := by decide +kernel
theorem w1143 : Cond.lays "java/lang/UnsupportedOperationException" "java/lang/Throwable" "backtrace" "Ljava/lang/Object;" ∈ aW := aw_of (tb_3 (List.mem_of_getElem? (i := 74) rfl)) rfl
theorem w1144 : Cond.lays "java/lang/UnsupportedOperationException" "java/lang/Throwable" "detailMessage" "Ljava/lang/String;" ∈ aW := aw_of (tb_3 (List.mem_of_getElem? (i := 72) rfl)) rfl
theorem w1145 : Cond.lays "java/lang/UnsupportedOperationException" "java/lang/Throwable" "suppressedExceptions" "Ljava/util/List;" ∈ aW := aw_of (tb_3 (List.mem_of_getElem? (i := 70) rfl)) rfl
theorem w1146 : Cond.lays "java/lang/UnsupportedOperationException" "java/lang/Throwable" "stackTrace" "[Ljava/lang/StackTraceElement;" ∈ aW := aw_of (tb_3 (List.mem_of_getElem? (i := 68) rfl)) rfl
theorem w1147 : Cond.lays "java/lang/UnsupportedOperationException" "java/lang/Throwable" "cause" "Ljava/lang/Throwable;" ∈ aW := aw_of (tb_3 (List.mem_of_getElem? (i := 66) rfl)) rfl
theorem w1148 : Cond.selects "java/lang/UnsupportedOperationException" ⟨"java/lang/Throwable", "fillInStackTrace", "()Ljava/lang/Throwable;"⟩ ⟨"java/lang/Throwable", "fillInStackTrace", "()Ljava/lang/Throwable;"⟩ ∈ aW := aw_of (tb_3 (List.mem_of_getElem? (i := 65) rfl)) rfl
theorem w1149 : Cond.selects "java/lang/UnsupportedOperationException" ⟨"java/lang/Throwable", "fillInStackTrace", "(I)Ljava/lang/Throwable;"⟩ ⟨"java/lang/Throwable", "fillInStackTrace", "(I)Ljava/lang/Throwable;"⟩ ∈ aW := aw_of (tb_3 (List.mem_of_getElem? (i := 64) rfl)) rfl
theorem w1150 : Cond.castable "java/lang/UnsupportedOperationException" "java/lang/UnsupportedOperationException" ∈ aW := aw_of (tb_3 (List.mem_of_getElem? (i := 57) rfl)) rfl
theorem w1151 : Cond.instantiable "java/lang/UnsupportedOperationException" 6 ∈ aW := aw_of (tb_3 (List.mem_of_getElem? (i := 56) rfl)) rfl
theorem w1152 : Cond.methodLink "SeriesVault" 78 ⟨"java/lang/UnsupportedOperationException", "<init>", "()V"⟩ ∈ aW := aw_of (tb_3 (List.mem_of_getElem? (i := 98) rfl)) rfl
theorem w1153 : Cond.methodLink "java/lang/UnsupportedOperationException" 1 ⟨"java/lang/RuntimeException", "<init>", "()V"⟩ ∈ aW := aw_of (tb_3 (List.mem_of_getElem? (i := 101) rfl)) rfl
theorem w1154 : Cond.code ⟨"java/lang/UnsupportedOperationException", "<init>", "()V"⟩ prog_34_method_1_code 1 none ∈ aW := aw_of (tb_3 (List.mem_of_getElem? (i := 100) rfl)) rfl
theorem w1155 : Cond.instanceMethod ⟨"java/lang/UnsupportedOperationException", "<init>", "()V"⟩ ∈ aW := aw_of (tb_3 (List.mem_of_getElem? (i := 99) rfl)) rfl
theorem w1156 : Cond.classLink "SeriesVault" 76 "java/lang/UnsupportedOperationException" ∈ aW := aw_of (tb_3 (List.mem_of_getElem? (i := 55) rfl)) rfl
theorem w1157 : Cond.initialized "java/lang/UnsupportedOperationException" ∈ aW := aw_of (tb_1 (List.mem_of_getElem? (i := 20) rfl)) rfl
theorem at_V_UOE {s : State} {args : Array Value} (hE : eV s) : ∀ w ∈ Bundle.ownAtoms0 "SeriesVault" 78 "java/lang/UnsupportedOperationException" ["java/lang/RuntimeException", "java/lang/Exception"], w.before args s = true := List.forall_mem_cons.mpr ⟨hE.t w256 rfl, List.forall_mem_cons.mpr ⟨hE.t w255 rfl, List.forall_mem_cons.mpr ⟨hE.t w254 rfl, List.forall_mem_cons.mpr ⟨hE.t w253 rfl, List.forall_mem_cons.mpr ⟨hE.t w252 rfl, List.forall_mem_cons.mpr ⟨hE.t w251 rfl, List.forall_mem_cons.mpr ⟨hE.t w226 rfl, List.forall_mem_cons.mpr ⟨hE.t w250 rfl, List.forall_mem_cons.mpr ⟨hE.t w182 rfl, List.forall_mem_cons.mpr ⟨hE.t w183 rfl, List.forall_mem_cons.mpr ⟨hE.t w249 rfl, List.forall_mem_cons.mpr ⟨hE.t w248 rfl, List.forall_mem_cons.mpr ⟨hE.t w247 rfl, List.forall_mem_cons.mpr ⟨hE.t w246 rfl, List.forall_mem_cons.mpr ⟨hE.t w245 rfl, List.forall_mem_cons.mpr ⟨hE.t w244 rfl, List.forall_mem_cons.mpr ⟨hE.t w243 rfl, List.forall_mem_cons.mpr ⟨hE.t w242 rfl, List.forall_mem_cons.mpr ⟨hE.t w241 rfl, List.forall_mem_cons.mpr ⟨hE.t w240 rfl, List.forall_mem_cons.mpr ⟨ho_1 hE.2.1, List.forall_mem_cons.mpr ⟨hE.t w239 rfl, List.forall_mem_cons.mpr ⟨ho_1 hE.2.2.1, List.forall_mem_cons.mpr ⟨hE.t w238 rfl, List.forall_mem_cons.mpr ⟨hE.t w1155 rfl, List.forall_mem_cons.mpr ⟨hE.t w1154 rfl, List.forall_mem_cons.mpr ⟨hE.t w1153 rfl, List.forall_mem_cons.mpr ⟨hE.t w233 rfl, List.forall_mem_cons.mpr ⟨hE.t w234 rfl, List.forall_mem_cons.mpr ⟨hE.t w233 rfl, List.forall_mem_cons.mpr ⟨hE.t w232 rfl, List.forall_mem_cons.mpr ⟨hE.t w231 rfl, List.forall_mem_cons.mpr ⟨hE.t w229 rfl, List.forall_mem_cons.mpr ⟨hE.t w230 rfl, List.forall_mem_cons.mpr ⟨hE.t w229 rfl, List.forall_mem_cons.mpr ⟨hE.t w228 rfl, List.forall_mem_cons.mpr ⟨hE.t w227 rfl, List.forall_mem_cons.mpr ⟨hE.t w226 rfl, List.forall_mem_cons.mpr ⟨hE.t w225 rfl, List.forall_mem_cons.mpr ⟨hE.t w1152 rfl, List.forall_mem_cons.mpr ⟨hE.t w1151 rfl, List.forall_mem_cons.mpr ⟨hE.t w1150 rfl, List.forall_mem_cons.mpr ⟨hE.t w1149 rfl, List.forall_mem_cons.mpr ⟨hE.t w1148 rfl, List.forall_mem_cons.mpr ⟨hE.t w1147 rfl, List.forall_mem_cons.mpr ⟨hE.t w1146 rfl, List.forall_mem_cons.mpr ⟨hE.t w1145 rfl, List.forall_mem_cons.mpr ⟨hE.t w1144 rfl, List.forall_mem_cons.mpr ⟨ho_2 hE.2.2.2.1, List.forall_mem_cons.mpr ⟨ho_2 hE.2.2.2.2.1, List.forall_mem_cons.mpr ⟨hE.t w215 rfl, List.forall_mem_cons.mpr ⟨hE.t w214 rfl, List.forall_mem_cons.mpr ⟨hE.t w1143 rfl, fun _ h => absurd h List.not_mem_nil⟩⟩⟩⟩⟩⟩⟩⟩⟩⟩⟩⟩⟩⟩⟩⟩⟩⟩⟩⟩⟩⟩⟩⟩⟩⟩⟩⟩⟩⟩⟩⟩⟩⟩⟩⟩⟩⟩⟩⟩⟩⟩⟩⟩⟩⟩⟩⟩⟩⟩⟩⟩⟩
set_option maxHeartbeats 4000000 in
set_option maxRecDepth 100000 in
theorem v_feed_x (l : Launch) (htr : l.stackTraces = false) (D : va_G) (dA : Nat → ClassId) (sz : Nat) (h : Nat) (ad : Nat → Nat) (x : VS) (a1 : Int32) (a2 : Int32) (a3 : Int32) (a4 : Int32) (a5 : Int32) (h1 : 65536 < x.tapeLength + 20) (h2 : x.tapeLength ≤ 65536) : mX l ⟨"SeriesVault", "feed", "(IIIII)I"⟩ [Cond.code ⟨"SeriesVault", "feed", "(IIIII)I"⟩ prog_1_method_2_code 6 (some FieldType.int)] { frames := 6, cells := 1, slots := 6, locals := 81 } (pC D dA [.ref h, .int a1, .int a2, .int a3, .int a4, .int a5] (VW dA h ad x) sz) "java/lang/UnsupportedOperationException" (fun st9 t9 => va_F (va_A (VW dA h ad x) sz) st9 t9 ∧ bW D (va_A (VW dA h ad x) sz) (VW dA h ad x) t9) 1 6 (va_A (VW dA h ad x) sz) := by
  refine mkX (y := ⟨"SeriesVault", "feed", "(IIIII)I"⟩) (cc := prog_1_method_2_code) (maxL := 6) (av := [.ref h, .int a1, .int a2, .int a3, .int a4, .int a5]) (ws := VW dA h ad x) (sz := sz) (B := fun A => (fun st9 t9 => va_F A st9 t9 ∧ bW D A (VW dA h ad x) t9)) (by decide) (Nat.le_of_ble_eq_true rfl) ?_
  intro A p e s m below meth c ls hsz hno hB
  obtain ⟨hx, hb, hr, hml, hown, hin, hlk, hE, hK, hP, hD, hS, hA, hN, hl⟩ := hB
  have hown : s.vm.findClass "SeriesVault" = some m.cls := hown
  have hl : lv_has ls 6 [(0, .ref h), (1, .int a1), (2, .int a2), (3, .int a3), (4, .int a4), (5, .int a5)] := hl
  obtain ⟨H, hH⟩ : ∃ z, z = s.heap := ⟨_, rfl⟩
  have hP : va_P D vwCl (VW dA h ad x) H := by rw [hH]; exact hP
  have hS : va_S A s.heap H [] := by rw [hH]; exact hS
  rw [← hH]
  refine lv_aload_n hx hb d_V_feed_0 rfl (lv_at hl 0 rfl) ?_
  refine gF (v := .int (nI x.tapeLength)) hx hb hown hE hK hP 0 rfl rfl layV 1 (by decide) w259 rfl d_V_feed_1 ?_
  refine lv_bipush (v := 20) hx hb d_V_feed_4 (by decide) ?_
  refine lv_iadd hx hb d_V_feed_6 (tpi (y := nI (x.tapeLength + 20)) (nI_add (x.tapeLength) (20)) ?_)
  refine lv_ldc (v := 65536) hx hb hown (hE.t w540 rfl) d_V_feed_7 ?_
  refine lv_icmp_le hx hb d_V_feed_9 (tgt := 20) rfl (fun h9 => absurd h9 (mt (nI_leI (a := x.tapeLength + 20) (b := 65536) (by omega) (by omega)).mp (Nat.not_le.mpr h1))) (fun _ => ?_)
  exact xNew (E := "java/lang/UnsupportedOperationException") (names := ["java/lang/RuntimeException", "java/lang/Exception"]) hx hb htr hown (by decide) (by decide) hE w1156 w1157 (fun U hU => at_V_UOE hU) (hN _ _ hS) (hl.1.trans hml.symm) d_V_feed_12 d_V_feed_15 d_V_feed_16 d_V_feed_19 hno (by decide) (Nat.le_of_ble_eq_true rfl) (Nat.le_of_ble_eq_true rfl) (Nat.le_of_ble_eq_true rfl) hlk (fun t h1 h2 => xEndV hP hD hS t h1 h2) hS.2.2 (Nat.le_of_ble_eq_true rfl) (Nat.le_of_ble_eq_true rfl)
set_option maxHeartbeats 4000000 in
set_option maxRecDepth 100000 in
theorem v_append_1 (l : Launch) (htr : l.stackTraces = false) (D : va_G) (dA : Nat → ClassId) (sz : Nat) (h : Nat) (ad : Nat → Nat) (x : VS) (n : Int32) (a : Int64) (b : Int64) (ho : x.powered = false) : mX l ⟨"SeriesVault", "append", "(IJJ)I"⟩ [Cond.code ⟨"SeriesVault", "append", "(IJJ)I"⟩ prog_1_method_28_code 6 (some FieldType.int)] { frames := 7, cells := 1, slots := 6, locals := 101 } (pC D dA [.ref h, .int n, .long a, .long b] (VW dA h ad x) sz) "java/lang/IllegalStateException" (fun st9 t9 => va_F (va_A (VW dA h ad x) sz) st9 t9 ∧ bW D (va_A (VW dA h ad x) sz) (VW dA h ad x) t9) 1 6 (va_A (VW dA h ad x) sz) := by
  refine mkX (y := ⟨"SeriesVault", "append", "(IJJ)I"⟩) (cc := prog_1_method_28_code) (maxL := 6) (av := [.ref h, .int n, .long a, .long b]) (ws := VW dA h ad x) (sz := sz) (B := fun A => (fun st9 t9 => va_F A st9 t9 ∧ bW D A (VW dA h ad x) t9)) (by decide) (Nat.le_of_ble_eq_true rfl) ?_
  intro A p e s m below meth c ls hsz hno hB
  obtain ⟨hx, hb, hr, hml, hown, hin, hlk, hE, hK, hP, hD, hS, hA, hN, hl⟩ := hB
  have hown : s.vm.findClass "SeriesVault" = some m.cls := hown
  have hl : lv_has ls 6 [(0, .ref h), (1, .int n), (2, .long a), (4, .long b)] := hl
  obtain ⟨H, hH⟩ : ∃ z, z = s.heap := ⟨_, rfl⟩
  have hP : va_P D vwCl (VW dA h ad x) H := by rw [hH]; exact hP
  have hS : va_S A s.heap H [] := by rw [hH]; exact hS
  rw [← hH]
  refine lv_aload_n hx hb d_V_append_0 rfl (lv_at hl 0 rfl) ?_
  refine xfV (w1 := VW dA h ad x) (As := []) (rest := []) hx hb hml hown hE hK (hN _ _ hS) (v_checkPower_x l htr D dA H.size h ad x ho) (q0 := 0) rfl rfl w278 w276 w279 w280 w277 rfl rfl ⟨⟨by decide, by decide⟩, rfl⟩ ⟨(Nat.le_of_ble_eq_true rfl), (Nat.le_of_ble_eq_true rfl)⟩ rfl hl.1 rfl (Nat.le_of_ble_eq_true rfl) d_V_append_1 ⟨(Nat.le_of_ble_eq_true rfl), (Nat.le_of_ble_eq_true rfl)⟩ hP hD hS hA (fun xa1 ce H locs hP hD hS hce hcv hcl => ?_)
  exact xOut hno hlk hce hcv hcl (fun t ht => xEndV hP hD hS t (by rw [ht]; exact Nat.le_refl _) (fun q _ => by rw [ht])) hS.2.2 (Nat.le_of_ble_eq_true rfl) (Nat.le_of_ble_eq_true rfl)
set_option maxHeartbeats 4000000 in
set_option maxRecDepth 100000 in
theorem v_append_2 (l : Launch) (htr : l.stackTraces = false) (D : va_G) (dA : Nat → ClassId) (sz : Nat) (h : Nat) (ad : Nat → Nat) (x : VS) (n : Int32) (a : Int64) (b : Int64) (ho : x.powered = true) (h0 : n < 0 ∨ nI x.nser ≤ n) : mX l ⟨"SeriesVault", "append", "(IJJ)I"⟩ [Cond.code ⟨"SeriesVault", "append", "(IJJ)I"⟩ prog_1_method_28_code 6 (some FieldType.int)] { frames := 7, cells := 1, slots := 6, locals := 102 } (pC D dA [.ref h, .int n, .long a, .long b] (VW dA h ad x) sz) "java/lang/IndexOutOfBoundsException" (fun st9 t9 => va_F (va_A (VW dA h ad x) sz) st9 t9 ∧ bW D (va_A (VW dA h ad x) sz) (VW dA h ad x) t9) 1 6 (va_A (VW dA h ad x) sz) := by
  refine mkX (y := ⟨"SeriesVault", "append", "(IJJ)I"⟩) (cc := prog_1_method_28_code) (maxL := 6) (av := [.ref h, .int n, .long a, .long b]) (ws := VW dA h ad x) (sz := sz) (B := fun A => (fun st9 t9 => va_F A st9 t9 ∧ bW D A (VW dA h ad x) t9)) (by decide) (Nat.le_of_ble_eq_true rfl) ?_
  intro A p e s m below meth c ls hsz hno hB
  obtain ⟨hx, hb, hr, hml, hown, hin, hlk, hE, hK, hP, hD, hS, hA, hN, hl⟩ := hB
  have hown : s.vm.findClass "SeriesVault" = some m.cls := hown
  have hl : lv_has ls 6 [(0, .ref h), (1, .int n), (2, .long a), (4, .long b)] := hl
  obtain ⟨H, hH⟩ : ∃ z, z = s.heap := ⟨_, rfl⟩
  have hP : va_P D vwCl (VW dA h ad x) H := by rw [hH]; exact hP
  have hS : va_S A s.heap H [] := by rw [hH]; exact hS
  rw [← hH]
  refine lv_aload_n hx hb d_V_append_0 rfl (lv_at hl 0 rfl) ?_
  refine jfV (rnV (As := []) (rest := []) hx hb hml hown hE hK (hN _ _ hS) hP hD (v_checkPower l D dA H.size h ad x ho) (q0 := 0) rfl rfl w278 w276 w279 w280 w277 rfl rfl ⟨⟨by decide, by decide⟩, rfl⟩ ⟨(Nat.le_of_ble_eq_true rfl), (Nat.le_of_ble_eq_true rfl)⟩ rfl hl.1 rfl (Nat.le_of_ble_eq_true rfl) d_V_append_1 ⟨(Nat.le_of_ble_eq_true rfl), (Nat.le_of_ble_eq_true rfl)⟩) hP hD hS hA (fun u2 H locs hp9 hP hD hS => ?_)
  have hP : va_P D vwCl (VW dA h ad x) H := hP
  have hD : va_D A (VW dA h ad x) := hD
  refine lv_aload_n hx hb d_V_append_4 rfl (lv_at hl 0 rfl) ?_
  refine lv_iload_n hx hb d_V_append_5 rfl (lv_at hl 1 rfl) ?_
  refine xfV (w1 := VW dA h ad x) (As := [.int n]) (rest := []) hx hb hml hown hE hK (hN _ _ hS) (v_checkSeries_x l htr D dA H.size h ad x n h0) (q0 := 0) rfl rfl w300 w299 w301 w302 w277 rfl rfl ⟨⟨by decide, by decide⟩, rfl⟩ ⟨(Nat.le_of_ble_eq_true rfl), (Nat.le_of_ble_eq_true rfl)⟩ rfl hl.1 rfl (Nat.le_of_ble_eq_true rfl) d_V_append_6 ⟨(Nat.le_of_ble_eq_true rfl), (Nat.le_of_ble_eq_true rfl)⟩ hP hD hS hA (fun xa3 ce H locs hP hD hS hce hcv hcl => ?_)
  exact xOut hno hlk hce hcv hcl (fun t ht => xEndV hP hD hS t (by rw [ht]; exact Nat.le_refl _) (fun q _ => by rw [ht])) hS.2.2 (Nat.le_of_ble_eq_true rfl) (Nat.le_of_ble_eq_true rfl)
theorem d_V_append_9 : decode prog_1_method_28_code 9 = .ok (.aload_n 0, 1) := by decide +kernel
theorem d_V_append_10 : decode prog_1_method_28_code 10 = .ok (.iload_n 1, 1) := by decide +kernel
theorem d_V_append_11 : decode prog_1_method_28_code 11 = .ok (.lload_n 2, 1) := by decide +kernel
theorem d_V_append_12 : decode prog_1_method_28_code 12 = .ok (.invokevirtual 254, 3) := by decide +kernel
theorem d_V_append_15 : decode prog_1_method_28_code 15 = .ok (.ifCond .ne 11, 3) := by decide +kernel
theorem d_V_append_18 : decode prog_1_method_28_code 18 = .ok (.new 89, 3) := by decide +kernel
theorem d_V_append_21 : decode prog_1_method_28_code 21 = .ok (.dup, 1) := by decide +kernel
theorem d_V_append_22 : decode prog_1_method_28_code 22 = .ok (.invokespecial 91, 3) := by decide +kernel
theorem d_V_append_25 : decode prog_1_method_28_code 25 = .ok (.athrow, 1) := by decide +kernel
theorem w1158 : Cond.methodLink "SeriesVault" 254 ⟨"SeriesVault", "mayCome", "(IJ)Z"⟩ ∈ aW := aw_of (tb_5 (List.mem_of_getElem? (i := 137) rfl)) rfl
theorem w1159 : Cond.code ⟨"SeriesVault", "mayCome", "(IJ)Z"⟩ prog_1_method_29_code 4 (some FieldType.boolean) ∈ aW := aw_of (tb_5 (List.mem_of_getElem? (i := 140) rfl)) rfl
theorem w1160 : Cond.instanceMethod ⟨"SeriesVault", "mayCome", "(IJ)Z"⟩ ∈ aW := aw_of (tb_5 (List.mem_of_getElem? (i := 139) rfl)) rfl
theorem w1161 : Cond.selects "SeriesVault" ⟨"SeriesVault", "mayCome", "(IJ)Z"⟩ ⟨"SeriesVault", "mayCome", "(IJ)Z"⟩ ∈ aW := aw_pr (List.mem_map.mpr ⟨_, pv_2 (List.mem_of_getElem? (i := 2) rfl), rfl⟩) rfl
set_option maxHeartbeats 4000000 in
set_option maxRecDepth 100000 in
theorem v_append_3 (l : Launch) (htr : l.stackTraces = false) (D : va_G) (dA : Nat → ClassId) (sz : Nat) (h : Nat) (ad : Nat → Nat) (x : VS) (w : Nat) (a : Int64) (b : Int64) (ho : x.powered = true) (hw1 : w < x.nser) (hw2 : x.nser ≤ 256) (hm : x.may w a = false) : mX l ⟨"SeriesVault", "append", "(IJJ)I"⟩ [Cond.code ⟨"SeriesVault", "append", "(IJJ)I"⟩ prog_1_method_28_code 6 (some FieldType.int)] { frames := 6, cells := 1, slots := 6, locals := 81 } (pC D dA [.ref h, .int (nI w), .long a, .long b] (VW dA h ad x) sz) "java/lang/IllegalArgumentException" (fun st9 t9 => va_F (va_A (VW dA h ad x) sz) st9 t9 ∧ bW D (va_A (VW dA h ad x) sz) (VW dA h ad x) t9) 1 6 (va_A (VW dA h ad x) sz) := by
  refine mkX (y := ⟨"SeriesVault", "append", "(IJJ)I"⟩) (cc := prog_1_method_28_code) (maxL := 6) (av := [.ref h, .int (nI w), .long a, .long b]) (ws := VW dA h ad x) (sz := sz) (B := fun A => (fun st9 t9 => va_F A st9 t9 ∧ bW D A (VW dA h ad x) t9)) (by decide) (Nat.le_of_ble_eq_true rfl) ?_
  intro A p e s m below meth c ls hsz hno hB
  obtain ⟨hx, hb, hr, hml, hown, hin, hlk, hE, hK, hP, hD, hS, hA, hN, hl⟩ := hB
  have hown : s.vm.findClass "SeriesVault" = some m.cls := hown
  have hl : lv_has ls 6 [(0, .ref h), (1, .int (nI w)), (2, .long a), (4, .long b)] := hl
  obtain ⟨H, hH⟩ : ∃ z, z = s.heap := ⟨_, rfl⟩
  have hP : va_P D vwCl (VW dA h ad x) H := by rw [hH]; exact hP
  have hS : va_S A s.heap H [] := by rw [hH]; exact hS
  rw [← hH]
  refine lv_aload_n hx hb d_V_append_0 rfl (lv_at hl 0 rfl) ?_
  refine jfV (rnV (As := []) (rest := []) hx hb hml hown hE hK (hN _ _ hS) hP hD (v_checkPower l D dA H.size h ad x ho) (q0 := 0) rfl rfl w278 w276 w279 w280 w277 rfl rfl ⟨⟨by decide, by decide⟩, rfl⟩ ⟨(Nat.le_of_ble_eq_true rfl), (Nat.le_of_ble_eq_true rfl)⟩ rfl hl.1 rfl (Nat.le_of_ble_eq_true rfl) d_V_append_1 ⟨(Nat.le_of_ble_eq_true rfl), (Nat.le_of_ble_eq_true rfl)⟩) hP hD hS hA (fun u2 H locs hp9 hP hD hS => ?_)
  have hP : va_P D vwCl (VW dA h ad x) H := hP
  have hD : va_D A (VW dA h ad x) := hD
  refine lv_aload_n hx hb d_V_append_4 rfl (lv_at hl 0 rfl) ?_
  refine lv_iload_n hx hb d_V_append_5 rfl (lv_at hl 1 rfl) ?_
  refine jfV (rnV (As := [.int (nI w)]) (rest := []) hx hb hml hown hE hK (hN _ _ hS) hP hD (v_checkSeries l D dA H.size h ad x w (show w < x.nser from by omega) (show x.nser ≤ 256 from by omega)) (q0 := 0) rfl rfl w300 w299 w301 w302 w277 rfl rfl ⟨⟨by decide, by decide⟩, rfl⟩ ⟨(Nat.le_of_ble_eq_true rfl), (Nat.le_of_ble_eq_true rfl)⟩ rfl hl.1 rfl (Nat.le_of_ble_eq_true rfl) d_V_append_6 ⟨(Nat.le_of_ble_eq_true rfl), (Nat.le_of_ble_eq_true rfl)⟩) hP hD hS hA (fun u4 H locs hp9 hP hD hS => ?_)
  have hP : va_P D vwCl (VW dA h ad x) H := hP
  have hD : va_D A (VW dA h ad x) := hD
  refine lv_aload_n hx hb d_V_append_9 rfl (lv_at hl 0 rfl) ?_
  refine lv_iload_n hx hb d_V_append_10 rfl (lv_at hl 1 rfl) ?_
  refine lv_lload_n hx hb d_V_append_11 rfl (lv_at hl 2 rfl) ?_
  refine jfI (rnV (As := [.int (nI w), .long a]) (rest := []) hx hb hml hown hE hK (hN _ _ hS) hP hD (v_mayCome l D dA H.size h ad x w a (show w < 256 from by omega)) (q0 := 0) rfl rfl w1159 w1158 w1160 w1161 w277 rfl rfl ⟨⟨by decide, by decide⟩, rfl⟩ ⟨(Nat.le_of_ble_eq_true rfl), (Nat.le_of_ble_eq_true rfl)⟩ rfl hl.1 rfl (Nat.le_of_ble_eq_true rfl) d_V_append_12 ⟨(Nat.le_of_ble_eq_true rfl), (Nat.le_of_ble_eq_true rfl)⟩) hP hD hS hA (fun r5 u6 H locs hp9 hP hD hS => ?_)
  have hP : va_P D vwCl (VW dA h ad x) H := hP
  have hD : va_D A (VW dA h ad x) := hD
  replace hp9 : bI (x.may w a) = r5 := Eq.symm hp9
  subst hp9
  refine lv_if_ne hx hb d_V_append_15 (tgt := 26) rfl (fun h9 => absurd (by rw [hm]; decide) h9) (fun _ => ?_)
  exact xNew (E := "java/lang/IllegalArgumentException") (names := ["java/lang/RuntimeException", "java/lang/Exception"]) hx hb htr hown (by decide) (by decide) hE w273 w274 (fun U hU => at_V_IAE hU) (hN _ _ hS) (hl.1.trans hml.symm) d_V_append_18 d_V_append_21 d_V_append_22 d_V_append_25 hno (by decide) (Nat.le_of_ble_eq_true rfl) (Nat.le_of_ble_eq_true rfl) (Nat.le_of_ble_eq_true rfl) hlk (fun t h1 h2 => xEndV hP hD hS t h1 h2) hS.2.2 (Nat.le_of_ble_eq_true rfl) (Nat.le_of_ble_eq_true rfl)
theorem d_V_append_26 : decode prog_1_method_28_code 26 = .ok (.aload_n 0, 1) := by decide +kernel
theorem d_V_append_27 : decode prog_1_method_28_code 27 = .ok (.getfield 16, 3) := by decide +kernel
theorem d_V_append_30 : decode prog_1_method_28_code 30 = .ok (.iconst 1, 1) := by decide +kernel
theorem d_V_append_31 : decode prog_1_method_28_code 31 = .ok (.invokevirtual 238, 3) := by decide +kernel
theorem d_V_append_34 : decode prog_1_method_28_code 34 = .ok (.ifCond .ne 11, 3) := by decide +kernel
theorem d_V_append_37 : decode prog_1_method_28_code 37 = .ok (.new 76, 3) := by decide +kernel
theorem d_V_append_40 : decode prog_1_method_28_code 40 = .ok (.dup, 1) := by decide +kernel
theorem d_V_append_41 : decode prog_1_method_28_code 41 = .ok (.invokespecial 78, 3) := by decide +kernel
theorem d_V_append_44 : decode prog_1_method_28_code 44 = .ok (.athrow, 1) := by decide +kernel
theorem w1162 : Cond.methodLink "SeriesVault" 238 ⟨"SeriesVault$Journal", "hasRoom", "(I)Z"⟩ ∈ aW := aw_of (tb_5 (List.mem_of_getElem? (i := 34) rfl)) rfl
theorem w1163 : Cond.code ⟨"SeriesVault$Journal", "hasRoom", "(I)Z"⟩ prog_3_method_5_code 2 (some FieldType.boolean) ∈ aW := aw_of (tb_5 (List.mem_of_getElem? (i := 37) rfl)) rfl
theorem w1164 : Cond.instanceMethod ⟨"SeriesVault$Journal", "hasRoom", "(I)Z"⟩ ∈ aW := aw_of (tb_5 (List.mem_of_getElem? (i := 35) rfl)) rfl
theorem w1165 : Cond.selects "SeriesVault$Journal" ⟨"SeriesVault$Journal", "hasRoom", "(I)Z"⟩ ⟨"SeriesVault$Journal", "hasRoom", "(I)Z"⟩ ∈ aW := aw_of (tb_5 (List.mem_of_getElem? (i := 36) rfl)) rfl
set_option maxHeartbeats 4000000 in
set_option maxRecDepth 100000 in
theorem v_append_4 (l : Launch) (htr : l.stackTraces = false) (D : va_G) (dA : Nat → ClassId) (sz : Nat) (h : Nat) (ad : Nat → Nat) (x : VS) (w : Nat) (a : Int64) (b : Int64) (ho : x.powered = true) (hw1 : w < x.nser) (hw2 : x.nser ≤ 256) (hm : x.may w a = true) (hfu : x.jfill + 1 < 2 ^ 31) (hbu : x.jblock + 1 < 2 ^ 31) (hlu : x.jlimit < 2 ^ 31) (hro : x.room 1 = false) : mX l ⟨"SeriesVault", "append", "(IJJ)I"⟩ [Cond.code ⟨"SeriesVault", "append", "(IJJ)I"⟩ prog_1_method_28_code 6 (some FieldType.int)] { frames := 6, cells := 1, slots := 6, locals := 81 } (pC D dA [.ref h, .int (nI w), .long a, .long b] (VW dA h ad x) sz) "java/lang/UnsupportedOperationException" (fun st9 t9 => va_F (va_A (VW dA h ad x) sz) st9 t9 ∧ bW D (va_A (VW dA h ad x) sz) (VW dA h ad x) t9) 1 6 (va_A (VW dA h ad x) sz) := by
  refine mkX (y := ⟨"SeriesVault", "append", "(IJJ)I"⟩) (cc := prog_1_method_28_code) (maxL := 6) (av := [.ref h, .int (nI w), .long a, .long b]) (ws := VW dA h ad x) (sz := sz) (B := fun A => (fun st9 t9 => va_F A st9 t9 ∧ bW D A (VW dA h ad x) t9)) (by decide) (Nat.le_of_ble_eq_true rfl) ?_
  intro A p e s m below meth c ls hsz hno hB
  obtain ⟨hx, hb, hr, hml, hown, hin, hlk, hE, hK, hP, hD, hS, hA, hN, hl⟩ := hB
  have hown : s.vm.findClass "SeriesVault" = some m.cls := hown
  have hl : lv_has ls 6 [(0, .ref h), (1, .int (nI w)), (2, .long a), (4, .long b)] := hl
  obtain ⟨H, hH⟩ : ∃ z, z = s.heap := ⟨_, rfl⟩
  have hP : va_P D vwCl (VW dA h ad x) H := by rw [hH]; exact hP
  have hS : va_S A s.heap H [] := by rw [hH]; exact hS
  rw [← hH]
  refine lv_aload_n hx hb d_V_append_0 rfl (lv_at hl 0 rfl) ?_
  refine jfV (rnV (As := []) (rest := []) hx hb hml hown hE hK (hN _ _ hS) hP hD (v_checkPower l D dA H.size h ad x ho) (q0 := 0) rfl rfl w278 w276 w279 w280 w277 rfl rfl ⟨⟨by decide, by decide⟩, rfl⟩ ⟨(Nat.le_of_ble_eq_true rfl), (Nat.le_of_ble_eq_true rfl)⟩ rfl hl.1 rfl (Nat.le_of_ble_eq_true rfl) d_V_append_1 ⟨(Nat.le_of_ble_eq_true rfl), (Nat.le_of_ble_eq_true rfl)⟩) hP hD hS hA (fun u2 H locs hp9 hP hD hS => ?_)
  have hP : va_P D vwCl (VW dA h ad x) H := hP
  have hD : va_D A (VW dA h ad x) := hD
  refine lv_aload_n hx hb d_V_append_4 rfl (lv_at hl 0 rfl) ?_
  refine lv_iload_n hx hb d_V_append_5 rfl (lv_at hl 1 rfl) ?_
  refine jfV (rnV (As := [.int (nI w)]) (rest := []) hx hb hml hown hE hK (hN _ _ hS) hP hD (v_checkSeries l D dA H.size h ad x w (show w < x.nser from by omega) (show x.nser ≤ 256 from by omega)) (q0 := 0) rfl rfl w300 w299 w301 w302 w277 rfl rfl ⟨⟨by decide, by decide⟩, rfl⟩ ⟨(Nat.le_of_ble_eq_true rfl), (Nat.le_of_ble_eq_true rfl)⟩ rfl hl.1 rfl (Nat.le_of_ble_eq_true rfl) d_V_append_6 ⟨(Nat.le_of_ble_eq_true rfl), (Nat.le_of_ble_eq_true rfl)⟩) hP hD hS hA (fun u4 H locs hp9 hP hD hS => ?_)
  have hP : va_P D vwCl (VW dA h ad x) H := hP
  have hD : va_D A (VW dA h ad x) := hD
  refine lv_aload_n hx hb d_V_append_9 rfl (lv_at hl 0 rfl) ?_
  refine lv_iload_n hx hb d_V_append_10 rfl (lv_at hl 1 rfl) ?_
  refine lv_lload_n hx hb d_V_append_11 rfl (lv_at hl 2 rfl) ?_
  refine jfI (rnV (As := [.int (nI w), .long a]) (rest := []) hx hb hml hown hE hK (hN _ _ hS) hP hD (v_mayCome l D dA H.size h ad x w a (show w < 256 from by omega)) (q0 := 0) rfl rfl w1159 w1158 w1160 w1161 w277 rfl rfl ⟨⟨by decide, by decide⟩, rfl⟩ ⟨(Nat.le_of_ble_eq_true rfl), (Nat.le_of_ble_eq_true rfl)⟩ rfl hl.1 rfl (Nat.le_of_ble_eq_true rfl) d_V_append_12 ⟨(Nat.le_of_ble_eq_true rfl), (Nat.le_of_ble_eq_true rfl)⟩) hP hD hS hA (fun r5 u6 H locs hp9 hP hD hS => ?_)
  have hP : va_P D vwCl (VW dA h ad x) H := hP
  have hD : va_D A (VW dA h ad x) := hD
  replace hp9 : bI (x.may w a) = r5 := Eq.symm hp9
  subst hp9
  refine lv_if_ne hx hb d_V_append_15 (tgt := 26) rfl (fun _ => ?_) (fun h9 => absurd h9 (by rw [hm]; decide))
  refine lv_aload_n hx hb d_V_append_26 rfl (lv_at hl 0 rfl) ?_
  refine gF (v := .ref (ad 0)) hx hb hown hE hK hP 0 rfl rfl layV 8 (by decide) w312 rfl d_V_append_27 ?_
  refine lv_iconst (v := 1) hx hb d_V_append_30 (by decide) ?_
  refine jfI (rnV (As := [.int 1]) (rest := []) hx hb hml hown hE hK (hN _ _ hS) hP hD (v_jhasRoom l D dA H.size h ad x 1 (show x.jfill + 1 < 2 ^ 31 from by omega) (show x.jblock + 1 < 2 ^ 31 from by omega) (show x.jlimit < 2 ^ 31 from by omega)) (q0 := 2) rfl rfl w1163 w1162 w1164 w1165 w556 rfl rfl ⟨⟨by decide, by decide⟩, rfl⟩ ⟨(Nat.le_of_ble_eq_true rfl), (Nat.le_of_ble_eq_true rfl)⟩ rfl hl.1 rfl (Nat.le_of_ble_eq_true rfl) d_V_append_31 ⟨(Nat.le_of_ble_eq_true rfl), (Nat.le_of_ble_eq_true rfl)⟩) hP hD hS hA (fun r7 u8 H locs hp9 hP hD hS => ?_)
  have hP : va_P D vwCl (VW dA h ad x) H := hP
  have hD : va_D A (VW dA h ad x) := hD
  replace hp9 : bI (x.room 1) = r7 := Eq.symm hp9
  subst hp9
  refine lv_if_ne hx hb d_V_append_34 (tgt := 45) rfl (fun h9 => absurd (by rw [hro]; decide) h9) (fun _ => ?_)
  exact xNew (E := "java/lang/UnsupportedOperationException") (names := ["java/lang/RuntimeException", "java/lang/Exception"]) hx hb htr hown (by decide) (by decide) hE w1156 w1157 (fun U hU => at_V_UOE hU) (hN _ _ hS) (hl.1.trans hml.symm) d_V_append_37 d_V_append_40 d_V_append_41 d_V_append_44 hno (by decide) (Nat.le_of_ble_eq_true rfl) (Nat.le_of_ble_eq_true rfl) (Nat.le_of_ble_eq_true rfl) hlk (fun t h1 h2 => xEndV hP hD hS t h1 h2) hS.2.2 (Nat.le_of_ble_eq_true rfl) (Nat.le_of_ble_eq_true rfl)
set_option maxHeartbeats 4000000 in
set_option maxRecDepth 100000 in
theorem v_writeRecord_x (l : Launch) (htr : l.stackTraces = false) (D : va_G) (dA : Nat → ClassId) (sz : Nat) (h : Nat) (ad : Nat → Nat) (x : VS) (kd : Nat) (w : Nat) (n : Nat) (a : Int64) (b : Int64) (hfu : x.jfill + n < 2 ^ 31) (c1 : 126 < x.jfill + n) (hc2 : x.jch = true) (hc : x.cutLeft = 0) : mX l ⟨"SeriesVault", "writeRecord", "(IIIJJ)V"⟩ [Cond.code ⟨"SeriesVault", "writeRecord", "(IIIJJ)V"⟩ prog_1_method_20_code 8 none] { frames := 8, cells := 1, slots := 6, locals := 121 } (pC D dA [.ref h, .int (nI kd), .int (nI w), .int (nI n), .long a, .long b] (VW dA h ad x) sz) "java/lang/IllegalStateException" (fun st9 t9 => va_F (va_A (VW dA h ad x) sz) st9 t9 ∧ bW D (va_A (VW dA h ad x) sz) (VW dA h ad (VS.s_cutLeft (VS.s_powered x false) (-1))) t9) 1 6 (va_A (VW dA h ad x) sz) := by
  refine mkX (y := ⟨"SeriesVault", "writeRecord", "(IIIJJ)V"⟩) (cc := prog_1_method_20_code) (maxL := 8) (av := [.ref h, .int (nI kd), .int (nI w), .int (nI n), .long a, .long b]) (ws := VW dA h ad x) (sz := sz) (B := fun A => (fun st9 t9 => va_F A st9 t9 ∧ bW D A (VW dA h ad (VS.s_cutLeft (VS.s_powered x false) (-1))) t9)) (by decide) (Nat.le_of_ble_eq_true rfl) ?_
  intro A p e s m below meth c ls hsz hno hB
  obtain ⟨hx, hb, hr, hml, hown, hin, hlk, hE, hK, hP, hD, hS, hA, hN, hl⟩ := hB
  have hown : s.vm.findClass "SeriesVault" = some m.cls := hown
  have hl : lv_has ls 8 [(0, .ref h), (1, .int (nI kd)), (2, .int (nI w)), (3, .int (nI n)), (4, .long a), (6, .long b)] := hl
  obtain ⟨H, hH⟩ : ∃ z, z = s.heap := ⟨_, rfl⟩
  have hP : va_P D vwCl (VW dA h ad x) H := by rw [hH]; exact hP
  have hS : va_S A s.heap H [] := by rw [hH]; exact hS
  rw [← hH]
  refine lv_aload_n hx hb d_V_writeRecord_0 rfl (lv_at hl 0 rfl) ?_
  refine gF (v := .ref (ad 0)) hx hb hown hE hK hP 0 rfl rfl layV 8 (by decide) w312 rfl d_V_writeRecord_1 ?_
  refine lv_iload_n hx hb d_V_writeRecord_4 rfl (lv_at hl 3 rfl) ?_
  refine jfI (rnV (As := [.int (nI n)]) (rest := []) hx hb hml hown hE hK (hN _ _ hS) hP hD (v_fitsInBlock l D dA H.size h ad x n (show x.jfill + n < 2 ^ 31 from by omega)) (q0 := 2) rfl rfl w1082 w1125 w1083 w1084 w556 rfl rfl ⟨⟨by decide, by decide⟩, rfl⟩ ⟨(Nat.le_of_ble_eq_true rfl), (Nat.le_of_ble_eq_true rfl)⟩ rfl hl.1 rfl (Nat.le_of_ble_eq_true rfl) d_V_writeRecord_5 ⟨(Nat.le_of_ble_eq_true rfl), (Nat.le_of_ble_eq_true rfl)⟩) hP hD hS hA (fun r1 u2 H locs hp9 hP hD hS => ?_)
  have hP : va_P D vwCl (VW dA h ad x) H := hP
  have hD : va_D A (VW dA h ad x) := hD
  replace hp9 : bI (decide (x.jfill + n ≤ 126)) = r1 := Eq.symm hp9
  subst hp9
  refine lv_if_ne hx hb d_V_writeRecord_8 (tgt := 23) rfl (fun h9 => absurd (by rw [decide_eq_false (by omega)]; decide) h9) (fun _ => ?_)
  refine lv_aload_n hx hb d_V_writeRecord_11 rfl (lv_at hl 0 rfl) ?_
  refine xfV (w1 := VW dA h ad (VS.s_cutLeft (VS.s_powered x false) (-1))) (As := []) (rest := []) hx hb hml hown hE hK (hN _ _ hS) (v_writeJournalBlock_x l htr D dA H.size h ad x hc2 hc) (q0 := 0) rfl rfl w315 w314 w316 w317 w277 rfl rfl ⟨⟨by decide, by decide⟩, rfl⟩ ⟨(Nat.le_of_ble_eq_true rfl), (Nat.le_of_ble_eq_true rfl)⟩ rfl hl.1 rfl (Nat.le_of_ble_eq_true rfl) d_V_writeRecord_12 ⟨(Nat.le_of_ble_eq_true rfl), (Nat.le_of_ble_eq_true rfl)⟩ hP hD hS hA (fun xa3 ce H locs hP hD hS hce hcv hcl => ?_)
  exact xOut hno hlk hce hcv hcl (fun t ht => xEndV hP hD hS t (by rw [ht]; exact Nat.le_refl _) (fun q _ => by rw [ht])) hS.2.2 (Nat.le_of_ble_eq_true rfl) (Nat.le_of_ble_eq_true rfl)
set_option maxHeartbeats 4000000 in
set_option maxRecDepth 100000 in
theorem v_addPoint_x (l : Launch) (htr : l.stackTraces = false) (D : va_G) (dA : Nat → ClassId) (sz : Nat) (h : Nat) (ad : Nat → Nat) (x : VS) (w : Nat) (a : Int64) (b : Int64) (hfu : x.jfill + 1 < 2 ^ 31) (c1 : 126 < x.jfill + 1) (hc2 : x.jch = true) (hc : x.cutLeft = 0) : mX l ⟨"SeriesVault", "addPoint", "(IJJ)V"⟩ [Cond.code ⟨"SeriesVault", "addPoint", "(IJJ)V"⟩ prog_1_method_31_code 6 none] { frames := 9, cells := 1, slots := 6, locals := 148 } (pC D dA [.ref h, .int (nI w), .long a, .long b] (VW dA h ad x) sz) "java/lang/IllegalStateException" (fun st9 t9 => va_F (va_A (VW dA h ad x) sz) st9 t9 ∧ bW D (va_A (VW dA h ad x) sz) (VW dA h ad (VS.s_cutLeft (VS.s_powered x false) (-1))) t9) 1 6 (va_A (VW dA h ad x) sz) := by
  refine mkX (y := ⟨"SeriesVault", "addPoint", "(IJJ)V"⟩) (cc := prog_1_method_31_code) (maxL := 6) (av := [.ref h, .int (nI w), .long a, .long b]) (ws := VW dA h ad x) (sz := sz) (B := fun A => (fun st9 t9 => va_F A st9 t9 ∧ bW D A (VW dA h ad (VS.s_cutLeft (VS.s_powered x false) (-1))) t9)) (by decide) (Nat.le_of_ble_eq_true rfl) ?_
  intro A p e s m below meth c ls hsz hno hB
  obtain ⟨hx, hb, hr, hml, hown, hin, hlk, hE, hK, hP, hD, hS, hA, hN, hl⟩ := hB
  have hown : s.vm.findClass "SeriesVault" = some m.cls := hown
  have hl : lv_has ls 6 [(0, .ref h), (1, .int (nI w)), (2, .long a), (4, .long b)] := hl
  obtain ⟨H, hH⟩ : ∃ z, z = s.heap := ⟨_, rfl⟩
  have hP : va_P D vwCl (VW dA h ad x) H := by rw [hH]; exact hP
  have hS : va_S A s.heap H [] := by rw [hH]; exact hS
  rw [← hH]
  refine lv_aload_n hx hb d_V_addPoint_0 rfl (lv_at hl 0 rfl) ?_
  refine lv_iconst (v := 1) hx hb d_V_addPoint_1 (by decide) ?_
  refine lv_iload_n hx hb d_V_addPoint_2 rfl (lv_at hl 1 rfl) ?_
  refine lv_iconst (v := 1) hx hb d_V_addPoint_3 (by decide) ?_
  refine lv_lload_n hx hb d_V_addPoint_4 rfl (lv_at hl 2 rfl) ?_
  refine lv_lload hx hb d_V_addPoint_5 (lv_at hl 3 rfl) ?_
  refine xfV (w1 := VW dA h ad (VS.s_cutLeft (VS.s_powered x false) (-1))) (As := [.int 1, .int (nI w), .int 1, .long a, .long b]) (rest := []) hx hb hml hown hE hK (hN _ _ hS) (v_writeRecord_x l htr D dA H.size h ad x 1 w 1 a b (show x.jfill + 1 < 2 ^ 31 from by omega) (show 126 < x.jfill + 1 from by omega) hc2 hc) (q0 := 0) rfl rfl w1133 w1132 w1134 w1135 w277 rfl rfl ⟨⟨by decide, by decide⟩, rfl⟩ ⟨(Nat.le_of_ble_eq_true rfl), (Nat.le_of_ble_eq_true rfl)⟩ rfl hl.1 rfl (Nat.le_of_ble_eq_true rfl) d_V_addPoint_7 ⟨(Nat.le_of_ble_eq_true rfl), (Nat.le_of_ble_eq_true rfl)⟩ hP hD hS hA (fun xa1 ce H locs hP hD hS hce hcv hcl => ?_)
  exact xOut hno hlk hce hcv hcl (fun t ht => xEndV hP hD hS t (by rw [ht]; exact Nat.le_refl _) (fun q _ => by rw [ht])) hS.2.2 (Nat.le_of_ble_eq_true rfl) (Nat.le_of_ble_eq_true rfl)
theorem d_V_append_45 : decode prog_1_method_28_code 45 = .ok (.aload_n 0, 1) := by decide +kernel
theorem d_V_append_46 : decode prog_1_method_28_code 46 = .ok (.iload_n 1, 1) := by decide +kernel
theorem d_V_append_47 : decode prog_1_method_28_code 47 = .ok (.lload_n 2, 1) := by decide +kernel
theorem d_V_append_48 : decode prog_1_method_28_code 48 = .ok (.lload 4, 2) := by decide +kernel
theorem d_V_append_50 : decode prog_1_method_28_code 50 = .ok (.invokevirtual 258, 3) := by decide +kernel
theorem w1166 : Cond.code ⟨"SeriesVault", "addPoint", "(IJJ)V"⟩ prog_1_method_31_code 6 none ∈ aW := aw_of (tb_5 (List.mem_of_getElem? (i := 148) rfl)) rfl
theorem w1167 : Cond.methodLink "SeriesVault" 258 ⟨"SeriesVault", "addPoint", "(IJJ)V"⟩ ∈ aW := aw_of (tb_5 (List.mem_of_getElem? (i := 145) rfl)) rfl
theorem w1168 : Cond.instanceMethod ⟨"SeriesVault", "addPoint", "(IJJ)V"⟩ ∈ aW := aw_of (tb_5 (List.mem_of_getElem? (i := 147) rfl)) rfl
theorem w1169 : Cond.selects "SeriesVault" ⟨"SeriesVault", "addPoint", "(IJJ)V"⟩ ⟨"SeriesVault", "addPoint", "(IJJ)V"⟩ ∈ aW := aw_pr (List.mem_map.mpr ⟨_, pv_2 (List.mem_of_getElem? (i := 3) rfl), rfl⟩) rfl
set_option maxHeartbeats 4000000 in
set_option maxRecDepth 100000 in
theorem v_append_5 (l : Launch) (htr : l.stackTraces = false) (D : va_G) (dA : Nat → ClassId) (sz : Nat) (h : Nat) (ad : Nat → Nat) (x : VS) (w : Nat) (a : Int64) (b : Int64) (ho : x.powered = true) (hw1 : w < x.nser) (hw2 : x.nser ≤ 256) (hm : x.may w a = true) (hfu : x.jfill + 1 < 2 ^ 31) (hbu : x.jblock + 1 < 2 ^ 31) (hlu : x.jlimit < 2 ^ 31) (hro : x.room 1 = true) (c1 : 126 < x.jfill + 1) (hc2 : x.jch = true) (hc : x.cutLeft = 0) : mX l ⟨"SeriesVault", "append", "(IJJ)I"⟩ [Cond.code ⟨"SeriesVault", "append", "(IJJ)I"⟩ prog_1_method_28_code 6 (some FieldType.int)] { frames := 10, cells := 1, slots := 6, locals := 173 } (pC D dA [.ref h, .int (nI w), .long a, .long b] (VW dA h ad x) sz) "java/lang/IllegalStateException" (fun st9 t9 => va_F (va_A (VW dA h ad x) sz) st9 t9 ∧ bW D (va_A (VW dA h ad x) sz) (VW dA h ad (VS.s_cutLeft (VS.s_powered x false) (-1))) t9) 1 6 (va_A (VW dA h ad x) sz) := by
  refine mkX (y := ⟨"SeriesVault", "append", "(IJJ)I"⟩) (cc := prog_1_method_28_code) (maxL := 6) (av := [.ref h, .int (nI w), .long a, .long b]) (ws := VW dA h ad x) (sz := sz) (B := fun A => (fun st9 t9 => va_F A st9 t9 ∧ bW D A (VW dA h ad (VS.s_cutLeft (VS.s_powered x false) (-1))) t9)) (by decide) (Nat.le_of_ble_eq_true rfl) ?_
  intro A p e s m below meth c ls hsz hno hB
  obtain ⟨hx, hb, hr, hml, hown, hin, hlk, hE, hK, hP, hD, hS, hA, hN, hl⟩ := hB
  have hown : s.vm.findClass "SeriesVault" = some m.cls := hown
  have hl : lv_has ls 6 [(0, .ref h), (1, .int (nI w)), (2, .long a), (4, .long b)] := hl
  obtain ⟨H, hH⟩ : ∃ z, z = s.heap := ⟨_, rfl⟩
  have hP : va_P D vwCl (VW dA h ad x) H := by rw [hH]; exact hP
  have hS : va_S A s.heap H [] := by rw [hH]; exact hS
  rw [← hH]
  refine lv_aload_n hx hb d_V_append_0 rfl (lv_at hl 0 rfl) ?_
  refine jfV (rnV (As := []) (rest := []) hx hb hml hown hE hK (hN _ _ hS) hP hD (v_checkPower l D dA H.size h ad x ho) (q0 := 0) rfl rfl w278 w276 w279 w280 w277 rfl rfl ⟨⟨by decide, by decide⟩, rfl⟩ ⟨(Nat.le_of_ble_eq_true rfl), (Nat.le_of_ble_eq_true rfl)⟩ rfl hl.1 rfl (Nat.le_of_ble_eq_true rfl) d_V_append_1 ⟨(Nat.le_of_ble_eq_true rfl), (Nat.le_of_ble_eq_true rfl)⟩) hP hD hS hA (fun u2 H locs hp9 hP hD hS => ?_)
  have hP : va_P D vwCl (VW dA h ad x) H := hP
  have hD : va_D A (VW dA h ad x) := hD
  refine lv_aload_n hx hb d_V_append_4 rfl (lv_at hl 0 rfl) ?_
  refine lv_iload_n hx hb d_V_append_5 rfl (lv_at hl 1 rfl) ?_
  refine jfV (rnV (As := [.int (nI w)]) (rest := []) hx hb hml hown hE hK (hN _ _ hS) hP hD (v_checkSeries l D dA H.size h ad x w (show w < x.nser from by omega) (show x.nser ≤ 256 from by omega)) (q0 := 0) rfl rfl w300 w299 w301 w302 w277 rfl rfl ⟨⟨by decide, by decide⟩, rfl⟩ ⟨(Nat.le_of_ble_eq_true rfl), (Nat.le_of_ble_eq_true rfl)⟩ rfl hl.1 rfl (Nat.le_of_ble_eq_true rfl) d_V_append_6 ⟨(Nat.le_of_ble_eq_true rfl), (Nat.le_of_ble_eq_true rfl)⟩) hP hD hS hA (fun u4 H locs hp9 hP hD hS => ?_)
  have hP : va_P D vwCl (VW dA h ad x) H := hP
  have hD : va_D A (VW dA h ad x) := hD
  refine lv_aload_n hx hb d_V_append_9 rfl (lv_at hl 0 rfl) ?_
  refine lv_iload_n hx hb d_V_append_10 rfl (lv_at hl 1 rfl) ?_
  refine lv_lload_n hx hb d_V_append_11 rfl (lv_at hl 2 rfl) ?_
  refine jfI (rnV (As := [.int (nI w), .long a]) (rest := []) hx hb hml hown hE hK (hN _ _ hS) hP hD (v_mayCome l D dA H.size h ad x w a (show w < 256 from by omega)) (q0 := 0) rfl rfl w1159 w1158 w1160 w1161 w277 rfl rfl ⟨⟨by decide, by decide⟩, rfl⟩ ⟨(Nat.le_of_ble_eq_true rfl), (Nat.le_of_ble_eq_true rfl)⟩ rfl hl.1 rfl (Nat.le_of_ble_eq_true rfl) d_V_append_12 ⟨(Nat.le_of_ble_eq_true rfl), (Nat.le_of_ble_eq_true rfl)⟩) hP hD hS hA (fun r5 u6 H locs hp9 hP hD hS => ?_)
  have hP : va_P D vwCl (VW dA h ad x) H := hP
  have hD : va_D A (VW dA h ad x) := hD
  replace hp9 : bI (x.may w a) = r5 := Eq.symm hp9
  subst hp9
  refine lv_if_ne hx hb d_V_append_15 (tgt := 26) rfl (fun _ => ?_) (fun h9 => absurd h9 (by rw [hm]; decide))
  refine lv_aload_n hx hb d_V_append_26 rfl (lv_at hl 0 rfl) ?_
  refine gF (v := .ref (ad 0)) hx hb hown hE hK hP 0 rfl rfl layV 8 (by decide) w312 rfl d_V_append_27 ?_
  refine lv_iconst (v := 1) hx hb d_V_append_30 (by decide) ?_
  refine jfI (rnV (As := [.int 1]) (rest := []) hx hb hml hown hE hK (hN _ _ hS) hP hD (v_jhasRoom l D dA H.size h ad x 1 (show x.jfill + 1 < 2 ^ 31 from by omega) (show x.jblock + 1 < 2 ^ 31 from by omega) (show x.jlimit < 2 ^ 31 from by omega)) (q0 := 2) rfl rfl w1163 w1162 w1164 w1165 w556 rfl rfl ⟨⟨by decide, by decide⟩, rfl⟩ ⟨(Nat.le_of_ble_eq_true rfl), (Nat.le_of_ble_eq_true rfl)⟩ rfl hl.1 rfl (Nat.le_of_ble_eq_true rfl) d_V_append_31 ⟨(Nat.le_of_ble_eq_true rfl), (Nat.le_of_ble_eq_true rfl)⟩) hP hD hS hA (fun r7 u8 H locs hp9 hP hD hS => ?_)
  have hP : va_P D vwCl (VW dA h ad x) H := hP
  have hD : va_D A (VW dA h ad x) := hD
  replace hp9 : bI (x.room 1) = r7 := Eq.symm hp9
  subst hp9
  refine lv_if_ne hx hb d_V_append_34 (tgt := 45) rfl (fun _ => ?_) (fun h9 => absurd h9 (by rw [hro]; decide))
  refine lv_aload_n hx hb d_V_append_45 rfl (lv_at hl 0 rfl) ?_
  refine lv_iload_n hx hb d_V_append_46 rfl (lv_at hl 1 rfl) ?_
  refine lv_lload_n hx hb d_V_append_47 rfl (lv_at hl 2 rfl) ?_
  refine lv_lload hx hb d_V_append_48 (lv_at hl 3 rfl) ?_
  refine xfV (w1 := VW dA h ad (VS.s_cutLeft (VS.s_powered x false) (-1))) (As := [.int (nI w), .long a, .long b]) (rest := []) hx hb hml hown hE hK (hN _ _ hS) (v_addPoint_x l htr D dA H.size h ad x w a b (show x.jfill + 1 < 2 ^ 31 from by omega) (show 126 < x.jfill + 1 from by omega) hc2 hc) (q0 := 0) rfl rfl w1166 w1167 w1168 w1169 w277 rfl rfl ⟨⟨by decide, by decide⟩, rfl⟩ ⟨(Nat.le_of_ble_eq_true rfl), (Nat.le_of_ble_eq_true rfl)⟩ rfl hl.1 rfl (Nat.le_of_ble_eq_true rfl) d_V_append_50 ⟨(Nat.le_of_ble_eq_true rfl), (Nat.le_of_ble_eq_true rfl)⟩ hP hD hS hA (fun xa9 ce H locs hP hD hS hce hcv hcl => ?_)
  exact xOut hno hlk hce hcv hcl (fun t ht => xEndV hP hD hS t (by rw [ht]; exact Nat.le_refl _) (fun q _ => by rw [ht])) hS.2.2 (Nat.le_of_ble_eq_true rfl) (Nat.le_of_ble_eq_true rfl)
theorem d_V_append_53 : decode prog_1_method_28_code 53 = .ok (.aload_n 0, 1) := by decide +kernel
theorem d_V_append_54 : decode prog_1_method_28_code 54 = .ok (.getfield 23, 3) := by decide +kernel
theorem d_V_append_57 : decode prog_1_method_28_code 57 = .ok (.getfield 261, 3) := by decide +kernel
theorem d_V_append_60 : decode prog_1_method_28_code 60 = .ok (.ireturn, 1) := by decide +kernel
set_option maxHeartbeats 4000000 in
set_option maxRecDepth 100000 in
theorem v_append (l : Launch) (D : va_G) (dA : Nat → ClassId) (sz : Nat) (h : Nat) (ad : Nat → Nat) (x : VS) (w : Nat) (a : Int64) (b : Int64) (ho : x.powered = true) (hw1 : w < x.nser) (hw2 : x.nser ≤ 256) (hm : x.may w a = true) (hfu : x.jfill + 1 < 2 ^ 31) (hbu : x.jblock + 1 < 2 ^ 31) (hlu : x.jlimit < 2 ^ 31) (hro : x.room 1 = true) (hs1 : x.jsize ≤ x.jN) (hs2 : 0 < x.jN) (hs3 : x.jN ≤ 65536) (hcr : x.jfill + 1 ≤ 126 ∨ x.jch = false ∨ ¬ x.cutLeft = 0) (hp1 : x.hsize ≤ x.hN) (hp2 : 0 < x.hN) (hp3 : x.hN ≤ 32768) : Met l ⟨"SeriesVault", "append", "(IJJ)I"⟩ [Cond.code ⟨"SeriesVault", "append", "(IJJ)I"⟩ prog_1_method_28_code 6 (some FieldType.int)] { frames := 6, cells := 6 * (x.jcap - x.jN) + 3 * (x.cmcap a - x.hN), slots := 12 * (x.jcap - x.jN) + 6 * (x.cmcap a - x.hN), locals := 161 } (pC D dA [.ref h, .int (nI w), .long a, .long b] (VW dA h ad x) sz) (va_Qi (fun (r9 : Int32) (u9 : VS) => r9 = nI u9.hsize ∧ ∃ ja pa : Nat → Nat, u9 = x.apF ja pa w a b) (fun (u9 : VS) t9 => bW D (va_A (VW dA h ad x) sz) (VW dA h ad u9) t9) (va_A (VW dA h ad x) sz)) (6 * (x.jcap - x.jN) + 3 * (x.cmcap a - x.hN)) (12 * (x.jcap - x.jN) + 6 * (x.cmcap a - x.hN)) (va_A (VW dA h ad x) sz) := by
  refine mkC (y := ⟨"SeriesVault", "append", "(IJJ)I"⟩) (cc := prog_1_method_28_code) (maxL := 6) (av := [.ref h, .int (nI w), .long a, .long b]) (ws := VW dA h ad x) (sz := sz) (Qc := fun A => va_Qi (fun (r9 : Int32) (u9 : VS) => r9 = nI u9.hsize ∧ ∃ ja pa : Nat → Nat, u9 = x.apF ja pa w a b) (fun (u9 : VS) t9 => bW D A (VW dA h ad u9) t9) A) (by decide) (Nat.le_of_ble_eq_true rfl) ?_
  intro A p e s m below meth c ls hsz hB
  obtain ⟨hx, hb, hr, hml, hown, hin, hlk, hE, hK, hP, hD, hS, hA, hN, hl⟩ := hB
  have hown : s.vm.findClass "SeriesVault" = some m.cls := hown
  have hl : lv_has ls 6 [(0, .ref h), (1, .int (nI w)), (2, .long a), (4, .long b)] := hl
  obtain ⟨H, hH⟩ : ∃ z, z = s.heap := ⟨_, rfl⟩
  have hP : va_P D vwCl (VW dA h ad x) H := by rw [hH]; exact hP
  have hS : va_S A s.heap H [] := by rw [hH]; exact hS
  rw [← hH]
  refine lv_aload_n hx hb d_V_append_0 rfl (lv_at hl 0 rfl) ?_
  refine jfV (rnV (As := []) (rest := []) hx hb hml hown hE hK (hN _ _ hS) hP hD (v_checkPower l D dA H.size h ad x ho) (q0 := 0) rfl rfl w278 w276 w279 w280 w277 rfl rfl ⟨⟨by decide, by decide⟩, rfl⟩ ⟨(Nat.le_of_ble_eq_true rfl), (Nat.le_of_ble_eq_true rfl)⟩ rfl hl.1 rfl (Nat.le_of_ble_eq_true rfl) d_V_append_1 ⟨(show 0 + 0 ≤ 6 * (x.jcap - x.jN) + 3 * (x.cmcap a - x.hN) by omega), (show 0 + 0 ≤ 12 * (x.jcap - x.jN) + 6 * (x.cmcap a - x.hN) by omega)⟩) hP hD hS hA (fun u2 H locs hp9 hP hD hS => ?_)
  have hP : va_P D vwCl (VW dA h ad x) H := hP
  have hD : va_D A (VW dA h ad x) := hD
  refine lv_aload_n hx hb d_V_append_4 rfl (lv_at hl 0 rfl) ?_
  refine lv_iload_n hx hb d_V_append_5 rfl (lv_at hl 1 rfl) ?_
  refine jfV (rnV (As := [.int (nI w)]) (rest := []) hx hb hml hown hE hK (hN _ _ hS) hP hD (v_checkSeries l D dA H.size h ad x w (show w < x.nser from by omega) (show x.nser ≤ 256 from by omega)) (q0 := 0) rfl rfl w300 w299 w301 w302 w277 rfl rfl ⟨⟨by decide, by decide⟩, rfl⟩ ⟨(Nat.le_of_ble_eq_true rfl), (Nat.le_of_ble_eq_true rfl)⟩ rfl hl.1 rfl (Nat.le_of_ble_eq_true rfl) d_V_append_6 ⟨(show 0 + 0 + 0 ≤ 6 * (x.jcap - x.jN) + 3 * (x.cmcap a - x.hN) by omega), (show 0 + 0 + 0 ≤ 12 * (x.jcap - x.jN) + 6 * (x.cmcap a - x.hN) by omega)⟩) hP hD hS hA (fun u4 H locs hp9 hP hD hS => ?_)
  have hP : va_P D vwCl (VW dA h ad x) H := hP
  have hD : va_D A (VW dA h ad x) := hD
  refine lv_aload_n hx hb d_V_append_9 rfl (lv_at hl 0 rfl) ?_
  refine lv_iload_n hx hb d_V_append_10 rfl (lv_at hl 1 rfl) ?_
  refine lv_lload_n hx hb d_V_append_11 rfl (lv_at hl 2 rfl) ?_
  refine jfI (rnV (As := [.int (nI w), .long a]) (rest := []) hx hb hml hown hE hK (hN _ _ hS) hP hD (v_mayCome l D dA H.size h ad x w a (show w < 256 from by omega)) (q0 := 0) rfl rfl w1159 w1158 w1160 w1161 w277 rfl rfl ⟨⟨by decide, by decide⟩, rfl⟩ ⟨(Nat.le_of_ble_eq_true rfl), (Nat.le_of_ble_eq_true rfl)⟩ rfl hl.1 rfl (Nat.le_of_ble_eq_true rfl) d_V_append_12 ⟨(show 0 + 0 + 0 + 0 ≤ 6 * (x.jcap - x.jN) + 3 * (x.cmcap a - x.hN) by omega), (show 0 + 0 + 0 + 0 ≤ 12 * (x.jcap - x.jN) + 6 * (x.cmcap a - x.hN) by omega)⟩) hP hD hS hA (fun r5 u6 H locs hp9 hP hD hS => ?_)
  have hP : va_P D vwCl (VW dA h ad x) H := hP
  have hD : va_D A (VW dA h ad x) := hD
  replace hp9 : bI (x.may w a) = r5 := Eq.symm hp9
  subst hp9
  refine lv_if_ne hx hb d_V_append_15 (tgt := 26) rfl (fun _ => ?_) (fun h9 => absurd h9 (by rw [hm]; decide))
  refine lv_aload_n hx hb d_V_append_26 rfl (lv_at hl 0 rfl) ?_
  refine gF (v := .ref (ad 0)) hx hb hown hE hK hP 0 rfl rfl layV 8 (by decide) w312 rfl d_V_append_27 ?_
  refine lv_iconst (v := 1) hx hb d_V_append_30 (by decide) ?_
  refine jfI (rnV (As := [.int 1]) (rest := []) hx hb hml hown hE hK (hN _ _ hS) hP hD (v_jhasRoom l D dA H.size h ad x 1 (show x.jfill + 1 < 2 ^ 31 from by omega) (show x.jblock + 1 < 2 ^ 31 from by omega) (show x.jlimit < 2 ^ 31 from by omega)) (q0 := 2) rfl rfl w1163 w1162 w1164 w1165 w556 rfl rfl ⟨⟨by decide, by decide⟩, rfl⟩ ⟨(Nat.le_of_ble_eq_true rfl), (Nat.le_of_ble_eq_true rfl)⟩ rfl hl.1 rfl (Nat.le_of_ble_eq_true rfl) d_V_append_31 ⟨(show 0 + 0 + 0 + 0 + 0 ≤ 6 * (x.jcap - x.jN) + 3 * (x.cmcap a - x.hN) by omega), (show 0 + 0 + 0 + 0 + 0 ≤ 12 * (x.jcap - x.jN) + 6 * (x.cmcap a - x.hN) by omega)⟩) hP hD hS hA (fun r7 u8 H locs hp9 hP hD hS => ?_)
  have hP : va_P D vwCl (VW dA h ad x) H := hP
  have hD : va_D A (VW dA h ad x) := hD
  replace hp9 : bI (x.room 1) = r7 := Eq.symm hp9
  subst hp9
  refine lv_if_ne hx hb d_V_append_34 (tgt := 45) rfl (fun _ => ?_) (fun h9 => absurd h9 (by rw [hro]; decide))
  refine lv_aload_n hx hb d_V_append_45 rfl (lv_at hl 0 rfl) ?_
  refine lv_iload_n hx hb d_V_append_46 rfl (lv_at hl 1 rfl) ?_
  refine lv_lload_n hx hb d_V_append_47 rfl (lv_at hl 2 rfl) ?_
  refine lv_lload hx hb d_V_append_48 (lv_at hl 3 rfl) ?_
  refine jfV (rnV (As := [.int (nI w), .long a, .long b]) (rest := []) hx hb hml hown hE hK (hN _ _ hS) hP hD (v_addPoint l D dA H.size h ad x w a b (show x.jsize ≤ x.jN from by omega) (show 0 < x.jN from by omega) (show x.jN ≤ 65536 from by omega) (show x.jfill + 1 < 2 ^ 31 from by omega) hcr (show w < 256 from by omega) (show x.hsize ≤ x.hN from by omega) (show 0 < x.hN from by omega) (show x.hN ≤ 32768 from by omega)) (q0 := 0) rfl rfl w1166 w1167 w1168 w1169 w277 rfl rfl ⟨⟨by decide, by decide⟩, rfl⟩ ⟨(Nat.le_of_ble_eq_true rfl), (Nat.le_of_ble_eq_true rfl)⟩ rfl hl.1 rfl (Nat.le_of_ble_eq_true rfl) d_V_append_50 ⟨(show 0 + 0 + 0 + 0 + 0 + (6 * (x.jcap - x.jN) + 3 * (x.cmcap a - x.hN)) ≤ 6 * (x.jcap - x.jN) + 3 * (x.cmcap a - x.hN) by omega), (show 0 + 0 + 0 + 0 + 0 + (12 * (x.jcap - x.jN) + 6 * (x.cmcap a - x.hN)) ≤ 12 * (x.jcap - x.jN) + 6 * (x.cmcap a - x.hN) by omega)⟩) hP hD hS hA (fun u10 H locs hp9 hP hD hS => ?_)
  obtain ⟨y11, h9u⟩ : ∃ z9, z9 = u10 := ⟨_, rfl⟩
  subst h9u
  have hP : va_P D vwCl (VW dA h ad y11) H := hP
  have hD : va_D A (VW dA h ad y11) := hD
  have f_e_12 := hp9
  refine lv_aload_n hx hb d_V_append_53 rfl (lv_at hl 0 rfl) ?_
  refine gF (v := .ref (ad 1)) hx hb hown hE hK hP 0 rfl rfl layV 9 (by decide) w576 rfl d_V_append_54 ?_
  refine gFN (v := .int (nI y11.hsize)) hx hb hown hE hK hP 9 rfl rfl layP 3 (by decide) w641 rfl d_V_append_57 ?_
  exact rfI hx hb hr hlk hS y11 ⟨rfl, f_e_12⟩ hP hD (show 0 + 0 + 0 + 0 + 0 + (6 * (x.jcap - x.jN) + 3 * (x.cmcap a - x.hN)) ≤ 6 * (x.jcap - x.jN) + 3 * (x.cmcap a - x.hN) by omega) (show 0 + 0 + 0 + 0 + 0 + (12 * (x.jcap - x.jN) + 6 * (x.cmcap a - x.hN)) ≤ 12 * (x.jcap - x.jN) + 6 * (x.cmcap a - x.hN) by omega) d_V_append_60
end
section
theorem plg {dA : Nat → ClassId} {h : Nat} {ad : Nat → Nat} {x y : VS} {c : Nat × va_E} (fr : va_W) (hm : c ∈ x.pl) : ∃ q : Nat, (fr ++ VWf dA h ad x y)[q]? = some c := List.getElem?_of_mem (List.mem_append_right _ (List.mem_append_right _ (List.mem_append_right _ hm)))
theorem plv {dA : Nat → ClassId} {h : Nat} {ad : Nat → Nat} {x : VS} {c : Nat × va_E} (hm : c ∈ x.pl) : ∃ q : Nat, (VW dA h ad x)[q]? = some c := List.getElem?_of_mem (List.mem_append_right _ (List.mem_append_right _ hm))
section QL
variable {p : Program} {l : Launch} {e : Env} {R : Room} {s : State} {m : MethodId} {args : Array Value} {below : List Frame} {meth : Method} {c : Code} {H : Heap} {locs : List Loc} {cells slots : Nat} {Q : State → Prop}
variable {D : va_G} {dA : Nat → ClassId} {A : Nat → Prop} {cc : ByteArray} {pc : Nat} {ls : Array Slot} {rest st0 : List Value} {ws : va_W} {a : Nat}
theorem nqld (hx : p.tables.exec = Jvm.exec) (hb : c.code = cc) (hK : va_K D vwCl (arT dA) s) (hP : va_P D vwCl ws H) (q0 t0 : Nat) {cA : ClassId} {C : String} {n : Nat} {f : Nat → Option Nat} (ha : ws[q0]? = some (a, .inl (cA, n, .inr (.inr (.inr (.inr f)))))) (ht : (arT dA)[t0]? = some (cA, .object C)) (j : Nat) (hj : j < n) (hn : n < 2 ^ 31) {v : Nat} (hf : f j = some v) (hdg : decode cc pc = .ok (.aaload, 1))
    (kk : W p l e R s m args below meth c H locs cells slots Q (F0 m (pc + 1) ls (.ref v :: rest))) : W p l e R s m args below meth c H locs cells slots Q (F0 m pc ls (.int (nI j) :: .ref a :: rest)) :=
  va_aldq hx hb hK hP q0 t0 ha ht (vp_in_nI hj hn) hdg (by rw [nI_clamp (by omega), hf]; exact kk)
end QL
/-- a parcel: how many points, their series, times, values; chunks, bits, blocks, the newest time -/
abbrev PT : Type := Nat × (Nat → Nat) × (Nat → Int64) × (Nat → Int64) × Nat × Nat × Nat × Int64
abbrev PT.n (P : PT) : Nat := P.1
abbrev PT.o (P : PT) : Nat → Nat := P.2.1
abbrev PT.t (P : PT) : Nat → Int64 := P.2.2.1
abbrev PT.v (P : PT) : Nat → Int64 := P.2.2.2.1
abbrev PT.ch (P : PT) : Nat := P.2.2.2.2.1
abbrev PT.bi (P : PT) : Nat := P.2.2.2.2.2.1
abbrev PT.bl (P : PT) : Nat := P.2.2.2.2.2.2.1
abbrev PT.nw (P : PT) : Int64 := P.2.2.2.2.2.2.2
def isPc (dA : Nat → ClassId) (pl : va_W) (a : Nat) (P : PT) : Prop := ∃ o t v : Nat, (a, .inr (12, [.ref o, .ref t, .ref v, .int (nI P.n), .int (nI P.ch), .int (nI P.bi), .int (nI P.bl), .long P.nw])) ∈ pl ∧ (o, .inl (dA 1, P.n, .inl (fun k => nI (P.o k)))) ∈ pl ∧ (t, .inl (dA 2, P.n, .inr (.inl P.t))) ∈ pl ∧ (v, .inl (dA 2, P.n, .inr (.inl P.v))) ∈ pl
theorem isPc_app {dA : Nat → ClassId} {pl q : va_W} {a : Nat} {P : PT} (h : isPc dA pl a P) : isPc dA (pl ++ q) a P := by
  obtain ⟨o, t, v, h1, h2, h3, h4⟩ := h
  exact ⟨o, t, v, List.mem_append_left _ h1, List.mem_append_left _ h2, List.mem_append_left _ h3, List.mem_append_left _ h4⟩
/-- is point i of a parcel seen -/
def VS.sePc (x : VS) (P : PT) (i : Nat) : Bool := !decide (P.t i < x.nhor) && decide (x.sc1 (P.o i) (P.t i) = none)
/-- no parcel is too large -/
def pcOk (P : PT) : Prop := P.n ≤ 12000 ∧ ∀ i : Nat, i < P.n → P.o i < 256
theorem opI_n {z : Option Nat} (h : opI z = -1) (hz : ∀ k, z = some k → k < 64) : z = none := by
  cases z with
  | none => rfl
  | some k => exact absurd h (nI_nm (by have := hz k rfl; omega))
theorem frst_lt {f : Nat → Bool} : ∀ {n k q : Nat}, frst f n k = some q → q < n + k
  | 0, k, q, h => by cases h
  | n + 1, k, q, h => by
    unfold frst at h
    split at h
    · cases h; omega
    · have := frst_lt h
      omega
theorem d_H_sees_0 : decode prog_9_method_14_code 0 = .ok (.aload_n 1, 1) := by decide +kernel
theorem d_H_sees_1 : decode prog_9_method_14_code 1 = .ok (.getfield 90, 3) := by decide +kernel
theorem d_H_sees_4 : decode prog_9_method_14_code 4 = .ok (.iload_n 2, 1) := by decide +kernel
theorem d_H_sees_5 : decode prog_9_method_14_code 5 = .ok (.laload, 1) := by decide +kernel
theorem d_H_sees_6 : decode prog_9_method_14_code 6 = .ok (.aload_n 0, 1) := by decide +kernel
theorem d_H_sees_7 : decode prog_9_method_14_code 7 = .ok (.getfield 41, 3) := by decide +kernel
theorem d_H_sees_10 : decode prog_9_method_14_code 10 = .ok (.lcmp, 1) := by decide +kernel
theorem d_H_sees_11 : decode prog_9_method_14_code 11 = .ok (.ifCond .lt 27, 3) := by decide +kernel
theorem d_H_sees_38 : decode prog_9_method_14_code 38 = .ok (.iconst 0, 1) := by decide +kernel
theorem d_H_sees_39 : decode prog_9_method_14_code 39 = .ok (.ireturn, 1) := by decide +kernel
theorem d_H_sees_14 : decode prog_9_method_14_code 14 = .ok (.aload_n 0, 1) := by decide +kernel
theorem d_H_sees_15 : decode prog_9_method_14_code 15 = .ok (.aload_n 1, 1) := by decide +kernel
theorem d_H_sees_16 : decode prog_9_method_14_code 16 = .ok (.getfield 87, 3) := by decide +kernel
theorem d_H_sees_19 : decode prog_9_method_14_code 19 = .ok (.iload_n 2, 1) := by decide +kernel
theorem d_H_sees_20 : decode prog_9_method_14_code 20 = .ok (.iaload, 1) := by decide +kernel
theorem d_H_sees_21 : decode prog_9_method_14_code 21 = .ok (.aload_n 1, 1) := by decide +kernel
theorem d_H_sees_22 : decode prog_9_method_14_code 22 = .ok (.getfield 90, 3) := by decide +kernel
theorem d_H_sees_25 : decode prog_9_method_14_code 25 = .ok (.iload_n 2, 1) := by decide +kernel
theorem d_H_sees_26 : decode prog_9_method_14_code 26 = .ok (.laload, 1) := by decide +kernel
theorem d_H_sees_27 : decode prog_9_method_14_code 27 = .ok (.invokevirtual 93, 3) := by decide +kernel
theorem d_H_sees_30 : decode prog_9_method_14_code 30 = .ok (.iconst (-1), 1) := by decide +kernel
theorem d_H_sees_31 : decode prog_9_method_14_code 31 = .ok (.if_icmp .ne 7, 3) := by decide +kernel
theorem d_H_sees_34 : decode prog_9_method_14_code 34 = .ok (.iconst 1, 1) := by decide +kernel
theorem d_H_sees_35 : decode prog_9_method_14_code 35 = .ok (.goto 4, 3) := by decide +kernel
theorem w1170 : Cond.fieldLinkNest "SeriesVault$Shelf" 90 "SeriesVault$Parcel" "times" "[J" "SeriesVault" ∈ aW := aw_of (tb_6 (List.mem_of_getElem? (i := 49) rfl)) rfl
theorem w1171 : Cond.fieldLinkNest "SeriesVault$Shelf" 87 "SeriesVault$Parcel" "owners" "[I" "SeriesVault" ∈ aW := aw_of (tb_6 (List.mem_of_getElem? (i := 46) rfl)) rfl
theorem w1172 : Cond.methodLink "SeriesVault$Shelf" 93 ⟨"SeriesVault$Shelf", "scarOf", "(IJ)I"⟩ ∈ aW := aw_of (tb_5 (List.mem_of_getElem? (i := 193) rfl)) rfl
theorem w1173 : Cond.code ⟨"SeriesVault$Shelf", "scarOf", "(IJ)I"⟩ prog_9_method_11_code 5 (some FieldType.int) ∈ aW := aw_of (tb_5 (List.mem_of_getElem? (i := 196) rfl)) rfl
theorem w1174 : Cond.instanceMethod ⟨"SeriesVault$Shelf", "scarOf", "(IJ)I"⟩ ∈ aW := aw_of (tb_5 (List.mem_of_getElem? (i := 195) rfl)) rfl
theorem w1175 : Cond.selects "SeriesVault$Shelf" ⟨"SeriesVault$Shelf", "scarOf", "(IJ)I"⟩ ⟨"SeriesVault$Shelf", "scarOf", "(IJ)I"⟩ ∈ aW := aw_pr (List.mem_map.mpr ⟨_, pv_2 (List.mem_of_getElem? (i := 8) rfl), rfl⟩) rfl
set_option maxHeartbeats 4000000 in
set_option maxRecDepth 100000 in
theorem v_sees (l : Launch) (D : va_G) (dA : Nat → ClassId) (sz : Nat) (h : Nat) (ad : Nat → Nat) (x : VS) (pp : Nat) (P : PT) (i : Nat) (hpp : isPc dA x.pl pp P) (hpk : pcOk P) (h1 : x.nsc ≤ 64) (h7 : ∀ q : Nat, q < x.nsc → x.nsO q < 2 ^ 31) (hi : i < P.n) : Met l ⟨"SeriesVault$Shelf", "sees", "(LSeriesVault$Parcel;I)Z"⟩ [Cond.code ⟨"SeriesVault$Shelf", "sees", "(LSeriesVault$Parcel;I)Z"⟩ prog_9_method_14_code 3 (some FieldType.boolean)] { frames := 2, cells := 0, slots := 0, locals := 24 } (pC D dA [.ref (ad 3), .ref pp, .int (nI i)] (VW dA h ad x) sz) (va_Qi (fun (r9 : Int32) (u9 : Unit) => r9 = bI (x.sePc P i)) (fun (u9 : Unit) t9 => bW D (va_A (VW dA h ad x) sz) (VW dA h ad x) t9) (va_A (VW dA h ad x) sz)) 0 0 (va_A (VW dA h ad x) sz) := by
  refine mkC (y := ⟨"SeriesVault$Shelf", "sees", "(LSeriesVault$Parcel;I)Z"⟩) (cc := prog_9_method_14_code) (maxL := 3) (av := [.ref (ad 3), .ref pp, .int (nI i)]) (ws := VW dA h ad x) (sz := sz) (Qc := fun A => va_Qi (fun (r9 : Int32) (u9 : Unit) => r9 = bI (x.sePc P i)) (fun (u9 : Unit) t9 => bW D A (VW dA h ad x) t9) A) (by decide) (Nat.le_of_ble_eq_true rfl) ?_
  intro A p e s m below meth c ls hsz hB
  obtain ⟨hx, hb, hr, hml, hown, hin, hlk, hE, hK, hP, hD, hS, hA, hN, hl⟩ := hB
  have hown : s.vm.findClass "SeriesVault$Shelf" = some m.cls := hown
  have hl : lv_has ls 3 [(0, .ref (ad 3)), (1, .ref pp), (2, .int (nI i))] := hl
  obtain ⟨H, hH⟩ : ∃ z, z = s.heap := ⟨_, rfl⟩
  have hP : va_P D vwCl (VW dA h ad x) H := by rw [hH]; exact hP
  have hS : va_S A s.heap H [] := by rw [hH]; exact hS
  rw [← hH]
  obtain ⟨po, pt, pv, m1, m2, m3, m4⟩ := hpp
  have pk1 := hpk.1
  have pk2 := hpk.2
  have pk3 := pk2 i hi
  refine lv_aload_n hx hb d_H_sees_0 rfl (lv_at hl 1 rfl) ?_
  obtain ⟨qp1, ep2⟩ := plv (dA := dA) (h := h) (ad := ad) (x := x) m1
  refine gFN (v := .ref pt) hx hb hown hE hK hP qp1 ep2 rfl layC 1 (by decide) w1170 rfl d_H_sees_1 ?_
  refine lv_iload_n hx hb d_H_sees_4 rfl (lv_at hl 2 rfl) ?_
  obtain ⟨qp3, ep4⟩ := plv (dA := dA) (h := h) (ad := ad) (x := x) m3
  refine nlld (f := P.t) (n := P.n) hx hb hK hP qp3 2 ep4 rfl (i) (by omega) (by omega) d_H_sees_5 ?_
  refine lv_aload_n hx hb d_H_sees_6 rfl (lv_at hl 0 rfl) ?_
  refine gF (v := .long x.nhor) hx hb hown hE hK hP 17 rfl rfl layH 7 (by decide) w568 rfl d_H_sees_7 ?_
  refine W.lcmp hx hb d_H_sees_10 ?_
  refine lv_if_lt hx hb d_H_sees_11 (tgt := 38) rfl (fun g5 => ?_) (fun g5 => ?_)
  · have g5 := (lg_cmp_lt _ _).mp g5
    refine lv_iconst (v := 0) hx hb d_H_sees_38 (by decide) ?_
    exact rfZ hx hb hr (bI_nar false) hlk hS () (by unfold VS.sePc; rw [decide_eq_true g5]; rfl) hP hD (Nat.le_of_ble_eq_true rfl) (Nat.le_of_ble_eq_true rfl) d_H_sees_39
  · have g5 := mt (lg_cmp_lt _ _).mpr g5
    refine lv_aload_n hx hb d_H_sees_14 rfl (lv_at hl 0 rfl) ?_
    refine lv_aload_n hx hb d_H_sees_15 rfl (lv_at hl 1 rfl) ?_
    obtain ⟨qp6, ep7⟩ := plv (dA := dA) (h := h) (ad := ad) (x := x) m1
    refine gFN (v := .ref po) hx hb hown hE hK hP qp6 ep7 rfl layC 0 (by decide) w1171 rfl d_H_sees_16 ?_
    refine lv_iload_n hx hb d_H_sees_19 rfl (lv_at hl 2 rfl) ?_
    obtain ⟨qp8, ep9⟩ := plv (dA := dA) (h := h) (ad := ad) (x := x) m2
    refine nild (f := (fun k => nI (P.o k))) (n := P.n) hx hb hK hP qp8 1 ep9 rfl (i) (by omega) (by omega) d_H_sees_20 ?_
    refine lv_aload_n hx hb d_H_sees_21 rfl (lv_at hl 1 rfl) ?_
    obtain ⟨qp10, ep11⟩ := plv (dA := dA) (h := h) (ad := ad) (x := x) m1
    refine gFN (v := .ref pt) hx hb hown hE hK hP qp10 ep11 rfl layC 1 (by decide) w1170 rfl d_H_sees_22 ?_
    refine lv_iload_n hx hb d_H_sees_25 rfl (lv_at hl 2 rfl) ?_
    obtain ⟨qp12, ep13⟩ := plv (dA := dA) (h := h) (ad := ad) (x := x) m3
    refine nlld (f := P.t) (n := P.n) hx hb hK hP qp12 2 ep13 rfl (i) (by omega) (by omega) d_H_sees_26 ?_
    refine jfI (rnV (As := [.int (nI (P.o i)), .long (P.t i)]) (rest := []) hx hb hml hown hE hK (hN _ _ hS) hP hD (v_scarOf l D dA H.size h ad x (P.o i) (P.t i) (show x.nsc ≤ 64 from by omega) (show (P.o i) < 2 ^ 31 from by omega) h7) (q0 := 17) rfl rfl w1173 w1172 w1174 w1175 w583 rfl rfl ⟨⟨by decide, by decide⟩, rfl⟩ ⟨(Nat.le_of_ble_eq_true rfl), (Nat.le_of_ble_eq_true rfl)⟩ rfl hl.1 rfl (Nat.le_of_ble_eq_true rfl) d_H_sees_27 ⟨(Nat.le_of_ble_eq_true rfl), (Nat.le_of_ble_eq_true rfl)⟩) hP hD hS hA (fun r14 u15 H locs hp9 hP hD hS => ?_)
    have hP : va_P D vwCl (VW dA h ad x) H := hP
    have hD : va_D A (VW dA h ad x) := hD
    replace hp9 : opI (x.sc1 (P.o i) (P.t i)) = r14 := Eq.symm hp9
    subst hp9
    refine lv_iconst (v := (-1)) hx hb d_H_sees_30 (by decide) ?_
    refine lv_icmp_ne hx hb d_H_sees_31 (tgt := 38) rfl (fun g16 => ?_) (fun g16 => ?_)
    · have g16 := g16
      refine lv_iconst (v := 0) hx hb d_H_sees_38 (by decide) ?_
      exact rfZ hx hb hr (bI_nar false) hlk hS () (by unfold VS.sePc; rw [decide_eq_false g5, decide_eq_false (fun z9 => g16 (by rw [z9]; rfl))]; rfl) hP hD (Nat.le_of_ble_eq_true rfl) (Nat.le_of_ble_eq_true rfl) d_H_sees_39
    · have g16 := g16
      refine lv_iconst (v := 1) hx hb d_H_sees_34 (by decide) ?_
      refine lv_goto hx hb d_H_sees_35 (tgt := 39) rfl ?_
      exact rfZ hx hb hr (bI_nar true) hlk hS () (by unfold VS.sePc; rw [decide_eq_false g5, decide_eq_true (opI_n g16 (fun k hk => by have := frst_lt hk; omega))]; rfl) hP hD (Nat.le_of_ble_eq_true rfl) (Nat.le_of_ble_eq_true rfl) d_H_sees_39
end
section
/-- seen, and no later than a time; seen, of a series, within times -/
def VS.siPc (x : VS) (P : PT) (a : Int64) (i : Nat) : Bool := !decide (a < P.t i) && x.sePc P i
def VS.soPc (x : VS) (P : PT) (w : Nat) (a b : Int64) (i : Nat) : Bool := decide (P.o i = w) && (!decide (P.t i < a) && (!decide (b < P.t i) && x.sePc P i))
/-- the parcels of a shelf -/
def psOk (dA : Nat → ClassId) (nP : Nat → Option Nat) (n : Nat) (pl : va_W) (PS : Nat → PT) : Prop := ∀ k : Nat, k < n → ∃ pp : Nat, nP k = some pp ∧ isPc dA pl pp (PS k) ∧ pcOk (PS k)
def VS.sbN (x : VS) (PS : Nat → PT) (a : Int64) (k : Nat) : Nat := cnt (PS k).n (x.siPc (PS k) a)
def VS.soN (x : VS) (PS : Nat → PT) (w : Nat) (a b : Int64) (k : Nat) : Nat := cnt (PS k).n (x.soPc (PS k) w a b)
def blN (PS : Nat → PT) (k : Nat) : Nat := (PS k).bl
theorem d_H_countSeenIn_0 : decode prog_9_method_16_code 0 = .ok (.iconst 0, 1) := by decide +kernel
theorem d_H_countSeenIn_1 : decode prog_9_method_16_code 1 = .ok (.istore 4, 2) := by decide +kernel
theorem d_H_countSeenIn_3 : decode prog_9_method_16_code 3 = .ok (.iconst 0, 1) := by decide +kernel
theorem d_H_countSeenIn_4 : decode prog_9_method_16_code 4 = .ok (.istore 5, 2) := by decide +kernel
theorem d_H_countSeenIn_6 : decode prog_9_method_16_code 6 = .ok (.iload 5, 2) := by decide +kernel
theorem d_H_countSeenIn_8 : decode prog_9_method_16_code 8 = .ok (.aload_n 1, 1) := by decide +kernel
theorem d_H_countSeenIn_9 : decode prog_9_method_16_code 9 = .ok (.getfield 84, 3) := by decide +kernel
theorem d_H_countSeenIn_12 : decode prog_9_method_16_code 12 = .ok (.if_icmp .ge 34, 3) := by decide +kernel
theorem d_H_countSeenIn_46 : decode prog_9_method_16_code 46 = .ok (.iload 4, 2) := by decide +kernel
theorem d_H_countSeenIn_48 : decode prog_9_method_16_code 48 = .ok (.ireturn, 1) := by decide +kernel
theorem d_H_countSeenIn_15 : decode prog_9_method_16_code 15 = .ok (.aload_n 1, 1) := by decide +kernel
theorem d_H_countSeenIn_16 : decode prog_9_method_16_code 16 = .ok (.getfield 90, 3) := by decide +kernel
theorem d_H_countSeenIn_19 : decode prog_9_method_16_code 19 = .ok (.iload 5, 2) := by decide +kernel
theorem d_H_countSeenIn_21 : decode prog_9_method_16_code 21 = .ok (.laload, 1) := by decide +kernel
theorem d_H_countSeenIn_22 : decode prog_9_method_16_code 22 = .ok (.lload_n 2, 1) := by decide +kernel
theorem d_H_countSeenIn_23 : decode prog_9_method_16_code 23 = .ok (.lcmp, 1) := by decide +kernel
theorem d_H_countSeenIn_24 : decode prog_9_method_16_code 24 = .ok (.ifCond .gt 16, 3) := by decide +kernel
theorem d_H_countSeenIn_40 : decode prog_9_method_16_code 40 = .ok (.iinc 5 1, 3) := by decide +kernel
theorem d_H_countSeenIn_43 : decode prog_9_method_16_code 43 = .ok (.goto (-37), 3) := by decide +kernel
theorem d_H_countSeenIn_27 : decode prog_9_method_16_code 27 = .ok (.aload_n 0, 1) := by decide +kernel
theorem d_H_countSeenIn_28 : decode prog_9_method_16_code 28 = .ok (.aload_n 1, 1) := by decide +kernel
theorem d_H_countSeenIn_29 : decode prog_9_method_16_code 29 = .ok (.iload 5, 2) := by decide +kernel
theorem d_H_countSeenIn_31 : decode prog_9_method_16_code 31 = .ok (.invokevirtual 103, 3) := by decide +kernel
theorem d_H_countSeenIn_34 : decode prog_9_method_16_code 34 = .ok (.ifCond .eq 6, 3) := by decide +kernel
theorem d_H_countSeenIn_37 : decode prog_9_method_16_code 37 = .ok (.iinc 4 1, 3) := by decide +kernel
theorem w1176 : Cond.fieldLinkNest "SeriesVault$Shelf" 84 "SeriesVault$Parcel" "size" "I" "SeriesVault" ∈ aW := aw_of (tb_6 (List.mem_of_getElem? (i := 55) rfl)) rfl
theorem w1177 : Cond.methodLink "SeriesVault$Shelf" 103 ⟨"SeriesVault$Shelf", "sees", "(LSeriesVault$Parcel;I)Z"⟩ ∈ aW := aw_of (tb_5 (List.mem_of_getElem? (i := 189) rfl)) rfl
theorem w1178 : Cond.code ⟨"SeriesVault$Shelf", "sees", "(LSeriesVault$Parcel;I)Z"⟩ prog_9_method_14_code 3 (some FieldType.boolean) ∈ aW := aw_of (tb_5 (List.mem_of_getElem? (i := 192) rfl)) rfl
theorem w1179 : Cond.instanceMethod ⟨"SeriesVault$Shelf", "sees", "(LSeriesVault$Parcel;I)Z"⟩ ∈ aW := aw_of (tb_5 (List.mem_of_getElem? (i := 190) rfl)) rfl
theorem w1180 : Cond.selects "SeriesVault$Shelf" ⟨"SeriesVault$Shelf", "sees", "(LSeriesVault$Parcel;I)Z"⟩ ⟨"SeriesVault$Shelf", "sees", "(LSeriesVault$Parcel;I)Z"⟩ ∈ aW := aw_of (tb_5 (List.mem_of_getElem? (i := 191) rfl)) rfl
set_option maxHeartbeats 4000000 in
set_option maxRecDepth 100000 in
theorem v_countSeenIn (l : Launch) (D : va_G) (dA : Nat → ClassId) (sz : Nat) (h : Nat) (ad : Nat → Nat) (x : VS) (pp : Nat) (P : PT) (a : Int64) (hpp : isPc dA x.pl pp P) (hpk : pcOk P) (h1 : x.nsc ≤ 64) (h7 : ∀ q : Nat, q < x.nsc → x.nsO q < 2 ^ 31) : Met l ⟨"SeriesVault$Shelf", "countSeenIn", "(LSeriesVault$Parcel;J)I"⟩ [Cond.code ⟨"SeriesVault$Shelf", "countSeenIn", "(LSeriesVault$Parcel;J)I"⟩ prog_9_method_16_code 6 (some FieldType.int)] { frames := 3, cells := 0, slots := 0, locals := 46 } (pC D dA [.ref (ad 3), .ref pp, .long a] (VW dA h ad x) sz) (va_Qi (fun (r9 : Int32) (u9 : Unit) => r9 = nI (cnt P.n (x.siPc P a))) (fun (u9 : Unit) t9 => bW D (va_A (VW dA h ad x) sz) (VW dA h ad x) t9) (va_A (VW dA h ad x) sz)) 0 0 (va_A (VW dA h ad x) sz) := by
  refine mkC (y := ⟨"SeriesVault$Shelf", "countSeenIn", "(LSeriesVault$Parcel;J)I"⟩) (cc := prog_9_method_16_code) (maxL := 6) (av := [.ref (ad 3), .ref pp, .long a]) (ws := VW dA h ad x) (sz := sz) (Qc := fun A => va_Qi (fun (r9 : Int32) (u9 : Unit) => r9 = nI (cnt P.n (x.siPc P a))) (fun (u9 : Unit) t9 => bW D A (VW dA h ad x) t9) A) (by decide) (Nat.le_of_ble_eq_true rfl) ?_
  intro A p e s m below meth c ls hsz hB
  obtain ⟨hx, hb, hr, hml, hown, hin, hlk, hE, hK, hP, hD, hS, hA, hN, hl⟩ := hB
  have hown : s.vm.findClass "SeriesVault$Shelf" = some m.cls := hown
  have hl : lv_has ls 6 [(0, .ref (ad 3)), (1, .ref pp), (2, .long a)] := hl
  obtain ⟨H, hH⟩ : ∃ z, z = s.heap := ⟨_, rfl⟩
  have hP : va_P D vwCl (VW dA h ad x) H := by rw [hH]; exact hP
  have hS : va_S A s.heap H [] := by rw [hH]; exact hS
  rw [← hH]
  have pk1 := hpk.1
  have pk2 := hpk.2
  have hpp0 := hpp
  obtain ⟨po, pt, pv, m1, m2, m3, m4⟩ := hpp
  refine lv_iconst (v := 0) hx hb d_H_countSeenIn_0 (by decide) ?_
  refine lv_istore hx hb d_H_countSeenIn_1 hl (by decide) rfl (fun ls hl => ?_)
  have hl : lv_has ls 6 [(4, .int 0), (0, .ref (ad 3)), (1, .ref pp), (2, .long a)] := hl
  refine lv_iconst (v := 0) hx hb d_H_countSeenIn_3 (by decide) ?_
  refine lv_istore hx hb d_H_countSeenIn_4 hl (by decide) rfl (fun ls hl => ?_)
  have hl : lv_has ls 6 [(5, .int 0), (4, .int 0), (0, .ref (ad 3)), (1, .ref pp), (2, .long a)] := hl
  have L6 : ∀ (k9 : Nat) (i : Nat) (n : Nat) (i1 : i ≤ P.n) (i2 : n = cnt i (x.siPc P a)) (i3 : n ≤ i) (hk9 : P.n - i = k9), ∀ (H : Heap) (locs : List Loc) (ls : Array Slot) (hP : va_P D vwCl (VW dA h ad x) H) (hD : va_D A (VW dA h ad x)) (hS : va_S A s.heap H locs) (hl : lv_has ls 6 [(4, .int (nI n)), (5, .int (nI i)), (1, .ref pp), (2, .long a), (0, .ref (ad 3))]), W p l e ({ frames := 3, cells := 0, slots := 0, locals := 46 } : Room) s m ([.ref (ad 3), .ref pp, .long a] : List Value).toArray below meth c H locs 0 0 (MQ below (va_Qi (fun (r9 : Int32) (u9 : Unit) => r9 = nI (cnt P.n (x.siPc P a))) (fun (u9 : Unit) t9 => bW D A (VW dA h ad x) t9) A) ([.ref (ad 3), .ref pp, .long a] : List Value).toArray s 0 0 A) (F0 m 6 ls []) := by
    intro k9
    induction k9 using Nat.strongRecOn with
    | ind k9 ih6 =>
      intro i n i1 i2 i3 hk9 H locs ls hP hD hS hl
      refine lv_iload hx hb d_H_countSeenIn_6 (lv_at hl 1 rfl) ?_
      refine lv_aload_n hx hb d_H_countSeenIn_8 rfl (lv_at hl 2 rfl) ?_
      obtain ⟨qp1, ep2⟩ := plv (dA := dA) (h := h) (ad := ad) (x := x) m1
      refine gFN (v := .int (nI P.n)) hx hb hown hE hK hP qp1 ep2 rfl layC 3 (by decide) w1176 rfl d_H_countSeenIn_9 ?_
      refine lv_icmp_ge hx hb d_H_countSeenIn_12 (tgt := 46) rfl (fun g3 => ?_) (fun g3 => ?_)
      · have g3 := (nI_leI (a := P.n) (b := i) (by omega) (by omega)).mp g3
        refine lv_iload hx hb d_H_countSeenIn_46 (lv_at hl 0 rfl) ?_
        exact rfI hx hb hr hlk hS () (by rw [i2, show i = P.n by omega]) hP hD (Nat.le_of_ble_eq_true rfl) (Nat.le_of_ble_eq_true rfl) d_H_countSeenIn_48
      · have g3 := mt (nI_leI (a := P.n) (b := i) (by omega) (by omega)).mpr g3
        refine lv_aload_n hx hb d_H_countSeenIn_15 rfl (lv_at hl 2 rfl) ?_
        obtain ⟨qp4, ep5⟩ := plv (dA := dA) (h := h) (ad := ad) (x := x) m1
        refine gFN (v := .ref pt) hx hb hown hE hK hP qp4 ep5 rfl layC 1 (by decide) w1170 rfl d_H_countSeenIn_16 ?_
        refine lv_iload hx hb d_H_countSeenIn_19 (lv_at hl 1 rfl) ?_
        obtain ⟨qp6, ep7⟩ := plv (dA := dA) (h := h) (ad := ad) (x := x) m3
        refine nlld (f := P.t) (n := P.n) hx hb hK hP qp6 2 ep7 rfl (i) (by omega) (by omega) d_H_countSeenIn_21 ?_
        refine lv_lload_n hx hb d_H_countSeenIn_22 rfl (lv_at hl 3 rfl) ?_
        refine W.lcmp hx hb d_H_countSeenIn_23 ?_
        refine lv_if_gt hx hb d_H_countSeenIn_24 (tgt := 40) rfl (fun g8 => ?_) (fun g8 => ?_)
        · have g8 := (lg_cmp_gt _ _).mp g8
          refine lv_iinc (k := 1) (v := nI (i + 1)) hx hb d_H_countSeenIn_40 hl rfl (iincN (i) 1 1 (by decide)) (by decide) rfl (fun ls hl => ?_)
          have hl : lv_has ls 6 [(5, .int (nI (i + 1))), (4, .int (nI n)), (1, .ref pp), (2, .long a), (0, .ref (ad 3))] := hl
          refine lv_goto hx hb d_H_countSeenIn_43 (tgt := 6) rfl ?_
          exact ih6 _ (by omega) (i + 1) n (by omega) (by rw [cnt_f (show x.siPc P a i = false by unfold VS.siPc; rw [decide_eq_true g8]; rfl), i2]) (by omega) rfl H _ ls hP hD hS (lv_sub hl [1, 0, 2, 3, 4] rfl)
        · have g8 := mt (lg_cmp_gt _ _).mpr g8
          refine lv_aload_n hx hb d_H_countSeenIn_27 rfl (lv_at hl 4 rfl) ?_
          refine lv_aload_n hx hb d_H_countSeenIn_28 rfl (lv_at hl 2 rfl) ?_
          refine lv_iload hx hb d_H_countSeenIn_29 (lv_at hl 1 rfl) ?_
          refine jfI (rnV (As := [.ref pp, .int (nI i)]) (rest := []) hx hb hml hown hE hK (hN _ _ hS) hP hD (v_sees l D dA H.size h ad x pp P i hpp0 hpk (show x.nsc ≤ 64 from by omega) h7 (show i < P.n from by omega)) (q0 := 17) rfl rfl w1178 w1177 w1179 w1180 w583 rfl rfl ⟨⟨by decide, by decide⟩, rfl⟩ ⟨(Nat.le_of_ble_eq_true rfl), (Nat.le_of_ble_eq_true rfl)⟩ rfl hl.1 rfl (Nat.le_of_ble_eq_true rfl) d_H_countSeenIn_31 ⟨(Nat.le_of_ble_eq_true rfl), (Nat.le_of_ble_eq_true rfl)⟩) hP hD hS hA (fun r9 u10 H locs hp9 hP hD hS => ?_)
          have hP : va_P D vwCl (VW dA h ad x) H := hP
          have hD : va_D A (VW dA h ad x) := hD
          replace hp9 : bI (x.sePc P i) = r9 := Eq.symm hp9
          subst hp9
          refine lv_if_eq hx hb d_H_countSeenIn_34 (tgt := 40) rfl (fun g11 => ?_) (fun g11 => ?_)
          · have g11 := bI_0 g11
            refine lv_iinc (k := 1) (v := nI (i + 1)) hx hb d_H_countSeenIn_40 hl rfl (iincN (i) 1 1 (by decide)) (by decide) rfl (fun ls hl => ?_)
            have hl : lv_has ls 6 [(5, .int (nI (i + 1))), (4, .int (nI n)), (1, .ref pp), (2, .long a), (0, .ref (ad 3))] := hl
            refine lv_goto hx hb d_H_countSeenIn_43 (tgt := 6) rfl ?_
            exact ih6 _ (by omega) (i + 1) n (by omega) (by rw [cnt_f (show x.siPc P a i = false by unfold VS.siPc; rw [g11, Bool.and_false]), i2]) (by omega) rfl H _ ls hP hD hS (lv_sub hl [1, 0, 2, 3, 4] rfl)
          · have g11 := bI_n0 g11
            refine lv_iinc (k := 0) (v := nI (n + 1)) hx hb d_H_countSeenIn_37 hl rfl (iincN (n) 1 1 (by decide)) (by decide) rfl (fun ls hl => ?_)
            have hl : lv_has ls 6 [(4, .int (nI (n + 1))), (5, .int (nI i)), (1, .ref pp), (2, .long a), (0, .ref (ad 3))] := hl
            refine lv_iinc (k := 1) (v := nI (i + 1)) hx hb d_H_countSeenIn_40 hl rfl (iincN (i) 1 1 (by decide)) (by decide) rfl (fun ls hl => ?_)
            have hl : lv_has ls 6 [(5, .int (nI (i + 1))), (4, .int (nI (n + 1))), (1, .ref pp), (2, .long a), (0, .ref (ad 3))] := hl
            refine lv_goto hx hb d_H_countSeenIn_43 (tgt := 6) rfl ?_
            exact ih6 _ (by omega) (i + 1) (n + 1) (by omega) (by rw [cnt_t (show x.siPc P a i = true by unfold VS.siPc; rw [decide_eq_false g8, g11]; rfl), i2]) (by omega) rfl H _ ls hP hD hS (lv_sub hl [1, 0, 2, 3, 4] rfl)
  exact L6 _ 0 0 (Nat.zero_le _) rfl (Nat.le_refl _) rfl H _ ls hP hD hS (lv_sub hl [1, 0, 3, 4, 2] rfl)
theorem d_H_countSeenOfOwner_0 : decode prog_9_method_20_code 0 = .ok (.iconst 0, 1) := by decide +kernel
theorem d_H_countSeenOfOwner_1 : decode prog_9_method_20_code 1 = .ok (.istore 7, 2) := by decide +kernel
theorem d_H_countSeenOfOwner_3 : decode prog_9_method_20_code 3 = .ok (.iconst 0, 1) := by decide +kernel
theorem d_H_countSeenOfOwner_4 : decode prog_9_method_20_code 4 = .ok (.istore 8, 2) := by decide +kernel
theorem d_H_countSeenOfOwner_6 : decode prog_9_method_20_code 6 = .ok (.iload 8, 2) := by decide +kernel
theorem d_H_countSeenOfOwner_8 : decode prog_9_method_20_code 8 = .ok (.aload_n 1, 1) := by decide +kernel
theorem d_H_countSeenOfOwner_9 : decode prog_9_method_20_code 9 = .ok (.getfield 84, 3) := by decide +kernel
theorem d_H_countSeenOfOwner_12 : decode prog_9_method_20_code 12 = .ok (.if_icmp .ge 57, 3) := by decide +kernel
theorem d_H_countSeenOfOwner_69 : decode prog_9_method_20_code 69 = .ok (.iload 7, 2) := by decide +kernel
theorem d_H_countSeenOfOwner_71 : decode prog_9_method_20_code 71 = .ok (.ireturn, 1) := by decide +kernel
theorem d_H_countSeenOfOwner_15 : decode prog_9_method_20_code 15 = .ok (.aload_n 1, 1) := by decide +kernel
theorem d_H_countSeenOfOwner_16 : decode prog_9_method_20_code 16 = .ok (.getfield 90, 3) := by decide +kernel
theorem d_H_countSeenOfOwner_19 : decode prog_9_method_20_code 19 = .ok (.iload 8, 2) := by decide +kernel
theorem d_H_countSeenOfOwner_21 : decode prog_9_method_20_code 21 = .ok (.laload, 1) := by decide +kernel
theorem d_H_countSeenOfOwner_22 : decode prog_9_method_20_code 22 = .ok (.lstore 9, 2) := by decide +kernel
theorem d_H_countSeenOfOwner_24 : decode prog_9_method_20_code 24 = .ok (.aload_n 1, 1) := by decide +kernel
theorem d_H_countSeenOfOwner_25 : decode prog_9_method_20_code 25 = .ok (.getfield 87, 3) := by decide +kernel
theorem d_H_countSeenOfOwner_28 : decode prog_9_method_20_code 28 = .ok (.iload 8, 2) := by decide +kernel
theorem d_H_countSeenOfOwner_30 : decode prog_9_method_20_code 30 = .ok (.iaload, 1) := by decide +kernel
theorem d_H_countSeenOfOwner_31 : decode prog_9_method_20_code 31 = .ok (.iload_n 2, 1) := by decide +kernel
theorem d_H_countSeenOfOwner_32 : decode prog_9_method_20_code 32 = .ok (.if_icmp .ne 31, 3) := by decide +kernel
theorem d_H_countSeenOfOwner_63 : decode prog_9_method_20_code 63 = .ok (.iinc 8 1, 3) := by decide +kernel
theorem d_H_countSeenOfOwner_66 : decode prog_9_method_20_code 66 = .ok (.goto (-60), 3) := by decide +kernel
theorem d_H_countSeenOfOwner_35 : decode prog_9_method_20_code 35 = .ok (.lload 9, 2) := by decide +kernel
theorem d_H_countSeenOfOwner_37 : decode prog_9_method_20_code 37 = .ok (.lload_n 3, 1) := by decide +kernel
theorem d_H_countSeenOfOwner_38 : decode prog_9_method_20_code 38 = .ok (.lcmp, 1) := by decide +kernel
theorem d_H_countSeenOfOwner_39 : decode prog_9_method_20_code 39 = .ok (.ifCond .lt 24, 3) := by decide +kernel
theorem d_H_countSeenOfOwner_42 : decode prog_9_method_20_code 42 = .ok (.lload 9, 2) := by decide +kernel
theorem d_H_countSeenOfOwner_44 : decode prog_9_method_20_code 44 = .ok (.lload 5, 2) := by decide +kernel
theorem d_H_countSeenOfOwner_46 : decode prog_9_method_20_code 46 = .ok (.lcmp, 1) := by decide +kernel
theorem d_H_countSeenOfOwner_47 : decode prog_9_method_20_code 47 = .ok (.ifCond .gt 16, 3) := by decide +kernel
theorem d_H_countSeenOfOwner_50 : decode prog_9_method_20_code 50 = .ok (.aload_n 0, 1) := by decide +kernel
theorem d_H_countSeenOfOwner_51 : decode prog_9_method_20_code 51 = .ok (.aload_n 1, 1) := by decide +kernel
theorem d_H_countSeenOfOwner_52 : decode prog_9_method_20_code 52 = .ok (.iload 8, 2) := by decide +kernel
theorem d_H_countSeenOfOwner_54 : decode prog_9_method_20_code 54 = .ok (.invokevirtual 103, 3) := by decide +kernel
theorem d_H_countSeenOfOwner_57 : decode prog_9_method_20_code 57 = .ok (.ifCond .eq 6, 3) := by decide +kernel
theorem d_H_countSeenOfOwner_60 : decode prog_9_method_20_code 60 = .ok (.iinc 7 1, 3) := by decide +kernel
set_option maxHeartbeats 4000000 in
set_option maxRecDepth 100000 in
theorem v_countSeenOfOwner (l : Launch) (D : va_G) (dA : Nat → ClassId) (sz : Nat) (h : Nat) (ad : Nat → Nat) (x : VS) (pp : Nat) (P : PT) (w : Nat) (a : Int64) (b : Int64) (hpp : isPc dA x.pl pp P) (hpk : pcOk P) (h1 : x.nsc ≤ 64) (h7 : ∀ q : Nat, q < x.nsc → x.nsO q < 2 ^ 31) (hw : w < 256) : Met l ⟨"SeriesVault$Shelf", "countSeenOfOwner", "(LSeriesVault$Parcel;IJJ)I"⟩ [Cond.code ⟨"SeriesVault$Shelf", "countSeenOfOwner", "(LSeriesVault$Parcel;IJJ)I"⟩ prog_9_method_20_code 11 (some FieldType.int)] { frames := 3, cells := 0, slots := 0, locals := 46 } (pC D dA [.ref (ad 3), .ref pp, .int (nI w), .long a, .long b] (VW dA h ad x) sz) (va_Qi (fun (r9 : Int32) (u9 : Unit) => r9 = nI (cnt P.n (x.soPc P w a b))) (fun (u9 : Unit) t9 => bW D (va_A (VW dA h ad x) sz) (VW dA h ad x) t9) (va_A (VW dA h ad x) sz)) 0 0 (va_A (VW dA h ad x) sz) := by
  refine mkC (y := ⟨"SeriesVault$Shelf", "countSeenOfOwner", "(LSeriesVault$Parcel;IJJ)I"⟩) (cc := prog_9_method_20_code) (maxL := 11) (av := [.ref (ad 3), .ref pp, .int (nI w), .long a, .long b]) (ws := VW dA h ad x) (sz := sz) (Qc := fun A => va_Qi (fun (r9 : Int32) (u9 : Unit) => r9 = nI (cnt P.n (x.soPc P w a b))) (fun (u9 : Unit) t9 => bW D A (VW dA h ad x) t9) A) (by decide) (Nat.le_of_ble_eq_true rfl) ?_
  intro A p e s m below meth c ls hsz hB
  obtain ⟨hx, hb, hr, hml, hown, hin, hlk, hE, hK, hP, hD, hS, hA, hN, hl⟩ := hB
  have hown : s.vm.findClass "SeriesVault$Shelf" = some m.cls := hown
  have hl : lv_has ls 11 [(0, .ref (ad 3)), (1, .ref pp), (2, .int (nI w)), (3, .long a), (5, .long b)] := hl
  obtain ⟨H, hH⟩ : ∃ z, z = s.heap := ⟨_, rfl⟩
  have hP : va_P D vwCl (VW dA h ad x) H := by rw [hH]; exact hP
  have hS : va_S A s.heap H [] := by rw [hH]; exact hS
  rw [← hH]
  have pk1 := hpk.1
  have pk2 := hpk.2
  have hpp0 := hpp
  obtain ⟨po, pt, pv, m1, m2, m3, m4⟩ := hpp
  refine lv_iconst (v := 0) hx hb d_H_countSeenOfOwner_0 (by decide) ?_
  refine lv_istore hx hb d_H_countSeenOfOwner_1 hl (by decide) rfl (fun ls hl => ?_)
  have hl : lv_has ls 11 [(7, .int 0), (0, .ref (ad 3)), (1, .ref pp), (2, .int (nI w)), (3, .long a), (5, .long b)] := hl
  refine lv_iconst (v := 0) hx hb d_H_countSeenOfOwner_3 (by decide) ?_
  refine lv_istore hx hb d_H_countSeenOfOwner_4 hl (by decide) rfl (fun ls hl => ?_)
  have hl : lv_has ls 11 [(8, .int 0), (7, .int 0), (0, .ref (ad 3)), (1, .ref pp), (2, .int (nI w)), (3, .long a), (5, .long b)] := hl
  have L6 : ∀ (k9 : Nat) (i : Nat) (n : Nat) (i1 : i ≤ P.n) (i2 : n = cnt i (x.soPc P w a b)) (i3 : n ≤ i) (hk9 : P.n - i = k9), ∀ (H : Heap) (locs : List Loc) (ls : Array Slot) (hP : va_P D vwCl (VW dA h ad x) H) (hD : va_D A (VW dA h ad x)) (hS : va_S A s.heap H locs) (hl : lv_has ls 11 [(7, .int (nI n)), (8, .int (nI i)), (1, .ref pp), (2, .int (nI w)), (3, .long a), (5, .long b), (0, .ref (ad 3))]), W p l e ({ frames := 3, cells := 0, slots := 0, locals := 46 } : Room) s m ([.ref (ad 3), .ref pp, .int (nI w), .long a, .long b] : List Value).toArray below meth c H locs 0 0 (MQ below (va_Qi (fun (r9 : Int32) (u9 : Unit) => r9 = nI (cnt P.n (x.soPc P w a b))) (fun (u9 : Unit) t9 => bW D A (VW dA h ad x) t9) A) ([.ref (ad 3), .ref pp, .int (nI w), .long a, .long b] : List Value).toArray s 0 0 A) (F0 m 6 ls []) := by
    intro k9
    induction k9 using Nat.strongRecOn with
    | ind k9 ih6 =>
      intro i n i1 i2 i3 hk9 H locs ls hP hD hS hl
      refine lv_iload hx hb d_H_countSeenOfOwner_6 (lv_at hl 1 rfl) ?_
      refine lv_aload_n hx hb d_H_countSeenOfOwner_8 rfl (lv_at hl 2 rfl) ?_
      obtain ⟨qp1, ep2⟩ := plv (dA := dA) (h := h) (ad := ad) (x := x) m1
      refine gFN (v := .int (nI P.n)) hx hb hown hE hK hP qp1 ep2 rfl layC 3 (by decide) w1176 rfl d_H_countSeenOfOwner_9 ?_
      refine lv_icmp_ge hx hb d_H_countSeenOfOwner_12 (tgt := 69) rfl (fun g3 => ?_) (fun g3 => ?_)
      · have g3 := (nI_leI (a := P.n) (b := i) (by omega) (by omega)).mp g3
        refine lv_iload hx hb d_H_countSeenOfOwner_69 (lv_at hl 0 rfl) ?_
        exact rfI hx hb hr hlk hS () (by rw [i2, show i = P.n by omega]) hP hD (Nat.le_of_ble_eq_true rfl) (Nat.le_of_ble_eq_true rfl) d_H_countSeenOfOwner_71
      · have g3 := mt (nI_leI (a := P.n) (b := i) (by omega) (by omega)).mpr g3
        have pk3 := pk2 i (by omega)
        refine lv_aload_n hx hb d_H_countSeenOfOwner_15 rfl (lv_at hl 2 rfl) ?_
        obtain ⟨qp4, ep5⟩ := plv (dA := dA) (h := h) (ad := ad) (x := x) m1
        refine gFN (v := .ref pt) hx hb hown hE hK hP qp4 ep5 rfl layC 1 (by decide) w1170 rfl d_H_countSeenOfOwner_16 ?_
        refine lv_iload hx hb d_H_countSeenOfOwner_19 (lv_at hl 1 rfl) ?_
        obtain ⟨qp6, ep7⟩ := plv (dA := dA) (h := h) (ad := ad) (x := x) m3
        refine nlld (f := P.t) (n := P.n) hx hb hK hP qp6 2 ep7 rfl (i) (by omega) (by omega) d_H_countSeenOfOwner_21 ?_
        refine lv_lstore hx hb d_H_countSeenOfOwner_22 hl (by decide) rfl (fun ls hl => ?_)
        have hl : lv_has ls 11 [(9, .long (P.t i)), (7, .int (nI n)), (8, .int (nI i)), (1, .ref pp), (2, .int (nI w)), (3, .long a), (5, .long b), (0, .ref (ad 3))] := hl
        refine lv_aload_n hx hb d_H_countSeenOfOwner_24 rfl (lv_at hl 3 rfl) ?_
        obtain ⟨qp8, ep9⟩ := plv (dA := dA) (h := h) (ad := ad) (x := x) m1
        refine gFN (v := .ref po) hx hb hown hE hK hP qp8 ep9 rfl layC 0 (by decide) w1171 rfl d_H_countSeenOfOwner_25 ?_
        refine lv_iload hx hb d_H_countSeenOfOwner_28 (lv_at hl 2 rfl) ?_
        obtain ⟨qp10, ep11⟩ := plv (dA := dA) (h := h) (ad := ad) (x := x) m2
        refine nild (f := (fun k => nI (P.o k))) (n := P.n) hx hb hK hP qp10 1 ep11 rfl (i) (by omega) (by omega) d_H_countSeenOfOwner_30 ?_
        refine lv_iload_n hx hb d_H_countSeenOfOwner_31 rfl (lv_at hl 4 rfl) ?_
        refine lv_icmp_ne hx hb d_H_countSeenOfOwner_32 (tgt := 63) rfl (fun g12 => ?_) (fun g12 => ?_)
        · have g12 := mt (nI_eq (a := P.o i) (b := w) (by omega) (by omega)).mpr g12
          refine lv_iinc (k := 2) (v := nI (i + 1)) hx hb d_H_countSeenOfOwner_63 hl rfl (iincN (i) 1 1 (by decide)) (by decide) rfl (fun ls hl => ?_)
          have hl : lv_has ls 11 [(8, .int (nI (i + 1))), (9, .long (P.t i)), (7, .int (nI n)), (1, .ref pp), (2, .int (nI w)), (3, .long a), (5, .long b), (0, .ref (ad 3))] := hl
          refine lv_goto hx hb d_H_countSeenOfOwner_66 (tgt := 6) rfl ?_
          exact ih6 _ (by omega) (i + 1) n (by omega) (by rw [cnt_f (show x.soPc P w a b i = false by unfold VS.soPc; rw [decide_eq_false g12]; rfl), i2]) (by omega) rfl H _ ls hP hD hS (lv_sub hl [2, 0, 3, 4, 5, 6, 7] rfl)
        · have g12 := (nI_eq (a := P.o i) (b := w) (by omega) (by omega)).mp g12
          refine lv_lload hx hb d_H_countSeenOfOwner_35 (lv_at hl 0 rfl) ?_
          refine lv_lload_n hx hb d_H_countSeenOfOwner_37 rfl (lv_at hl 5 rfl) ?_
          refine W.lcmp hx hb d_H_countSeenOfOwner_38 ?_
          refine lv_if_lt hx hb d_H_countSeenOfOwner_39 (tgt := 63) rfl (fun g13 => ?_) (fun g13 => ?_)
          · have g13 := (lg_cmp_lt _ _).mp g13
            refine lv_iinc (k := 2) (v := nI (i + 1)) hx hb d_H_countSeenOfOwner_63 hl rfl (iincN (i) 1 1 (by decide)) (by decide) rfl (fun ls hl => ?_)
            have hl : lv_has ls 11 [(8, .int (nI (i + 1))), (9, .long (P.t i)), (7, .int (nI n)), (1, .ref pp), (2, .int (nI w)), (3, .long a), (5, .long b), (0, .ref (ad 3))] := hl
            refine lv_goto hx hb d_H_countSeenOfOwner_66 (tgt := 6) rfl ?_
            exact ih6 _ (by omega) (i + 1) n (by omega) (by rw [cnt_f (show x.soPc P w a b i = false by unfold VS.soPc; rw [decide_eq_true g12, decide_eq_true g13]; rfl), i2]) (by omega) rfl H _ ls hP hD hS (lv_sub hl [2, 0, 3, 4, 5, 6, 7] rfl)
          · have g13 := mt (lg_cmp_lt _ _).mpr g13
            refine lv_lload hx hb d_H_countSeenOfOwner_42 (lv_at hl 0 rfl) ?_
            refine lv_lload hx hb d_H_countSeenOfOwner_44 (lv_at hl 6 rfl) ?_
            refine W.lcmp hx hb d_H_countSeenOfOwner_46 ?_
            refine lv_if_gt hx hb d_H_countSeenOfOwner_47 (tgt := 63) rfl (fun g14 => ?_) (fun g14 => ?_)
            · have g14 := (lg_cmp_gt _ _).mp g14
              refine lv_iinc (k := 2) (v := nI (i + 1)) hx hb d_H_countSeenOfOwner_63 hl rfl (iincN (i) 1 1 (by decide)) (by decide) rfl (fun ls hl => ?_)
              have hl : lv_has ls 11 [(8, .int (nI (i + 1))), (9, .long (P.t i)), (7, .int (nI n)), (1, .ref pp), (2, .int (nI w)), (3, .long a), (5, .long b), (0, .ref (ad 3))] := hl
              refine lv_goto hx hb d_H_countSeenOfOwner_66 (tgt := 6) rfl ?_
              exact ih6 _ (by omega) (i + 1) n (by omega) (by rw [cnt_f (show x.soPc P w a b i = false by unfold VS.soPc; rw [decide_eq_true g12, decide_eq_false g13, decide_eq_true g14]; rfl), i2]) (by omega) rfl H _ ls hP hD hS (lv_sub hl [2, 0, 3, 4, 5, 6, 7] rfl)
            · have g14 := mt (lg_cmp_gt _ _).mpr g14
              refine lv_aload_n hx hb d_H_countSeenOfOwner_50 rfl (lv_at hl 7 rfl) ?_
              refine lv_aload_n hx hb d_H_countSeenOfOwner_51 rfl (lv_at hl 3 rfl) ?_
              refine lv_iload hx hb d_H_countSeenOfOwner_52 (lv_at hl 2 rfl) ?_
              refine jfI (rnV (As := [.ref pp, .int (nI i)]) (rest := []) hx hb hml hown hE hK (hN _ _ hS) hP hD (v_sees l D dA H.size h ad x pp P i hpp0 hpk (show x.nsc ≤ 64 from by omega) h7 (show i < P.n from by omega)) (q0 := 17) rfl rfl w1178 w1177 w1179 w1180 w583 rfl rfl ⟨⟨by decide, by decide⟩, rfl⟩ ⟨(Nat.le_of_ble_eq_true rfl), (Nat.le_of_ble_eq_true rfl)⟩ rfl hl.1 rfl (Nat.le_of_ble_eq_true rfl) d_H_countSeenOfOwner_54 ⟨(Nat.le_of_ble_eq_true rfl), (Nat.le_of_ble_eq_true rfl)⟩) hP hD hS hA (fun r15 u16 H locs hp9 hP hD hS => ?_)
              have hP : va_P D vwCl (VW dA h ad x) H := hP
              have hD : va_D A (VW dA h ad x) := hD
              replace hp9 : bI (x.sePc P i) = r15 := Eq.symm hp9
              subst hp9
              refine lv_if_eq hx hb d_H_countSeenOfOwner_57 (tgt := 63) rfl (fun g17 => ?_) (fun g17 => ?_)
              · have g17 := bI_0 g17
                refine lv_iinc (k := 2) (v := nI (i + 1)) hx hb d_H_countSeenOfOwner_63 hl rfl (iincN (i) 1 1 (by decide)) (by decide) rfl (fun ls hl => ?_)
                have hl : lv_has ls 11 [(8, .int (nI (i + 1))), (9, .long (P.t i)), (7, .int (nI n)), (1, .ref pp), (2, .int (nI w)), (3, .long a), (5, .long b), (0, .ref (ad 3))] := hl
                refine lv_goto hx hb d_H_countSeenOfOwner_66 (tgt := 6) rfl ?_
                exact ih6 _ (by omega) (i + 1) n (by omega) (by rw [cnt_f (show x.soPc P w a b i = false by unfold VS.soPc; rw [decide_eq_true g12, decide_eq_false g13, decide_eq_false g14, g17]; rfl), i2]) (by omega) rfl H _ ls hP hD hS (lv_sub hl [2, 0, 3, 4, 5, 6, 7] rfl)
              · have g17 := bI_n0 g17
                refine lv_iinc (k := 1) (v := nI (n + 1)) hx hb d_H_countSeenOfOwner_60 hl rfl (iincN (n) 1 1 (by decide)) (by decide) rfl (fun ls hl => ?_)
                have hl : lv_has ls 11 [(7, .int (nI (n + 1))), (9, .long (P.t i)), (8, .int (nI i)), (1, .ref pp), (2, .int (nI w)), (3, .long a), (5, .long b), (0, .ref (ad 3))] := hl
                refine lv_iinc (k := 2) (v := nI (i + 1)) hx hb d_H_countSeenOfOwner_63 hl rfl (iincN (i) 1 1 (by decide)) (by decide) rfl (fun ls hl => ?_)
                have hl : lv_has ls 11 [(8, .int (nI (i + 1))), (7, .int (nI (n + 1))), (9, .long (P.t i)), (1, .ref pp), (2, .int (nI w)), (3, .long a), (5, .long b), (0, .ref (ad 3))] := hl
                refine lv_goto hx hb d_H_countSeenOfOwner_66 (tgt := 6) rfl ?_
                exact ih6 _ (by omega) (i + 1) (n + 1) (by omega) (by rw [cnt_t (show x.soPc P w a b i = true by unfold VS.soPc; rw [decide_eq_true g12, decide_eq_false g13, decide_eq_false g14, g17]; rfl), i2]) (by omega) rfl H _ ls hP hD hS (lv_sub hl [1, 0, 3, 4, 5, 6, 7] rfl)
  exact L6 _ 0 0 (Nat.zero_le _) rfl (Nat.le_refl _) rfl H _ ls hP hD hS (lv_sub hl [1, 0, 3, 4, 5, 6, 2] rfl)
theorem d_H_countSeenOf_0 : decode prog_9_method_15_code 0 = .ok (.aload_n 0, 1) := by decide +kernel
theorem d_H_countSeenOf_1 : decode prog_9_method_15_code 1 = .ok (.aload_n 1, 1) := by decide +kernel
theorem d_H_countSeenOf_2 : decode prog_9_method_15_code 2 = .ok (.ldc2_w 97, 3) := by decide +kernel
theorem d_H_countSeenOf_5 : decode prog_9_method_15_code 5 = .ok (.invokevirtual 99, 3) := by decide +kernel
theorem d_H_countSeenOf_8 : decode prog_9_method_15_code 8 = .ok (.ireturn, 1) := by decide +kernel
theorem w1181 : Cond.constantLong "SeriesVault$Shelf" 97 1099511627775 ∈ aW := aw_of (tb_8 (List.mem_of_getElem? (i := 130) rfl)) rfl
theorem w1182 : Cond.methodLink "SeriesVault$Shelf" 99 ⟨"SeriesVault$Shelf", "countSeenIn", "(LSeriesVault$Parcel;J)I"⟩ ∈ aW := aw_of (tb_6 (List.mem_of_getElem? (i := 158) rfl)) rfl
theorem w1183 : Cond.code ⟨"SeriesVault$Shelf", "countSeenIn", "(LSeriesVault$Parcel;J)I"⟩ prog_9_method_16_code 6 (some FieldType.int) ∈ aW := aw_of (tb_6 (List.mem_of_getElem? (i := 161) rfl)) rfl
theorem w1184 : Cond.instanceMethod ⟨"SeriesVault$Shelf", "countSeenIn", "(LSeriesVault$Parcel;J)I"⟩ ∈ aW := aw_of (tb_6 (List.mem_of_getElem? (i := 160) rfl)) rfl
theorem w1185 : Cond.selects "SeriesVault$Shelf" ⟨"SeriesVault$Shelf", "countSeenIn", "(LSeriesVault$Parcel;J)I"⟩ ⟨"SeriesVault$Shelf", "countSeenIn", "(LSeriesVault$Parcel;J)I"⟩ ∈ aW := aw_pr (List.mem_map.mpr ⟨_, pv_3 (List.mem_of_getElem? (i := 1) rfl), rfl⟩) rfl
set_option maxHeartbeats 4000000 in
set_option maxRecDepth 100000 in
theorem v_countSeenOf (l : Launch) (D : va_G) (dA : Nat → ClassId) (sz : Nat) (h : Nat) (ad : Nat → Nat) (x : VS) (pp : Nat) (P : PT) (hpp : isPc dA x.pl pp P) (hpk : pcOk P) (h1 : x.nsc ≤ 64) (h7 : ∀ q : Nat, q < x.nsc → x.nsO q < 2 ^ 31) : Met l ⟨"SeriesVault$Shelf", "countSeenOf", "(LSeriesVault$Parcel;)I"⟩ [Cond.code ⟨"SeriesVault$Shelf", "countSeenOf", "(LSeriesVault$Parcel;)I"⟩ prog_9_method_15_code 2 (some FieldType.int)] { frames := 4, cells := 0, slots := 0, locals := 71 } (pC D dA [.ref (ad 3), .ref pp] (VW dA h ad x) sz) (va_Qi (fun (r9 : Int32) (u9 : Unit) => r9 = nI (cnt P.n (x.siPc P 1099511627775))) (fun (u9 : Unit) t9 => bW D (va_A (VW dA h ad x) sz) (VW dA h ad x) t9) (va_A (VW dA h ad x) sz)) 0 0 (va_A (VW dA h ad x) sz) := by
  refine mkC (y := ⟨"SeriesVault$Shelf", "countSeenOf", "(LSeriesVault$Parcel;)I"⟩) (cc := prog_9_method_15_code) (maxL := 2) (av := [.ref (ad 3), .ref pp]) (ws := VW dA h ad x) (sz := sz) (Qc := fun A => va_Qi (fun (r9 : Int32) (u9 : Unit) => r9 = nI (cnt P.n (x.siPc P 1099511627775))) (fun (u9 : Unit) t9 => bW D A (VW dA h ad x) t9) A) (by decide) (Nat.le_of_ble_eq_true rfl) ?_
  intro A p e s m below meth c ls hsz hB
  obtain ⟨hx, hb, hr, hml, hown, hin, hlk, hE, hK, hP, hD, hS, hA, hN, hl⟩ := hB
  have hown : s.vm.findClass "SeriesVault$Shelf" = some m.cls := hown
  have hl : lv_has ls 2 [(0, .ref (ad 3)), (1, .ref pp)] := hl
  obtain ⟨H, hH⟩ : ∃ z, z = s.heap := ⟨_, rfl⟩
  have hP : va_P D vwCl (VW dA h ad x) H := by rw [hH]; exact hP
  have hS : va_S A s.heap H [] := by rw [hH]; exact hS
  rw [← hH]
  refine lv_aload_n hx hb d_H_countSeenOf_0 rfl (lv_at hl 0 rfl) ?_
  refine lv_aload_n hx hb d_H_countSeenOf_1 rfl (lv_at hl 1 rfl) ?_
  refine lv_ldc2 (v := 1099511627775) hx hb hown (hE.t w1181 rfl) d_H_countSeenOf_2 ?_
  refine jfI (rnV (As := [.ref pp, .long 1099511627775]) (rest := []) hx hb hml hown hE hK (hN _ _ hS) hP hD (v_countSeenIn l D dA H.size h ad x pp P 1099511627775 hpp hpk (show x.nsc ≤ 64 from by omega) h7) (q0 := 17) rfl rfl w1183 w1182 w1184 w1185 w583 rfl rfl ⟨⟨by decide, by decide⟩, rfl⟩ ⟨(Nat.le_of_ble_eq_true rfl), (Nat.le_of_ble_eq_true rfl)⟩ rfl hl.1 rfl (Nat.le_of_ble_eq_true rfl) d_H_countSeenOf_5 ⟨(Nat.le_of_ble_eq_true rfl), (Nat.le_of_ble_eq_true rfl)⟩) hP hD hS hA (fun r1 u2 H locs hp9 hP hD hS => ?_)
  have hP : va_P D vwCl (VW dA h ad x) H := hP
  have hD : va_D A (VW dA h ad x) := hD
  replace hp9 : nI (cnt P.n (x.siPc P 1099511627775)) = r1 := Eq.symm hp9
  subst hp9
  exact rfI hx hb hr hlk hS () rfl hP hD (Nat.le_of_ble_eq_true rfl) (Nat.le_of_ble_eq_true rfl) d_H_countSeenOf_8
theorem d_H_countSeenBelow_14 : decode prog_9_method_18_code 14 = .ok (.iload_n 3, 1) := by decide +kernel
theorem d_H_countSeenBelow_15 : decode prog_9_method_18_code 15 = .ok (.aload_n 0, 1) := by decide +kernel
theorem d_H_countSeenBelow_16 : decode prog_9_method_18_code 16 = .ok (.aload_n 0, 1) := by decide +kernel
theorem d_H_countSeenBelow_17 : decode prog_9_method_18_code 17 = .ok (.getfield 11, 3) := by decide +kernel
theorem d_H_countSeenBelow_20 : decode prog_9_method_18_code 20 = .ok (.iload 4, 2) := by decide +kernel
theorem d_H_countSeenBelow_22 : decode prog_9_method_18_code 22 = .ok (.aaload, 1) := by decide +kernel
theorem d_H_countSeenBelow_23 : decode prog_9_method_18_code 23 = .ok (.lload_n 1, 1) := by decide +kernel
theorem d_H_countSeenBelow_24 : decode prog_9_method_18_code 24 = .ok (.lconst 1, 1) := by decide +kernel
theorem d_H_countSeenBelow_25 : decode prog_9_method_18_code 25 = .ok (.lsub, 1) := by decide +kernel
theorem d_H_countSeenBelow_26 : decode prog_9_method_18_code 26 = .ok (.invokevirtual 99, 3) := by decide +kernel
theorem d_H_countSeenBelow_29 : decode prog_9_method_18_code 29 = .ok (.iadd, 1) := by decide +kernel
theorem d_H_countSeenBelow_30 : decode prog_9_method_18_code 30 = .ok (.istore_n 3, 1) := by decide +kernel
theorem d_H_countSeenBelow_31 : decode prog_9_method_18_code 31 = .ok (.iinc 4 1, 3) := by decide +kernel
theorem d_H_countSeenBelow_34 : decode prog_9_method_18_code 34 = .ok (.goto (-29), 3) := by decide +kernel
set_option maxHeartbeats 4000000 in
set_option maxRecDepth 100000 in
theorem v_countSeenBelow (l : Launch) (D : va_G) (dA : Nat → ClassId) (sz : Nat) (h : Nat) (ad : Nat → Nat) (x : VS) (PS : Nat → PT) (a : Int64) (hps : psOk dA x.nP x.npc x.pl PS) (hpn : x.npc ≤ 32) (h1 : x.nsc ≤ 64) (h7 : ∀ q : Nat, q < x.nsc → x.nsO q < 2 ^ 31) : Met l ⟨"SeriesVault$Shelf", "countSeenBelow", "(J)I"⟩ [Cond.code ⟨"SeriesVault$Shelf", "countSeenBelow", "(J)I"⟩ prog_9_method_18_code 5 (some FieldType.int)] { frames := 4, cells := 0, slots := 0, locals := 71 } (pC D dA [.ref (ad 3), .long a] (VW dA h ad x) sz) (va_Qi (fun (r9 : Int32) (u9 : Unit) => r9 = nI (sumN x.npc (x.sbN PS (a - 1)))) (fun (u9 : Unit) t9 => bW D (va_A (VW dA h ad x) sz) (VW dA h ad x) t9) (va_A (VW dA h ad x) sz)) 0 0 (va_A (VW dA h ad x) sz) := by
  refine mkC (y := ⟨"SeriesVault$Shelf", "countSeenBelow", "(J)I"⟩) (cc := prog_9_method_18_code) (maxL := 5) (av := [.ref (ad 3), .long a]) (ws := VW dA h ad x) (sz := sz) (Qc := fun A => va_Qi (fun (r9 : Int32) (u9 : Unit) => r9 = nI (sumN x.npc (x.sbN PS (a - 1)))) (fun (u9 : Unit) t9 => bW D A (VW dA h ad x) t9) A) (by decide) (Nat.le_of_ble_eq_true rfl) ?_
  intro A p e s m below meth c ls hsz hB
  obtain ⟨hx, hb, hr, hml, hown, hin, hlk, hE, hK, hP, hD, hS, hA, hN, hl⟩ := hB
  have hown : s.vm.findClass "SeriesVault$Shelf" = some m.cls := hown
  have hl : lv_has ls 5 [(0, .ref (ad 3)), (1, .long a)] := hl
  obtain ⟨H, hH⟩ : ∃ z, z = s.heap := ⟨_, rfl⟩
  have hP : va_P D vwCl (VW dA h ad x) H := by rw [hH]; exact hP
  have hS : va_S A s.heap H [] := by rw [hH]; exact hS
  rw [← hH]
  refine lv_iconst (v := 0) hx hb d_H_countSeenBelow_0 (by decide) ?_
  refine lv_istore_n hx hb d_H_countSeenBelow_1 rfl hl (by decide) rfl (fun ls hl => ?_)
  have hl : lv_has ls 5 [(3, .int 0), (0, .ref (ad 3)), (1, .long a)] := hl
  refine lv_iconst (v := 0) hx hb d_H_countSeenBelow_2 (by decide) ?_
  refine lv_istore hx hb d_H_countSeenBelow_3 hl (by decide) rfl (fun ls hl => ?_)
  have hl : lv_has ls 5 [(4, .int 0), (3, .int 0), (0, .ref (ad 3)), (1, .long a)] := hl
  have L5 : ∀ (k9 : Nat) (k : Nat) (n : Nat) (i1 : k ≤ x.npc) (i2 : n = sumN k (x.sbN PS (a - 1))) (i3 : n ≤ 12000 * k) (hk9 : x.npc - k = k9), ∀ (H : Heap) (locs : List Loc) (ls : Array Slot) (hP : va_P D vwCl (VW dA h ad x) H) (hD : va_D A (VW dA h ad x)) (hS : va_S A s.heap H locs) (hl : lv_has ls 5 [(3, .int (nI n)), (4, .int (nI k)), (1, .long a), (0, .ref (ad 3))]), W p l e ({ frames := 4, cells := 0, slots := 0, locals := 71 } : Room) s m ([.ref (ad 3), .long a] : List Value).toArray below meth c H locs 0 0 (MQ below (va_Qi (fun (r9 : Int32) (u9 : Unit) => r9 = nI (sumN x.npc (x.sbN PS (a - 1)))) (fun (u9 : Unit) t9 => bW D A (VW dA h ad x) t9) A) ([.ref (ad 3), .long a] : List Value).toArray s 0 0 A) (F0 m 5 ls []) := by
    intro k9
    induction k9 using Nat.strongRecOn with
    | ind k9 ih5 =>
      intro k n i1 i2 i3 hk9 H locs ls hP hD hS hl
      refine lv_iload hx hb d_H_countSeenBelow_5 (lv_at hl 1 rfl) ?_
      refine lv_aload_n hx hb d_H_countSeenBelow_7 rfl (lv_at hl 3 rfl) ?_
      refine gF (v := .int (nI x.npc)) hx hb hown hE hK hP 17 rfl rfl layH 1 (by decide) w566 rfl d_H_countSeenBelow_8 ?_
      refine lv_icmp_ge hx hb d_H_countSeenBelow_11 (tgt := 37) rfl (fun g1 => ?_) (fun g1 => ?_)
      · have g1 := (nI_leI (a := x.npc) (b := k) (by omega) (by omega)).mp g1
        refine lv_iload_n hx hb d_H_countSeenBelow_37 rfl (lv_at hl 0 rfl) ?_
        exact rfI hx hb hr hlk hS () (by rw [i2, show k = x.npc by omega]) hP hD (Nat.le_of_ble_eq_true rfl) (Nat.le_of_ble_eq_true rfl) d_H_countSeenBelow_38
      · have g1 := mt (nI_leI (a := x.npc) (b := k) (by omega) (by omega)).mpr g1
        obtain ⟨pp, ke, hpp, hpk⟩ := hps k (by omega)
        have hpp0 := hpp
        obtain ⟨po, pt, pv, m1, m2, m3, m4⟩ := hpp
        have pk1 := hpk.1
        refine lv_iload_n hx hb d_H_countSeenBelow_14 rfl (lv_at hl 0 rfl) ?_
        refine lv_aload_n hx hb d_H_countSeenBelow_15 rfl (lv_at hl 3 rfl) ?_
        refine lv_aload_n hx hb d_H_countSeenBelow_16 rfl (lv_at hl 3 rfl) ?_
        refine gF (v := .ref (ad 4)) hx hb hown hE hK hP 17 rfl rfl layH 0 (by decide) w199 rfl d_H_countSeenBelow_17 ?_
        refine lv_iload hx hb d_H_countSeenBelow_20 (lv_at hl 1 rfl) ?_
        refine nqld (f := x.nP) (n := 32) hx hb hK hP (18) 4 rfl rfl (k) (by omega) (by decide) ke d_H_countSeenBelow_22 ?_
        refine lv_lload_n hx hb d_H_countSeenBelow_23 rfl (lv_at hl 2 rfl) ?_
        refine lv_lconst (v := 1) hx hb d_H_countSeenBelow_24 (by decide) ?_
        refine lv_lsub hx hb d_H_countSeenBelow_25 ?_
        refine jfI (rnV (As := [.ref pp, .long (a - 1)]) (rest := [.int (nI n)]) hx hb hml hown hE hK (hN _ _ hS) hP hD (v_countSeenIn l D dA H.size h ad x pp (PS k) (a - 1) hpp0 hpk (show x.nsc ≤ 64 from by omega) h7) (q0 := 17) rfl rfl w1183 w1182 w1184 w1185 w583 rfl rfl ⟨⟨by decide, by decide⟩, rfl⟩ ⟨(Nat.le_of_ble_eq_true rfl), (Nat.le_of_ble_eq_true rfl)⟩ rfl hl.1 rfl (Nat.le_of_ble_eq_true rfl) d_H_countSeenBelow_26 ⟨(Nat.le_of_ble_eq_true rfl), (Nat.le_of_ble_eq_true rfl)⟩) hP hD hS hA (fun r2 u3 H locs hp9 hP hD hS => ?_)
        have hP : va_P D vwCl (VW dA h ad x) H := hP
        have hD : va_D A (VW dA h ad x) := hD
        replace hp9 : nI (cnt (PS k).n (x.siPc (PS k) (a - 1))) = r2 := Eq.symm hp9
        subst hp9
        refine lv_iadd hx hb d_H_countSeenBelow_29 (tpi (y := nI (n + (cnt (PS k).n (x.siPc (PS k) (a - 1))))) (nI_add (n) (cnt (PS k).n (x.siPc (PS k) (a - 1)))) ?_)
        refine lv_istore_n hx hb d_H_countSeenBelow_30 rfl hl (by decide) rfl (fun ls hl => ?_)
        have hl : lv_has ls 5 [(3, .int (nI (n + (cnt (PS k).n (x.siPc (PS k) (a - 1)))))), (4, .int (nI k)), (1, .long a), (0, .ref (ad 3))] := hl
        refine lv_iinc (k := 1) (v := nI (k + 1)) hx hb d_H_countSeenBelow_31 hl rfl (iincN (k) 1 1 (by decide)) (by decide) rfl (fun ls hl => ?_)
        have hl : lv_has ls 5 [(4, .int (nI (k + 1))), (3, .int (nI (n + (cnt (PS k).n (x.siPc (PS k) (a - 1)))))), (1, .long a), (0, .ref (ad 3))] := hl
        refine lv_goto hx hb d_H_countSeenBelow_34 (tgt := 5) rfl ?_
        exact ih5 _ (by omega) (k + 1) (n + (cnt (PS k).n (x.siPc (PS k) (a - 1)))) (by omega) (by rw [i2]; rfl) (by have := cnt_le (PS k).n (x.siPc (PS k) (a - 1)); omega) rfl H _ ls hP hD hS (lv_sub hl [1, 0, 2, 3] rfl)
  exact L5 _ 0 0 (Nat.zero_le _) rfl (by omega) rfl H _ ls hP hD hS (lv_sub hl [1, 0, 3, 2] rfl)
set_option maxHeartbeats 4000000 in
set_option maxRecDepth 100000 in
theorem v_countAllSeen (l : Launch) (D : va_G) (dA : Nat → ClassId) (sz : Nat) (h : Nat) (ad : Nat → Nat) (x : VS) (PS : Nat → PT) (hps : psOk dA x.nP x.npc x.pl PS) (hpn : x.npc ≤ 32) (h1 : x.nsc ≤ 64) (h7 : ∀ q : Nat, q < x.nsc → x.nsO q < 2 ^ 31) : Met l ⟨"SeriesVault$Shelf", "countAllSeen", "()I"⟩ [Cond.code ⟨"SeriesVault$Shelf", "countAllSeen", "()I"⟩ prog_9_method_17_code 1 (some FieldType.int)] { frames := 5, cells := 0, slots := 0, locals := 95 } (pC D dA [.ref (ad 3)] (VW dA h ad x) sz) (va_Qi (fun (r9 : Int32) (u9 : Unit) => r9 = nI (sumN x.npc (x.sbN PS (1099511627776 - 1)))) (fun (u9 : Unit) t9 => bW D (va_A (VW dA h ad x) sz) (VW dA h ad x) t9) (va_A (VW dA h ad x) sz)) 0 0 (va_A (VW dA h ad x) sz) := by
  refine mkC (y := ⟨"SeriesVault$Shelf", "countAllSeen", "()I"⟩) (cc := prog_9_method_17_code) (maxL := 1) (av := [.ref (ad 3)]) (ws := VW dA h ad x) (sz := sz) (Qc := fun A => va_Qi (fun (r9 : Int32) (u9 : Unit) => r9 = nI (sumN x.npc (x.sbN PS (1099511627776 - 1)))) (fun (u9 : Unit) t9 => bW D A (VW dA h ad x) t9) A) (by decide) (Nat.le_of_ble_eq_true rfl) ?_
  intro A p e s m below meth c ls hsz hB
  obtain ⟨hx, hb, hr, hml, hown, hin, hlk, hE, hK, hP, hD, hS, hA, hN, hl⟩ := hB
  have hown : s.vm.findClass "SeriesVault$Shelf" = some m.cls := hown
  have hl : lv_has ls 1 [(0, .ref (ad 3))] := hl
  obtain ⟨H, hH⟩ : ∃ z, z = s.heap := ⟨_, rfl⟩
  have hP : va_P D vwCl (VW dA h ad x) H := by rw [hH]; exact hP
  have hS : va_S A s.heap H [] := by rw [hH]; exact hS
  rw [← hH]
  refine lv_aload_n hx hb d_H_countAllSeen_0 rfl (lv_at hl 0 rfl) ?_
  refine lv_ldc2 (v := 1099511627776) hx hb hown (hE.t w631 rfl) d_H_countAllSeen_1 ?_
  refine jfI (rnV (As := [.long 1099511627776]) (rest := []) hx hb hml hown hE hK (hN _ _ hS) hP hD (v_countSeenBelow l D dA H.size h ad x PS 1099511627776 hps (show x.npc ≤ 32 from by omega) (show x.nsc ≤ 64 from by omega) h7) (q0 := 17) rfl rfl w633 w632 w634 w635 w583 rfl rfl ⟨⟨by decide, by decide⟩, rfl⟩ ⟨(Nat.le_of_ble_eq_true rfl), (Nat.le_of_ble_eq_true rfl)⟩ rfl hl.1 rfl (Nat.le_of_ble_eq_true rfl) d_H_countAllSeen_4 ⟨(Nat.le_of_ble_eq_true rfl), (Nat.le_of_ble_eq_true rfl)⟩) hP hD hS hA (fun r1 u2 H locs hp9 hP hD hS => ?_)
  have hP : va_P D vwCl (VW dA h ad x) H := hP
  have hD : va_D A (VW dA h ad x) := hD
  replace hp9 : nI (sumN x.npc (x.sbN PS (1099511627776 - 1))) = r1 := Eq.symm hp9
  subst hp9
  exact rfI hx hb hr hlk hS () rfl hP hD (Nat.le_of_ble_eq_true rfl) (Nat.le_of_ble_eq_true rfl) d_H_countAllSeen_7
theorem d_H_countSeen_0 : decode prog_9_method_19_code 0 = .ok (.iconst 0, 1) := by decide +kernel
theorem d_H_countSeen_1 : decode prog_9_method_19_code 1 = .ok (.istore 6, 2) := by decide +kernel
theorem d_H_countSeen_3 : decode prog_9_method_19_code 3 = .ok (.iconst 0, 1) := by decide +kernel
theorem d_H_countSeen_4 : decode prog_9_method_19_code 4 = .ok (.istore 7, 2) := by decide +kernel
theorem d_H_countSeen_6 : decode prog_9_method_19_code 6 = .ok (.iload 7, 2) := by decide +kernel
theorem d_H_countSeen_8 : decode prog_9_method_19_code 8 = .ok (.aload_n 0, 1) := by decide +kernel
theorem d_H_countSeen_9 : decode prog_9_method_19_code 9 = .ok (.getfield 34, 3) := by decide +kernel
theorem d_H_countSeen_12 : decode prog_9_method_19_code 12 = .ok (.if_icmp .ge 29, 3) := by decide +kernel
theorem d_H_countSeen_41 : decode prog_9_method_19_code 41 = .ok (.iload 6, 2) := by decide +kernel
theorem d_H_countSeen_43 : decode prog_9_method_19_code 43 = .ok (.ireturn, 1) := by decide +kernel
theorem d_H_countSeen_15 : decode prog_9_method_19_code 15 = .ok (.iload 6, 2) := by decide +kernel
theorem d_H_countSeen_17 : decode prog_9_method_19_code 17 = .ok (.aload_n 0, 1) := by decide +kernel
theorem d_H_countSeen_18 : decode prog_9_method_19_code 18 = .ok (.aload_n 0, 1) := by decide +kernel
theorem d_H_countSeen_19 : decode prog_9_method_19_code 19 = .ok (.getfield 11, 3) := by decide +kernel
theorem d_H_countSeen_22 : decode prog_9_method_19_code 22 = .ok (.iload 7, 2) := by decide +kernel
theorem d_H_countSeen_24 : decode prog_9_method_19_code 24 = .ok (.aaload, 1) := by decide +kernel
theorem d_H_countSeen_25 : decode prog_9_method_19_code 25 = .ok (.iload_n 1, 1) := by decide +kernel
theorem d_H_countSeen_26 : decode prog_9_method_19_code 26 = .ok (.lload_n 2, 1) := by decide +kernel
theorem d_H_countSeen_27 : decode prog_9_method_19_code 27 = .ok (.lload 4, 2) := by decide +kernel
theorem d_H_countSeen_29 : decode prog_9_method_19_code 29 = .ok (.invokevirtual 113, 3) := by decide +kernel
theorem d_H_countSeen_32 : decode prog_9_method_19_code 32 = .ok (.iadd, 1) := by decide +kernel
theorem d_H_countSeen_33 : decode prog_9_method_19_code 33 = .ok (.istore 6, 2) := by decide +kernel
theorem d_H_countSeen_35 : decode prog_9_method_19_code 35 = .ok (.iinc 7 1, 3) := by decide +kernel
theorem d_H_countSeen_38 : decode prog_9_method_19_code 38 = .ok (.goto (-32), 3) := by decide +kernel
theorem w1186 : Cond.methodLink "SeriesVault$Shelf" 113 ⟨"SeriesVault$Shelf", "countSeenOfOwner", "(LSeriesVault$Parcel;IJJ)I"⟩ ∈ aW := aw_of (tb_5 (List.mem_of_getElem? (i := 185) rfl)) rfl
theorem w1187 : Cond.code ⟨"SeriesVault$Shelf", "countSeenOfOwner", "(LSeriesVault$Parcel;IJJ)I"⟩ prog_9_method_20_code 11 (some FieldType.int) ∈ aW := aw_of (tb_5 (List.mem_of_getElem? (i := 188) rfl)) rfl
theorem w1188 : Cond.instanceMethod ⟨"SeriesVault$Shelf", "countSeenOfOwner", "(LSeriesVault$Parcel;IJJ)I"⟩ ∈ aW := aw_of (tb_5 (List.mem_of_getElem? (i := 187) rfl)) rfl
theorem w1189 : Cond.selects "SeriesVault$Shelf" ⟨"SeriesVault$Shelf", "countSeenOfOwner", "(LSeriesVault$Parcel;IJJ)I"⟩ ⟨"SeriesVault$Shelf", "countSeenOfOwner", "(LSeriesVault$Parcel;IJJ)I"⟩ ∈ aW := aw_pr (List.mem_map.mpr ⟨_, pv_2 (List.mem_of_getElem? (i := 7) rfl), rfl⟩) rfl
set_option maxHeartbeats 4000000 in
set_option maxRecDepth 100000 in
theorem v_countSeen (l : Launch) (D : va_G) (dA : Nat → ClassId) (sz : Nat) (h : Nat) (ad : Nat → Nat) (x : VS) (PS : Nat → PT) (w : Nat) (a : Int64) (b : Int64) (hps : psOk dA x.nP x.npc x.pl PS) (hpn : x.npc ≤ 32) (h1 : x.nsc ≤ 64) (h7 : ∀ q : Nat, q < x.nsc → x.nsO q < 2 ^ 31) (hw : w < 256) : Met l ⟨"SeriesVault$Shelf", "countSeen", "(IJJ)I"⟩ [Cond.code ⟨"SeriesVault$Shelf", "countSeen", "(IJJ)I"⟩ prog_9_method_19_code 8 (some FieldType.int)] { frames := 4, cells := 0, slots := 0, locals := 76 } (pC D dA [.ref (ad 3), .int (nI w), .long a, .long b] (VW dA h ad x) sz) (va_Qi (fun (r9 : Int32) (u9 : Unit) => r9 = nI (sumN x.npc (x.soN PS w a b))) (fun (u9 : Unit) t9 => bW D (va_A (VW dA h ad x) sz) (VW dA h ad x) t9) (va_A (VW dA h ad x) sz)) 0 0 (va_A (VW dA h ad x) sz) := by
  refine mkC (y := ⟨"SeriesVault$Shelf", "countSeen", "(IJJ)I"⟩) (cc := prog_9_method_19_code) (maxL := 8) (av := [.ref (ad 3), .int (nI w), .long a, .long b]) (ws := VW dA h ad x) (sz := sz) (Qc := fun A => va_Qi (fun (r9 : Int32) (u9 : Unit) => r9 = nI (sumN x.npc (x.soN PS w a b))) (fun (u9 : Unit) t9 => bW D A (VW dA h ad x) t9) A) (by decide) (Nat.le_of_ble_eq_true rfl) ?_
  intro A p e s m below meth c ls hsz hB
  obtain ⟨hx, hb, hr, hml, hown, hin, hlk, hE, hK, hP, hD, hS, hA, hN, hl⟩ := hB
  have hown : s.vm.findClass "SeriesVault$Shelf" = some m.cls := hown
  have hl : lv_has ls 8 [(0, .ref (ad 3)), (1, .int (nI w)), (2, .long a), (4, .long b)] := hl
  obtain ⟨H, hH⟩ : ∃ z, z = s.heap := ⟨_, rfl⟩
  have hP : va_P D vwCl (VW dA h ad x) H := by rw [hH]; exact hP
  have hS : va_S A s.heap H [] := by rw [hH]; exact hS
  rw [← hH]
  refine lv_iconst (v := 0) hx hb d_H_countSeen_0 (by decide) ?_
  refine lv_istore hx hb d_H_countSeen_1 hl (by decide) rfl (fun ls hl => ?_)
  have hl : lv_has ls 8 [(6, .int 0), (0, .ref (ad 3)), (1, .int (nI w)), (2, .long a), (4, .long b)] := hl
  refine lv_iconst (v := 0) hx hb d_H_countSeen_3 (by decide) ?_
  refine lv_istore hx hb d_H_countSeen_4 hl (by decide) rfl (fun ls hl => ?_)
  have hl : lv_has ls 8 [(7, .int 0), (6, .int 0), (0, .ref (ad 3)), (1, .int (nI w)), (2, .long a), (4, .long b)] := hl
  have L6 : ∀ (k9 : Nat) (k : Nat) (n : Nat) (i1 : k ≤ x.npc) (i2 : n = sumN k (x.soN PS w a b)) (i3 : n ≤ 12000 * k) (hk9 : x.npc - k = k9), ∀ (H : Heap) (locs : List Loc) (ls : Array Slot) (hP : va_P D vwCl (VW dA h ad x) H) (hD : va_D A (VW dA h ad x)) (hS : va_S A s.heap H locs) (hl : lv_has ls 8 [(6, .int (nI n)), (7, .int (nI k)), (1, .int (nI w)), (2, .long a), (4, .long b), (0, .ref (ad 3))]), W p l e ({ frames := 4, cells := 0, slots := 0, locals := 76 } : Room) s m ([.ref (ad 3), .int (nI w), .long a, .long b] : List Value).toArray below meth c H locs 0 0 (MQ below (va_Qi (fun (r9 : Int32) (u9 : Unit) => r9 = nI (sumN x.npc (x.soN PS w a b))) (fun (u9 : Unit) t9 => bW D A (VW dA h ad x) t9) A) ([.ref (ad 3), .int (nI w), .long a, .long b] : List Value).toArray s 0 0 A) (F0 m 6 ls []) := by
    intro k9
    induction k9 using Nat.strongRecOn with
    | ind k9 ih6 =>
      intro k n i1 i2 i3 hk9 H locs ls hP hD hS hl
      refine lv_iload hx hb d_H_countSeen_6 (lv_at hl 1 rfl) ?_
      refine lv_aload_n hx hb d_H_countSeen_8 rfl (lv_at hl 5 rfl) ?_
      refine gF (v := .int (nI x.npc)) hx hb hown hE hK hP 17 rfl rfl layH 1 (by decide) w566 rfl d_H_countSeen_9 ?_
      refine lv_icmp_ge hx hb d_H_countSeen_12 (tgt := 41) rfl (fun g1 => ?_) (fun g1 => ?_)
      · have g1 := (nI_leI (a := x.npc) (b := k) (by omega) (by omega)).mp g1
        refine lv_iload hx hb d_H_countSeen_41 (lv_at hl 0 rfl) ?_
        exact rfI hx hb hr hlk hS () (by rw [i2, show k = x.npc by omega]) hP hD (Nat.le_of_ble_eq_true rfl) (Nat.le_of_ble_eq_true rfl) d_H_countSeen_43
      · have g1 := mt (nI_leI (a := x.npc) (b := k) (by omega) (by omega)).mpr g1
        obtain ⟨pp, ke, hpp, hpk⟩ := hps k (by omega)
        have hpp0 := hpp
        obtain ⟨po, pt, pv, m1, m2, m3, m4⟩ := hpp
        have pk1 := hpk.1
        refine lv_iload hx hb d_H_countSeen_15 (lv_at hl 0 rfl) ?_
        refine lv_aload_n hx hb d_H_countSeen_17 rfl (lv_at hl 5 rfl) ?_
        refine lv_aload_n hx hb d_H_countSeen_18 rfl (lv_at hl 5 rfl) ?_
        refine gF (v := .ref (ad 4)) hx hb hown hE hK hP 17 rfl rfl layH 0 (by decide) w199 rfl d_H_countSeen_19 ?_
        refine lv_iload hx hb d_H_countSeen_22 (lv_at hl 1 rfl) ?_
        refine nqld (f := x.nP) (n := 32) hx hb hK hP (18) 4 rfl rfl (k) (by omega) (by decide) ke d_H_countSeen_24 ?_
        refine lv_iload_n hx hb d_H_countSeen_25 rfl (lv_at hl 2 rfl) ?_
        refine lv_lload_n hx hb d_H_countSeen_26 rfl (lv_at hl 3 rfl) ?_
        refine lv_lload hx hb d_H_countSeen_27 (lv_at hl 4 rfl) ?_
        refine jfI (rnV (As := [.ref pp, .int (nI w), .long a, .long b]) (rest := [.int (nI n)]) hx hb hml hown hE hK (hN _ _ hS) hP hD (v_countSeenOfOwner l D dA H.size h ad x pp (PS k) w a b hpp0 hpk (show x.nsc ≤ 64 from by omega) h7 (show w < 256 from by omega)) (q0 := 17) rfl rfl w1187 w1186 w1188 w1189 w583 rfl rfl ⟨⟨by decide, by decide⟩, rfl⟩ ⟨(Nat.le_of_ble_eq_true rfl), (Nat.le_of_ble_eq_true rfl)⟩ rfl hl.1 rfl (Nat.le_of_ble_eq_true rfl) d_H_countSeen_29 ⟨(Nat.le_of_ble_eq_true rfl), (Nat.le_of_ble_eq_true rfl)⟩) hP hD hS hA (fun r2 u3 H locs hp9 hP hD hS => ?_)
        have hP : va_P D vwCl (VW dA h ad x) H := hP
        have hD : va_D A (VW dA h ad x) := hD
        replace hp9 : nI (cnt (PS k).n (x.soPc (PS k) w a b)) = r2 := Eq.symm hp9
        subst hp9
        refine lv_iadd hx hb d_H_countSeen_32 (tpi (y := nI (n + (cnt (PS k).n (x.soPc (PS k) w a b)))) (nI_add (n) (cnt (PS k).n (x.soPc (PS k) w a b))) ?_)
        refine lv_istore hx hb d_H_countSeen_33 hl (by decide) rfl (fun ls hl => ?_)
        have hl : lv_has ls 8 [(6, .int (nI (n + (cnt (PS k).n (x.soPc (PS k) w a b))))), (7, .int (nI k)), (1, .int (nI w)), (2, .long a), (4, .long b), (0, .ref (ad 3))] := hl
        refine lv_iinc (k := 1) (v := nI (k + 1)) hx hb d_H_countSeen_35 hl rfl (iincN (k) 1 1 (by decide)) (by decide) rfl (fun ls hl => ?_)
        have hl : lv_has ls 8 [(7, .int (nI (k + 1))), (6, .int (nI (n + (cnt (PS k).n (x.soPc (PS k) w a b))))), (1, .int (nI w)), (2, .long a), (4, .long b), (0, .ref (ad 3))] := hl
        refine lv_goto hx hb d_H_countSeen_38 (tgt := 6) rfl ?_
        exact ih6 _ (by omega) (k + 1) (n + (cnt (PS k).n (x.soPc (PS k) w a b))) (by omega) (by rw [i2]; rfl) (by have := cnt_le (PS k).n (x.soPc (PS k) w a b); omega) rfl H _ ls hP hD hS (lv_sub hl [1, 0, 2, 3, 4, 5] rfl)
  exact L6 _ 0 0 (Nat.zero_le _) rfl (by omega) rfl H _ ls hP hD hS (lv_sub hl [1, 0, 3, 4, 5, 2] rfl)
theorem d_H_blocksInUse_15 : decode prog_9_method_6_code 15 = .ok (.iload_n 1, 1) := by decide +kernel
theorem d_H_blocksInUse_16 : decode prog_9_method_6_code 16 = .ok (.aload_n 0, 1) := by decide +kernel
theorem d_H_blocksInUse_17 : decode prog_9_method_6_code 17 = .ok (.getfield 11, 3) := by decide +kernel
theorem d_H_blocksInUse_20 : decode prog_9_method_6_code 20 = .ok (.iload_n 2, 1) := by decide +kernel
theorem d_H_blocksInUse_21 : decode prog_9_method_6_code 21 = .ok (.aaload, 1) := by decide +kernel
theorem d_H_blocksInUse_22 : decode prog_9_method_6_code 22 = .ok (.getfield 59, 3) := by decide +kernel
theorem d_H_blocksInUse_25 : decode prog_9_method_6_code 25 = .ok (.iadd, 1) := by decide +kernel
theorem d_H_blocksInUse_26 : decode prog_9_method_6_code 26 = .ok (.istore_n 1, 1) := by decide +kernel
theorem d_H_blocksInUse_27 : decode prog_9_method_6_code 27 = .ok (.iinc 2 1, 3) := by decide +kernel
theorem d_H_blocksInUse_30 : decode prog_9_method_6_code 30 = .ok (.goto (-23), 3) := by decide +kernel
theorem w1190 : Cond.fieldLinkNest "SeriesVault$Shelf" 59 "SeriesVault$Parcel" "blocks" "I" "SeriesVault" ∈ aW := aw_of (tb_6 (List.mem_of_getElem? (i := 62) rfl)) rfl
set_option maxHeartbeats 4000000 in
set_option maxRecDepth 100000 in
theorem v_blocksInUse (l : Launch) (D : va_G) (dA : Nat → ClassId) (sz : Nat) (h : Nat) (ad : Nat → Nat) (x : VS) (PS : Nat → PT) (hps : psOk dA x.nP x.npc x.pl PS) (hpn : x.npc ≤ 32) : Met l ⟨"SeriesVault$Shelf", "blocksInUse", "()I"⟩ [Cond.code ⟨"SeriesVault$Shelf", "blocksInUse", "()I"⟩ prog_9_method_6_code 3 (some FieldType.int)] { frames := 1, cells := 0, slots := 0, locals := 0 } (pC D dA [.ref (ad 3)] (VW dA h ad x) sz) (va_Qi (fun (r9 : Int32) (u9 : Unit) => r9 = nI (x.ncat + sumN x.npc (blN PS))) (fun (u9 : Unit) t9 => bW D (va_A (VW dA h ad x) sz) (VW dA h ad x) t9) (va_A (VW dA h ad x) sz)) 0 0 (va_A (VW dA h ad x) sz) := by
  refine mkC (y := ⟨"SeriesVault$Shelf", "blocksInUse", "()I"⟩) (cc := prog_9_method_6_code) (maxL := 3) (av := [.ref (ad 3)]) (ws := VW dA h ad x) (sz := sz) (Qc := fun A => va_Qi (fun (r9 : Int32) (u9 : Unit) => r9 = nI (x.ncat + sumN x.npc (blN PS))) (fun (u9 : Unit) t9 => bW D A (VW dA h ad x) t9) A) (by decide) (Nat.le_of_ble_eq_true rfl) ?_
  intro A p e s m below meth c ls hsz hB
  obtain ⟨hx, hb, hr, hml, hown, hin, hlk, hE, hK, hP, hD, hS, hA, hN, hl⟩ := hB
  have hown : s.vm.findClass "SeriesVault$Shelf" = some m.cls := hown
  have hl : lv_has ls 3 [(0, .ref (ad 3))] := hl
  obtain ⟨H, hH⟩ : ∃ z, z = s.heap := ⟨_, rfl⟩
  have hP : va_P D vwCl (VW dA h ad x) H := by rw [hH]; exact hP
  have hS : va_S A s.heap H [] := by rw [hH]; exact hS
  rw [← hH]
  refine lv_aload_n hx hb d_H_blocksInUse_0 rfl (lv_at hl 0 rfl) ?_
  refine gF (v := .int (nI x.ncat)) hx hb hown hE hK hP 17 rfl rfl layH 10 (by decide) w570 rfl d_H_blocksInUse_1 ?_
  refine lv_istore_n hx hb d_H_blocksInUse_4 rfl hl (by decide) rfl (fun ls hl => ?_)
  have hl : lv_has ls 3 [(1, .int (nI x.ncat)), (0, .ref (ad 3))] := hl
  refine lv_iconst (v := 0) hx hb d_H_blocksInUse_5 (by decide) ?_
  refine lv_istore_n hx hb d_H_blocksInUse_6 rfl hl (by decide) rfl (fun ls hl => ?_)
  have hl : lv_has ls 3 [(2, .int 0), (1, .int (nI x.ncat)), (0, .ref (ad 3))] := hl
  have L7 : ∀ (k9 : Nat) (k : Nat) (n : Nat) (i1 : k ≤ x.npc) (i2 : n = x.ncat + sumN k (blN PS)) (hk9 : x.npc - k = k9), ∀ (H : Heap) (locs : List Loc) (ls : Array Slot) (hP : va_P D vwCl (VW dA h ad x) H) (hD : va_D A (VW dA h ad x)) (hS : va_S A s.heap H locs) (hl : lv_has ls 3 [(1, .int (nI n)), (2, .int (nI k)), (0, .ref (ad 3))]), W p l e ({ frames := 1, cells := 0, slots := 0, locals := 0 } : Room) s m ([.ref (ad 3)] : List Value).toArray below meth c H locs 0 0 (MQ below (va_Qi (fun (r9 : Int32) (u9 : Unit) => r9 = nI (x.ncat + sumN x.npc (blN PS))) (fun (u9 : Unit) t9 => bW D A (VW dA h ad x) t9) A) ([.ref (ad 3)] : List Value).toArray s 0 0 A) (F0 m 7 ls []) := by
    intro k9
    induction k9 using Nat.strongRecOn with
    | ind k9 ih7 =>
      intro k n i1 i2 hk9 H locs ls hP hD hS hl
      refine lv_iload_n hx hb d_H_blocksInUse_7 rfl (lv_at hl 1 rfl) ?_
      refine lv_aload_n hx hb d_H_blocksInUse_8 rfl (lv_at hl 2 rfl) ?_
      refine gF (v := .int (nI x.npc)) hx hb hown hE hK hP 17 rfl rfl layH 1 (by decide) w566 rfl d_H_blocksInUse_9 ?_
      refine lv_icmp_ge hx hb d_H_blocksInUse_12 (tgt := 33) rfl (fun g1 => ?_) (fun g1 => ?_)
      · have g1 := (nI_leI (a := x.npc) (b := k) (by omega) (by omega)).mp g1
        refine lv_iload_n hx hb d_H_blocksInUse_33 rfl (lv_at hl 0 rfl) ?_
        exact rfI hx hb hr hlk hS () (by rw [i2, show k = x.npc by omega]) hP hD (Nat.le_of_ble_eq_true rfl) (Nat.le_of_ble_eq_true rfl) d_H_blocksInUse_34
      · have g1 := mt (nI_leI (a := x.npc) (b := k) (by omega) (by omega)).mpr g1
        obtain ⟨pp, ke, hpp, hpk⟩ := hps k (by omega)
        have hpp0 := hpp
        obtain ⟨po, pt, pv, m1, m2, m3, m4⟩ := hpp
        have pk1 := hpk.1
        refine lv_iload_n hx hb d_H_blocksInUse_15 rfl (lv_at hl 0 rfl) ?_
        refine lv_aload_n hx hb d_H_blocksInUse_16 rfl (lv_at hl 2 rfl) ?_
        refine gF (v := .ref (ad 4)) hx hb hown hE hK hP 17 rfl rfl layH 0 (by decide) w199 rfl d_H_blocksInUse_17 ?_
        refine lv_iload_n hx hb d_H_blocksInUse_20 rfl (lv_at hl 1 rfl) ?_
        refine nqld (f := x.nP) (n := 32) hx hb hK hP (18) 4 rfl rfl (k) (by omega) (by decide) ke d_H_blocksInUse_21 ?_
        obtain ⟨qp2, ep3⟩ := plv (dA := dA) (h := h) (ad := ad) (x := x) m1
        refine gFN (v := .int (nI (PS k).bl)) hx hb hown hE hK hP qp2 ep3 rfl layC 6 (by decide) w1190 rfl d_H_blocksInUse_22 ?_
        refine lv_iadd hx hb d_H_blocksInUse_25 (tpi (y := nI (n + ((PS k).bl))) (nI_add (n) ((PS k).bl)) ?_)
        refine lv_istore_n hx hb d_H_blocksInUse_26 rfl hl (by decide) rfl (fun ls hl => ?_)
        have hl : lv_has ls 3 [(1, .int (nI (n + ((PS k).bl)))), (2, .int (nI k)), (0, .ref (ad 3))] := hl
        refine lv_iinc (k := 1) (v := nI (k + 1)) hx hb d_H_blocksInUse_27 hl rfl (iincN (k) 1 1 (by decide)) (by decide) rfl (fun ls hl => ?_)
        have hl : lv_has ls 3 [(2, .int (nI (k + 1))), (1, .int (nI (n + ((PS k).bl)))), (0, .ref (ad 3))] := hl
        refine lv_goto hx hb d_H_blocksInUse_30 (tgt := 7) rfl ?_
        exact ih7 _ (by omega) (k + 1) (n + ((PS k).bl)) (by omega) (by rw [i2]; exact Nat.add_assoc _ _ _) rfl H _ ls hP hD hS (lv_sub hl [1, 0, 2] rfl)
  exact L7 _ 0 x.ncat (Nat.zero_le _) rfl rfl H _ ls hP hD hS (lv_sub hl [1, 0, 2] rfl)
end
