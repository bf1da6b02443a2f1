def VS.hgS (x : VS) (pa : Nat → Nat) : VS := VS.s_hV (VS.s_hT (VS.s_hO (VS.s_hN (VS.s_hA x pa) (2 * x.hsize)) (va_cpy x.hO (fun _ => 0) 0 0 (min x.hN (2 * x.hsize)))) (va_cpy x.hT (fun _ => 0) 0 0 (min x.hN (2 * x.hsize)))) (va_cpy x.hV (fun _ => 0) 0 0 (min x.hN (2 * x.hsize)))
def VS.haS (x : VS) (w : Nat) (a b : Int64) : VS := VS.s_hsize (VS.s_hV (VS.s_hT (VS.s_hO x (va_up x.hO x.hsize w)) (va_up x.hT x.hsize a)) (va_up x.hV x.hsize b)) (x.hsize + 1)
def VS.hcap (x : VS) : Nat := if x.hsize = x.hN then 2 * x.hsize else x.hN
def VS.haF (x : VS) (pa : Nat → Nat) (w : Nat) (a b : Int64) : VS := (if x.hsize = x.hN then x.hgS pa else x).haS w a b
theorem d_P_add_12 : decode prog_5_method_3_code 12 = .ok (.aload_n 0, 1) := by decide +kernel
theorem d_P_add_13 : decode prog_5_method_3_code 13 = .ok (.aload_n 0, 1) := by decide +kernel
theorem d_P_add_14 : decode prog_5_method_3_code 14 = .ok (.getfield 7, 3) := by decide +kernel
theorem d_P_add_17 : decode prog_5_method_3_code 17 = .ok (.iconst 2, 1) := by decide +kernel
theorem d_P_add_18 : decode prog_5_method_3_code 18 = .ok (.aload_n 0, 1) := by decide +kernel
theorem d_P_add_19 : decode prog_5_method_3_code 19 = .ok (.getfield 20, 3) := by decide +kernel
theorem d_P_add_22 : decode prog_5_method_3_code 22 = .ok (.imul, 1) := by decide +kernel
theorem d_P_add_23 : decode prog_5_method_3_code 23 = .ok (.invokestatic 24, 3) := by decide +kernel
theorem d_P_add_26 : decode prog_5_method_3_code 26 = .ok (.putfield 7, 3) := by decide +kernel
theorem d_P_add_29 : decode prog_5_method_3_code 29 = .ok (.aload_n 0, 1) := by decide +kernel
theorem d_P_add_30 : decode prog_5_method_3_code 30 = .ok (.aload_n 0, 1) := by decide +kernel
theorem d_P_add_31 : decode prog_5_method_3_code 31 = .ok (.getfield 13, 3) := by decide +kernel
theorem d_P_add_34 : decode prog_5_method_3_code 34 = .ok (.iconst 2, 1) := by decide +kernel
theorem d_P_add_35 : decode prog_5_method_3_code 35 = .ok (.aload_n 0, 1) := by decide +kernel
theorem d_P_add_36 : decode prog_5_method_3_code 36 = .ok (.getfield 20, 3) := by decide +kernel
theorem d_P_add_39 : decode prog_5_method_3_code 39 = .ok (.imul, 1) := by decide +kernel
theorem d_P_add_40 : decode prog_5_method_3_code 40 = .ok (.invokestatic 30, 3) := by decide +kernel
theorem d_P_add_43 : decode prog_5_method_3_code 43 = .ok (.putfield 13, 3) := by decide +kernel
theorem d_P_add_46 : decode prog_5_method_3_code 46 = .ok (.aload_n 0, 1) := by decide +kernel
theorem d_P_add_47 : decode prog_5_method_3_code 47 = .ok (.aload_n 0, 1) := by decide +kernel
theorem d_P_add_48 : decode prog_5_method_3_code 48 = .ok (.getfield 17, 3) := by decide +kernel
theorem d_P_add_51 : decode prog_5_method_3_code 51 = .ok (.iconst 2, 1) := by decide +kernel
theorem d_P_add_52 : decode prog_5_method_3_code 52 = .ok (.aload_n 0, 1) := by decide +kernel
theorem d_P_add_53 : decode prog_5_method_3_code 53 = .ok (.getfield 20, 3) := by decide +kernel
theorem d_P_add_56 : decode prog_5_method_3_code 56 = .ok (.imul, 1) := by decide +kernel
theorem d_P_add_57 : decode prog_5_method_3_code 57 = .ok (.invokestatic 30, 3) := by decide +kernel
theorem d_P_add_60 : decode prog_5_method_3_code 60 = .ok (.putfield 17, 3) := by decide +kernel
theorem w1130 : Cond.methodLink "SeriesVault$Points" 24 ⟨"java/util/Arrays", "copyOf", "([II)[I"⟩ ∈ aW := aw_of (tb_5 (List.mem_of_getElem? (i := 157) rfl)) rfl
theorem w1131 : Cond.methodLink "SeriesVault$Points" 30 ⟨"java/util/Arrays", "copyOf", "([JI)[J"⟩ ∈ aW := aw_of (tb_5 (List.mem_of_getElem? (i := 158) rfl)) rfl
set_option maxHeartbeats 4000000 in
set_option maxRecDepth 100000 in
theorem v_paddF_h (l : Launch) (D : va_G) (dA : Nat → ClassId) (sz : Nat) (h : Nat) (ad : Nat → Nat) (x : VS) (w : Nat) (a : Int64) (b : Int64) (hs1 : x.hsize ≤ x.hN) (hs2 : 0 < x.hN) (hs3 : x.hN ≤ 32768) : Met l ⟨"SeriesVault$Points", "add", "(IJJ)V"⟩ [Cond.code ⟨"SeriesVault$Points", "add", "(IJJ)V"⟩ prog_5_method_3_code 6 none] { frames := 2, cells := 3 * (x.hcap - x.hN), slots := 6 * (x.hcap - x.hN), locals := 62 } (pC D dA [.ref (ad 1), .int (nI w), .long a, .long b] (VW dA h ad x) sz) (va_Qv (fun (u9 : VS) => ∃ pa : Nat → Nat, u9 = x.haF pa w a b) (fun (u9 : VS) t9 => bW D (va_A (VW dA h ad x) sz) (VW dA h ad u9) t9) (va_A (VW dA h ad x) sz)) (3 * (x.hcap - x.hN)) (6 * (x.hcap - x.hN)) (va_A (VW dA h ad x) sz) := by
  refine mkC (y := ⟨"SeriesVault$Points", "add", "(IJJ)V"⟩) (cc := prog_5_method_3_code) (maxL := 6) (av := [.ref (ad 1), .int (nI w), .long a, .long b]) (ws := VW dA h ad x) (sz := sz) (Qc := fun A => va_Qv (fun (u9 : VS) => ∃ pa : Nat → Nat, u9 = x.haF pa w a b) (fun (u9 : VS) t9 => bW D A (VW dA h ad u9) t9) A) (by decide) (Nat.le_of_ble_eq_true rfl) ?_
  intro A p e s m below meth c ls hsz hB
  obtain ⟨hx, hb, hr, hml, hown, hin, hlk, hE, hK, hP, hD, hS, hA, hN, hl⟩ := hB
  have hown : s.vm.findClass "SeriesVault$Points" = some m.cls := hown
  have hl : lv_has ls 6 [(0, .ref (ad 1)), (1, .int (nI w)), (2, .long a), (4, .long b)] := hl
  obtain ⟨H, hH⟩ : ∃ z, z = s.heap := ⟨_, rfl⟩
  have hP : va_P D vwCl (VW dA h ad x) H := by rw [hH]; exact hP
  have hS : va_S A s.heap H [] := by rw [hH]; exact hS
  rw [← hH]
  refine lv_aload_n hx hb d_P_add_0 rfl (lv_at hl 0 rfl) ?_
  refine gF (v := .int (nI x.hsize)) hx hb hown hE hK hP 9 rfl rfl layP 3 (by decide) w565 rfl d_P_add_1 ?_
  refine lv_aload_n hx hb d_P_add_4 rfl (lv_at hl 0 rfl) ?_
  refine gF (v := .ref (x.hA 0)) hx hb hown hE hK hP 9 rfl rfl layP 0 (by decide) w185 rfl d_P_add_5 ?_
  refine va_alen (v := nI x.hN) hx hb hK hP (10) 1 rfl rfl rfl d_P_add_8 ?_
  refine lv_icmp_ne hx hb d_P_add_9 (tgt := 63) rfl (fun g1 => ?_) (fun g1 => ?_)
  · have g1 := mt (nI_eq (a := x.hsize) (b := x.hN) (by omega) (by omega)).mpr g1
    have jc : x.hcap = x.hN := if_neg g1
    refine lv_aload_n hx hb d_P_add_63 rfl (lv_at hl 0 rfl) ?_
    refine lv_aload_n hx hb d_P_add_64 rfl (lv_at hl 0 rfl) ?_
    refine gF (v := .int (nI x.hsize)) hx hb hown hE hK hP 9 rfl rfl layP 3 (by decide) w565 rfl d_P_add_65 ?_
    refine lv_iload_n hx hb d_P_add_68 rfl (lv_at hl 1 rfl) ?_
    refine lv_lload_n hx hb d_P_add_69 rfl (lv_at hl 2 rfl) ?_
    refine lv_lload hx hb d_P_add_70 (lv_at hl 3 rfl) ?_
    refine jfV (rnV (As := [.int (nI x.hsize), .int (nI w), .long a, .long b]) (rest := []) hx hb hml hown hE hK (hN _ _ hS) hP hD (v_pset_h l D dA H.size h ad x x.hsize w a b (show x.hsize < x.hN from by omega) (show x.hN ≤ 65536 from by omega)) (q0 := 9) rfl rfl w1086 w1085 w1087 w1088 w578 rfl rfl ⟨⟨by decide, by decide⟩, rfl⟩ ⟨(Nat.le_of_ble_eq_true rfl), (Nat.le_of_ble_eq_true rfl)⟩ rfl hl.1 rfl (Nat.le_of_ble_eq_true rfl) d_P_add_72 ⟨(show 0 + 0 ≤ 3 * (x.hcap - x.hN) by omega), (show 0 + 0 ≤ 6 * (x.hcap - x.hN) by omega)⟩) hP hD hS hA (fun u3 H locs hp9 hP hD hS => ?_)
    have hP : va_P D vwCl (VW dA h ad (VS.s_hV (VS.s_hT (VS.s_hO x (va_up x.hO x.hsize w)) (va_up x.hT x.hsize a)) (va_up x.hV x.hsize b))) H := hP
    have hD : va_D A (VW dA h ad (VS.s_hV (VS.s_hT (VS.s_hO x (va_up x.hO x.hsize w)) (va_up x.hT x.hsize a)) (va_up x.hV x.hsize b))) := hD
    refine lv_aload_n hx hb d_P_add_75 rfl (lv_at hl 0 rfl) ?_
    refine lv_dup hx hb d_P_add_76 rfl ?_
    refine gF (v := .int (nI x.hsize)) hx hb hown hE hK hP 9 rfl rfl layP 3 (by decide) w565 rfl d_P_add_77 ?_
    refine lv_iconst (v := 1) hx hb d_P_add_80 (by decide) ?_
    refine lv_iadd hx hb d_P_add_81 (tpi (y := nI (x.hsize + 1)) (nI_add (x.hsize) (1)) ?_)
    refine pF (v := .int (nI (x.hsize + 1))) hx hb hown hE hK hP hD hS 9 rfl rfl layP tyP tokP nmP 3 (by decide) w565 rfl rfl rfl (Nat.le_of_ble_eq_true rfl) d_P_add_82 (fun H locs hP hD hS => ?_)
    have hP : va_P D vwCl (VW dA h ad (VS.s_hsize (VS.s_hV (VS.s_hT (VS.s_hO x (va_up x.hO x.hsize w)) (va_up x.hT x.hsize a)) (va_up x.hV x.hsize b)) (x.hsize + 1))) H := hP
    have hD : va_D A (VW dA h ad (VS.s_hsize (VS.s_hV (VS.s_hT (VS.s_hO x (va_up x.hO x.hsize w)) (va_up x.hT x.hsize a)) (va_up x.hV x.hsize b)) (x.hsize + 1))) := hD
    exact rfV hx hb hr hlk hS (VS.s_hsize (VS.s_hV (VS.s_hT (VS.s_hO x (va_up x.hO x.hsize w)) (va_up x.hT x.hsize a)) (va_up x.hV x.hsize b)) (x.hsize + 1)) ⟨x.hA, by unfold VS.haF; rw [if_neg g1]; rfl⟩ hP hD (show 0 + 0 ≤ 3 * (x.hcap - x.hN) by omega) (show 0 + 0 ≤ 6 * (x.hcap - x.hN) by omega) d_P_add_85
  · have g1 := (nI_eq (a := x.hsize) (b := x.hN) (by omega) (by omega)).mp g1
    have jc : x.hcap = 2 * x.hsize := if_pos g1
    refine lv_aload_n hx hb d_P_add_12 rfl (lv_at hl 0 rfl) ?_
    refine lv_aload_n hx hb d_P_add_13 rfl (lv_at hl 0 rfl) ?_
    refine gF (v := .ref (x.hA 0)) hx hb hown hE hK hP 9 rfl rfl layP 0 (by decide) w185 rfl d_P_add_14 ?_
    refine lv_iconst (v := 2) hx hb d_P_add_17 (by decide) ?_
    refine lv_aload_n hx hb d_P_add_18 rfl (lv_at hl 0 rfl) ?_
    refine gF (v := .int (nI x.hsize)) hx hb hown hE hK hP 9 rfl rfl layP 3 (by decide) w565 rfl d_P_add_19 ?_
    refine lv_imul hx hb d_P_add_22 (tpi (y := nI (2 * x.hsize)) (pk_mul (2) (x.hsize)) ?_)
    refine jfR (rnS (As := [.ref (x.hA 0), .int (nI (2 * x.hsize))]) (rest := [.ref (ad 1)]) hx hb hml hown hE hK (hN _ _ hS) hP hD (v_copyOfI l D dA H.size (VW dA h ad x) (10) (x.hA 0) x.hN x.hO (2 * x.hsize) rfl (show x.hN < 2 * x.hsize by omega) (show 2 * x.hsize ≤ 131072 by omega)) w1111 w1130 w1113 w712 rfl rfl ⟨⟨by decide, by decide⟩, rfl⟩ ⟨(Nat.le_of_ble_eq_true rfl), (Nat.le_of_ble_eq_true rfl)⟩ rfl hl.1 rfl (Nat.le_of_ble_eq_true rfl) d_P_add_23 ⟨(show 0 + 1 ≤ 3 * (x.hcap - x.hN) by omega), (show 0 + (2 * x.hsize) ≤ 6 * (x.hcap - x.hN) by omega)⟩) hP hD hS hA (fun u9 q4 H locs hp9 hP hD hS => ?_)
    have hP : va_P D vwCl ([(q4, .inl (dA 1, 2 * x.hsize, .inl (fun z9 => nI ((va_cpy x.hO (fun _ => 0) 0 0 (min x.hN (2 * x.hsize))) z9))))] ++ VW dA h ad x) H := hP
    have hD : va_D A ([(q4, .inl (dA 1, 2 * x.hsize, .inl (fun z9 => nI ((va_cpy x.hO (fun _ => 0) 0 0 (min x.hN (2 * x.hsize))) z9))))] ++ VW dA h ad x) := hD
    refine pF (v := .ref q4) hx hb hown hE hK hP hD hS 10 rfl rfl layP tyP tokP nmP 0 (by decide) w185 rfl rfl rfl (Nat.le_of_ble_eq_true rfl) d_P_add_26 (fun H locs hP hD hS => ?_)
    have hP : va_P D vwCl ([(q4, .inl (dA 1, 2 * x.hsize, .inl (fun z9 => nI ((va_cpy x.hO (fun _ => 0) 0 0 (min x.hN (2 * x.hsize))) z9))))] ++ VWf dA h ad x (VS.s_hA x (va_up x.hA 0 q4))) H := hP
    have hD : va_D A ([(q4, .inl (dA 1, 2 * x.hsize, .inl (fun z9 => nI ((va_cpy x.hO (fun _ => 0) 0 0 (min x.hN (2 * x.hsize))) z9))))] ++ VWf dA h ad x (VS.s_hA x (va_up x.hA 0 q4))) := hD
    refine lv_aload_n hx hb d_P_add_29 rfl (lv_at hl 0 rfl) ?_
    refine lv_aload_n hx hb d_P_add_30 rfl (lv_at hl 0 rfl) ?_
    refine gF (v := .ref (x.hA 1)) hx hb hown hE hK hP 10 rfl rfl layP 1 (by decide) w187 rfl d_P_add_31 ?_
    refine lv_iconst (v := 2) hx hb d_P_add_34 (by decide) ?_
    refine lv_aload_n hx hb d_P_add_35 rfl (lv_at hl 0 rfl) ?_
    refine gF (v := .int (nI x.hsize)) hx hb hown hE hK hP 10 rfl rfl layP 3 (by decide) w565 rfl d_P_add_36 ?_
    refine lv_imul hx hb d_P_add_39 (tpi (y := nI (2 * x.hsize)) (pk_mul (2) (x.hsize)) ?_)
    refine jfR (rnS (As := [.ref (x.hA 1), .int (nI (2 * x.hsize))]) (rest := [.ref (ad 1)]) hx hb hml hown hE hK (hN _ _ hS) hP hD (v_copyOfJ l D dA H.size ([(q4, .inl (dA 1, 2 * x.hsize, .inl (fun z9 => nI ((va_cpy x.hO (fun _ => 0) 0 0 (min x.hN (2 * x.hsize))) z9))))] ++ VWf dA h ad x (VS.s_hA x (va_up x.hA 0 q4))) (12) (x.hA 1) x.hN x.hT (2 * x.hsize) rfl (show x.hN < 2 * x.hsize by omega) (show 2 * x.hsize ≤ 131072 by omega)) w1114 w1131 w1116 w712 rfl rfl ⟨⟨by decide, by decide⟩, rfl⟩ ⟨(Nat.le_of_ble_eq_true rfl), (Nat.le_of_ble_eq_true rfl)⟩ rfl hl.1 rfl (Nat.le_of_ble_eq_true rfl) d_P_add_40 ⟨(show (0 + 1) + 1 ≤ 3 * (x.hcap - x.hN) by omega), (show (0 + (2 * x.hsize)) + (2 * x.hsize) ≤ 6 * (x.hcap - x.hN) by omega)⟩) hP hD hS hA (fun u9 q5 H locs hp9 hP hD hS => ?_)
    have hP : va_P D vwCl ([(q5, .inl (dA 2, 2 * x.hsize, .inr (.inl (va_cpy x.hT (fun _ => 0) 0 0 (min x.hN (2 * x.hsize)))))), (q4, .inl (dA 1, 2 * x.hsize, .inl (fun z9 => nI ((va_cpy x.hO (fun _ => 0) 0 0 (min x.hN (2 * x.hsize))) z9))))] ++ VWf dA h ad x (VS.s_hA x (va_up x.hA 0 q4))) H := hP
    have hD : va_D A ([(q5, .inl (dA 2, 2 * x.hsize, .inr (.inl (va_cpy x.hT (fun _ => 0) 0 0 (min x.hN (2 * x.hsize)))))), (q4, .inl (dA 1, 2 * x.hsize, .inl (fun z9 => nI ((va_cpy x.hO (fun _ => 0) 0 0 (min x.hN (2 * x.hsize))) z9))))] ++ VWf dA h ad x (VS.s_hA x (va_up x.hA 0 q4))) := hD
    refine pF (v := .ref q5) hx hb hown hE hK hP hD hS 11 rfl rfl layP tyP tokP nmP 1 (by decide) w187 rfl rfl rfl (Nat.le_of_ble_eq_true rfl) d_P_add_43 (fun H locs hP hD hS => ?_)
    have hP : va_P D vwCl ([(q5, .inl (dA 2, 2 * x.hsize, .inr (.inl (va_cpy x.hT (fun _ => 0) 0 0 (min x.hN (2 * x.hsize)))))), (q4, .inl (dA 1, 2 * x.hsize, .inl (fun z9 => nI ((va_cpy x.hO (fun _ => 0) 0 0 (min x.hN (2 * x.hsize))) z9))))] ++ VWf dA h ad x (VS.s_hA x (va_up (va_up x.hA 0 q4) 1 q5))) H := hP
    have hD : va_D A ([(q5, .inl (dA 2, 2 * x.hsize, .inr (.inl (va_cpy x.hT (fun _ => 0) 0 0 (min x.hN (2 * x.hsize)))))), (q4, .inl (dA 1, 2 * x.hsize, .inl (fun z9 => nI ((va_cpy x.hO (fun _ => 0) 0 0 (min x.hN (2 * x.hsize))) z9))))] ++ VWf dA h ad x (VS.s_hA x (va_up (va_up x.hA 0 q4) 1 q5))) := hD
    refine lv_aload_n hx hb d_P_add_46 rfl (lv_at hl 0 rfl) ?_
    refine lv_aload_n hx hb d_P_add_47 rfl (lv_at hl 0 rfl) ?_
    refine gF (v := .ref (x.hA 2)) hx hb hown hE hK hP 11 rfl rfl layP 2 (by decide) w188 rfl d_P_add_48 ?_
    refine lv_iconst (v := 2) hx hb d_P_add_51 (by decide) ?_
    refine lv_aload_n hx hb d_P_add_52 rfl (lv_at hl 0 rfl) ?_
    refine gF (v := .int (nI x.hsize)) hx hb hown hE hK hP 11 rfl rfl layP 3 (by decide) w565 rfl d_P_add_53 ?_
    refine lv_imul hx hb d_P_add_56 (tpi (y := nI (2 * x.hsize)) (pk_mul (2) (x.hsize)) ?_)
    refine jfR (rnS (As := [.ref (x.hA 2), .int (nI (2 * x.hsize))]) (rest := [.ref (ad 1)]) hx hb hml hown hE hK (hN _ _ hS) hP hD (v_copyOfJ l D dA H.size ([(q5, .inl (dA 2, 2 * x.hsize, .inr (.inl (va_cpy x.hT (fun _ => 0) 0 0 (min x.hN (2 * x.hsize)))))), (q4, .inl (dA 1, 2 * x.hsize, .inl (fun z9 => nI ((va_cpy x.hO (fun _ => 0) 0 0 (min x.hN (2 * x.hsize))) z9))))] ++ VWf dA h ad x (VS.s_hA x (va_up (va_up x.hA 0 q4) 1 q5))) (14) (x.hA 2) x.hN x.hV (2 * x.hsize) rfl (show x.hN < 2 * x.hsize by omega) (show 2 * x.hsize ≤ 131072 by omega)) w1114 w1131 w1116 w712 rfl rfl ⟨⟨by decide, by decide⟩, rfl⟩ ⟨(Nat.le_of_ble_eq_true rfl), (Nat.le_of_ble_eq_true rfl)⟩ rfl hl.1 rfl (Nat.le_of_ble_eq_true rfl) d_P_add_57 ⟨(show (0 + 1 + 1) + 1 ≤ 3 * (x.hcap - x.hN) by omega), (show (0 + (2 * x.hsize) + (2 * x.hsize)) + (2 * x.hsize) ≤ 6 * (x.hcap - x.hN) by omega)⟩) hP hD hS hA (fun u9 q6 H locs hp9 hP hD hS => ?_)
    have hP : va_P D vwCl ([(q6, .inl (dA 2, 2 * x.hsize, .inr (.inl (va_cpy x.hV (fun _ => 0) 0 0 (min x.hN (2 * x.hsize)))))), (q5, .inl (dA 2, 2 * x.hsize, .inr (.inl (va_cpy x.hT (fun _ => 0) 0 0 (min x.hN (2 * x.hsize)))))), (q4, .inl (dA 1, 2 * x.hsize, .inl (fun z9 => nI ((va_cpy x.hO (fun _ => 0) 0 0 (min x.hN (2 * x.hsize))) z9))))] ++ VWf dA h ad x (VS.s_hA x (va_up (va_up x.hA 0 q4) 1 q5))) H := hP
    have hD : va_D A ([(q6, .inl (dA 2, 2 * x.hsize, .inr (.inl (va_cpy x.hV (fun _ => 0) 0 0 (min x.hN (2 * x.hsize)))))), (q5, .inl (dA 2, 2 * x.hsize, .inr (.inl (va_cpy x.hT (fun _ => 0) 0 0 (min x.hN (2 * x.hsize)))))), (q4, .inl (dA 1, 2 * x.hsize, .inl (fun z9 => nI ((va_cpy x.hO (fun _ => 0) 0 0 (min x.hN (2 * x.hsize))) z9))))] ++ VWf dA h ad x (VS.s_hA x (va_up (va_up x.hA 0 q4) 1 q5))) := hD
    refine pF (v := .ref q6) hx hb hown hE hK hP hD hS 12 rfl rfl layP tyP tokP nmP 2 (by decide) w188 rfl rfl rfl (Nat.le_of_ble_eq_true rfl) d_P_add_60 (fun H locs hP hD hS => ?_)
    have hP : va_P D vwCl ([(q6, .inl (dA 2, 2 * x.hsize, .inr (.inl (va_cpy x.hV (fun _ => 0) 0 0 (min x.hN (2 * x.hsize)))))), (q5, .inl (dA 2, 2 * x.hsize, .inr (.inl (va_cpy x.hT (fun _ => 0) 0 0 (min x.hN (2 * x.hsize)))))), (q4, .inl (dA 1, 2 * x.hsize, .inl (fun z9 => nI ((va_cpy x.hO (fun _ => 0) 0 0 (min x.hN (2 * x.hsize))) z9))))] ++ VWf dA h ad x (VS.s_hA x (va_up (va_up (va_up x.hA 0 q4) 1 q5) 2 q6))) H := hP
    have hD : va_D A ([(q6, .inl (dA 2, 2 * x.hsize, .inr (.inl (va_cpy x.hV (fun _ => 0) 0 0 (min x.hN (2 * x.hsize)))))), (q5, .inl (dA 2, 2 * x.hsize, .inr (.inl (va_cpy x.hT (fun _ => 0) 0 0 (min x.hN (2 * x.hsize)))))), (q4, .inl (dA 1, 2 * x.hsize, .inl (fun z9 => nI ((va_cpy x.hO (fun _ => 0) 0 0 (min x.hN (2 * x.hsize))) z9))))] ++ VWf dA h ad x (VS.s_hA x (va_up (va_up (va_up x.hA 0 q4) 1 q5) 2 q6))) := hD
    have hP := swP 14 hP
    have hD := swD 14 hD
    have hP := swP 12 hP
    have hD := swD 12 hD
    have hP := swP 10 hP
    have hD := swD 10 hD
    have hP : va_P D vwCl (VW dA h ad (VS.s_hV (VS.s_hT (VS.s_hO (VS.s_hN (VS.s_hA x (va_up (va_up (va_up x.hA 0 q4) 1 q5) 2 q6)) (2 * x.hsize)) (va_cpy x.hO (fun _ => 0) 0 0 (min x.hN (2 * x.hsize)))) (va_cpy x.hT (fun _ => 0) 0 0 (min x.hN (2 * x.hsize)))) (va_cpy x.hV (fun _ => 0) 0 0 (min x.hN (2 * x.hsize))))) H := hP
    have hD : va_D A (VW dA h ad (VS.s_hV (VS.s_hT (VS.s_hO (VS.s_hN (VS.s_hA x (va_up (va_up (va_up x.hA 0 q4) 1 q5) 2 q6)) (2 * x.hsize)) (va_cpy x.hO (fun _ => 0) 0 0 (min x.hN (2 * x.hsize)))) (va_cpy x.hT (fun _ => 0) 0 0 (min x.hN (2 * x.hsize)))) (va_cpy x.hV (fun _ => 0) 0 0 (min x.hN (2 * x.hsize))))) := hD
    refine lv_aload_n hx hb d_P_add_63 rfl (lv_at hl 0 rfl) ?_
    refine lv_aload_n hx hb d_P_add_64 rfl (lv_at hl 0 rfl) ?_
    refine gF (v := .int (nI x.hsize)) hx hb hown hE hK hP 9 rfl rfl layP 3 (by decide) w565 rfl d_P_add_65 ?_
    refine lv_iload_n hx hb d_P_add_68 rfl (lv_at hl 1 rfl) ?_
    refine lv_lload_n hx hb d_P_add_69 rfl (lv_at hl 2 rfl) ?_
    refine lv_lload hx hb d_P_add_70 (lv_at hl 3 rfl) ?_
    refine jfV (rnV (As := [.int (nI x.hsize), .int (nI w), .long a, .long b]) (rest := []) hx hb hml hown hE hK (hN _ _ hS) hP hD (v_pset_h l D dA H.size h ad (VS.s_hV (VS.s_hT (VS.s_hO (VS.s_hN (VS.s_hA x (va_up (va_up (va_up x.hA 0 q4) 1 q5) 2 q6)) (2 * x.hsize)) (va_cpy x.hO (fun _ => 0) 0 0 (min x.hN (2 * x.hsize)))) (va_cpy x.hT (fun _ => 0) 0 0 (min x.hN (2 * x.hsize)))) (va_cpy x.hV (fun _ => 0) 0 0 (min x.hN (2 * x.hsize)))) x.hsize w a b (show x.hsize < (2 * x.hsize) from by omega) (show (2 * x.hsize) ≤ 65536 from by omega)) (q0 := 9) rfl rfl w1086 w1085 w1087 w1088 w578 rfl rfl ⟨⟨by decide, by decide⟩, rfl⟩ ⟨(Nat.le_of_ble_eq_true rfl), (Nat.le_of_ble_eq_true rfl)⟩ rfl hl.1 rfl (Nat.le_of_ble_eq_true rfl) d_P_add_72 ⟨(show 0 + 1 + 1 + 1 + 0 ≤ 3 * (x.hcap - x.hN) by omega), (show 0 + (2 * x.hsize) + (2 * x.hsize) + (2 * x.hsize) + 0 ≤ 6 * (x.hcap - x.hN) by omega)⟩) hP hD hS hA (fun u8 H locs hp9 hP hD hS => ?_)
    have hP : va_P D vwCl (VW dA h ad (VS.s_hV (VS.s_hT (VS.s_hO (VS.s_hN (VS.s_hA x (va_up (va_up (va_up x.hA 0 q4) 1 q5) 2 q6)) (2 * x.hsize)) (va_up (va_cpy x.hO (fun _ => 0) 0 0 (min x.hN (2 * x.hsize))) x.hsize w)) (va_up (va_cpy x.hT (fun _ => 0) 0 0 (min x.hN (2 * x.hsize))) x.hsize a)) (va_up (va_cpy x.hV (fun _ => 0) 0 0 (min x.hN (2 * x.hsize))) x.hsize b))) H := hP
    have hD : va_D A (VW dA h ad (VS.s_hV (VS.s_hT (VS.s_hO (VS.s_hN (VS.s_hA x (va_up (va_up (va_up x.hA 0 q4) 1 q5) 2 q6)) (2 * x.hsize)) (va_up (va_cpy x.hO (fun _ => 0) 0 0 (min x.hN (2 * x.hsize))) x.hsize w)) (va_up (va_cpy x.hT (fun _ => 0) 0 0 (min x.hN (2 * x.hsize))) x.hsize a)) (va_up (va_cpy x.hV (fun _ => 0) 0 0 (min x.hN (2 * x.hsize))) x.hsize b))) := hD
    refine lv_aload_n hx hb d_P_add_75 rfl (lv_at hl 0 rfl) ?_
    refine lv_dup hx hb d_P_add_76 rfl ?_
    refine gF (v := .int (nI x.hsize)) hx hb hown hE hK hP 9 rfl rfl layP 3 (by decide) w565 rfl d_P_add_77 ?_
    refine lv_iconst (v := 1) hx hb d_P_add_80 (by decide) ?_
    refine lv_iadd hx hb d_P_add_81 (tpi (y := nI (x.hsize + 1)) (nI_add (x.hsize) (1)) ?_)
    refine pF (v := .int (nI (x.hsize + 1))) hx hb hown hE hK hP hD hS 9 rfl rfl layP tyP tokP nmP 3 (by decide) w565 rfl rfl rfl (Nat.le_of_ble_eq_true rfl) d_P_add_82 (fun H locs hP hD hS => ?_)
    have hP : va_P D vwCl (VW dA h ad (VS.s_hsize (VS.s_hV (VS.s_hT (VS.s_hO (VS.s_hN (VS.s_hA x (va_up (va_up (va_up x.hA 0 q4) 1 q5) 2 q6)) (2 * x.hsize)) (va_up (va_cpy x.hO (fun _ => 0) 0 0 (min x.hN (2 * x.hsize))) x.hsize w)) (va_up (va_cpy x.hT (fun _ => 0) 0 0 (min x.hN (2 * x.hsize))) x.hsize a)) (va_up (va_cpy x.hV (fun _ => 0) 0 0 (min x.hN (2 * x.hsize))) x.hsize b)) (x.hsize + 1))) H := hP
    have hD : va_D A (VW dA h ad (VS.s_hsize (VS.s_hV (VS.s_hT (VS.s_hO (VS.s_hN (VS.s_hA x (va_up (va_up (va_up x.hA 0 q4) 1 q5) 2 q6)) (2 * x.hsize)) (va_up (va_cpy x.hO (fun _ => 0) 0 0 (min x.hN (2 * x.hsize))) x.hsize w)) (va_up (va_cpy x.hT (fun _ => 0) 0 0 (min x.hN (2 * x.hsize))) x.hsize a)) (va_up (va_cpy x.hV (fun _ => 0) 0 0 (min x.hN (2 * x.hsize))) x.hsize b)) (x.hsize + 1))) := hD
    exact rfV hx hb hr hlk hS (VS.s_hsize (VS.s_hV (VS.s_hT (VS.s_hO (VS.s_hN (VS.s_hA x (va_up (va_up (va_up x.hA 0 q4) 1 q5) 2 q6)) (2 * x.hsize)) (va_up (va_cpy x.hO (fun _ => 0) 0 0 (min x.hN (2 * x.hsize))) x.hsize w)) (va_up (va_cpy x.hT (fun _ => 0) 0 0 (min x.hN (2 * x.hsize))) x.hsize a)) (va_up (va_cpy x.hV (fun _ => 0) 0 0 (min x.hN (2 * x.hsize))) x.hsize b)) (x.hsize + 1)) ⟨va_up (va_up (va_up x.hA 0 q4) 1 q5) 2 q6, by unfold VS.haF; rw [if_pos g1]; rfl⟩ hP hD (show 0 + 1 + 1 + 1 + 0 ≤ 3 * (x.hcap - x.hN) by omega) (show 0 + (2 * x.hsize) + (2 * x.hsize) + (2 * x.hsize) + 0 ≤ 6 * (x.hcap - x.hN) by omega) d_P_add_85
def VS.ggS (x : VS) (pa : Nat → Nat) : VS := VS.s_gV (VS.s_gT (VS.s_gO (VS.s_gN (VS.s_gA x pa) (2 * x.gsize)) (va_cpy x.gO (fun _ => 0) 0 0 (min x.gN (2 * x.gsize)))) (va_cpy x.gT (fun _ => 0) 0 0 (min x.gN (2 * x.gsize)))) (va_cpy x.gV (fun _ => 0) 0 0 (min x.gN (2 * x.gsize)))
def VS.gaS (x : VS) (w : Nat) (a b : Int64) : VS := VS.s_gsize (VS.s_gV (VS.s_gT (VS.s_gO x (va_up x.gO x.gsize w)) (va_up x.gT x.gsize a)) (va_up x.gV x.gsize b)) (x.gsize + 1)
def VS.gcap (x : VS) : Nat := if x.gsize = x.gN then 2 * x.gsize else x.gN
def VS.gaF (x : VS) (pa : Nat → Nat) (w : Nat) (a b : Int64) : VS := (if x.gsize = x.gN then x.ggS pa else x).gaS w a b
set_option maxHeartbeats 4000000 in
set_option maxRecDepth 100000 in
theorem v_paddF_g (l : Launch) (D : va_G) (dA : Nat → ClassId) (sz : Nat) (h : Nat) (ad : Nat → Nat) (x : VS) (w : Nat) (a : Int64) (b : Int64) (hs1 : x.gsize ≤ x.gN) (hs2 : 0 < x.gN) (hs3 : x.gN ≤ 32768) : Met l ⟨"SeriesVault$Points", "add", "(IJJ)V"⟩ [Cond.code ⟨"SeriesVault$Points", "add", "(IJJ)V"⟩ prog_5_method_3_code 6 none] { frames := 2, cells := 3 * (x.gcap - x.gN), slots := 6 * (x.gcap - x.gN), locals := 62 } (pC D dA [.ref (ad 2), .int (nI w), .long a, .long b] (VW dA h ad x) sz) (va_Qv (fun (u9 : VS) => ∃ pa : Nat → Nat, u9 = x.gaF pa w a b) (fun (u9 : VS) t9 => bW D (va_A (VW dA h ad x) sz) (VW dA h ad u9) t9) (va_A (VW dA h ad x) sz)) (3 * (x.gcap - x.gN)) (6 * (x.gcap - x.gN)) (va_A (VW dA h ad x) sz) := by
  refine mkC (y := ⟨"SeriesVault$Points", "add", "(IJJ)V"⟩) (cc := prog_5_method_3_code) (maxL := 6) (av := [.ref (ad 2), .int (nI w), .long a, .long b]) (ws := VW dA h ad x) (sz := sz) (Qc := fun A => va_Qv (fun (u9 : VS) => ∃ pa : Nat → Nat, u9 = x.gaF pa w a b) (fun (u9 : VS) t9 => bW D A (VW dA h ad u9) t9) A) (by decide) (Nat.le_of_ble_eq_true rfl) ?_
  intro A p e s m below meth c ls hsz hB
  obtain ⟨hx, hb, hr, hml, hown, hin, hlk, hE, hK, hP, hD, hS, hA, hN, hl⟩ := hB
  have hown : s.vm.findClass "SeriesVault$Points" = some m.cls := hown
  have hl : lv_has ls 6 [(0, .ref (ad 2)), (1, .int (nI w)), (2, .long a), (4, .long b)] := hl
  obtain ⟨H, hH⟩ : ∃ z, z = s.heap := ⟨_, rfl⟩
  have hP : va_P D vwCl (VW dA h ad x) H := by rw [hH]; exact hP
  have hS : va_S A s.heap H [] := by rw [hH]; exact hS
  rw [← hH]
  refine lv_aload_n hx hb d_P_add_0 rfl (lv_at hl 0 rfl) ?_
  refine gF (v := .int (nI x.gsize)) hx hb hown hE hK hP 13 rfl rfl layP 3 (by decide) w565 rfl d_P_add_1 ?_
  refine lv_aload_n hx hb d_P_add_4 rfl (lv_at hl 0 rfl) ?_
  refine gF (v := .ref (x.gA 0)) hx hb hown hE hK hP 13 rfl rfl layP 0 (by decide) w185 rfl d_P_add_5 ?_
  refine va_alen (v := nI x.gN) hx hb hK hP (14) 1 rfl rfl rfl d_P_add_8 ?_
  refine lv_icmp_ne hx hb d_P_add_9 (tgt := 63) rfl (fun g1 => ?_) (fun g1 => ?_)
  · have g1 := mt (nI_eq (a := x.gsize) (b := x.gN) (by omega) (by omega)).mpr g1
    have jc : x.gcap = x.gN := if_neg g1
    refine lv_aload_n hx hb d_P_add_63 rfl (lv_at hl 0 rfl) ?_
    refine lv_aload_n hx hb d_P_add_64 rfl (lv_at hl 0 rfl) ?_
    refine gF (v := .int (nI x.gsize)) hx hb hown hE hK hP 13 rfl rfl layP 3 (by decide) w565 rfl d_P_add_65 ?_
    refine lv_iload_n hx hb d_P_add_68 rfl (lv_at hl 1 rfl) ?_
    refine lv_lload_n hx hb d_P_add_69 rfl (lv_at hl 2 rfl) ?_
    refine lv_lload hx hb d_P_add_70 (lv_at hl 3 rfl) ?_
    refine jfV (rnV (As := [.int (nI x.gsize), .int (nI w), .long a, .long b]) (rest := []) hx hb hml hown hE hK (hN _ _ hS) hP hD (v_pset_g l D dA H.size h ad x x.gsize w a b (show x.gsize < x.gN from by omega) (show x.gN ≤ 65536 from by omega)) (q0 := 13) rfl rfl w1086 w1085 w1087 w1088 w578 rfl rfl ⟨⟨by decide, by decide⟩, rfl⟩ ⟨(Nat.le_of_ble_eq_true rfl), (Nat.le_of_ble_eq_true rfl)⟩ rfl hl.1 rfl (Nat.le_of_ble_eq_true rfl) d_P_add_72 ⟨(show 0 + 0 ≤ 3 * (x.gcap - x.gN) by omega), (show 0 + 0 ≤ 6 * (x.gcap - x.gN) by omega)⟩) hP hD hS hA (fun u3 H locs hp9 hP hD hS => ?_)
    have hP : va_P D vwCl (VW dA h ad (VS.s_gV (VS.s_gT (VS.s_gO x (va_up x.gO x.gsize w)) (va_up x.gT x.gsize a)) (va_up x.gV x.gsize b))) H := hP
    have hD : va_D A (VW dA h ad (VS.s_gV (VS.s_gT (VS.s_gO x (va_up x.gO x.gsize w)) (va_up x.gT x.gsize a)) (va_up x.gV x.gsize b))) := hD
    refine lv_aload_n hx hb d_P_add_75 rfl (lv_at hl 0 rfl) ?_
    refine lv_dup hx hb d_P_add_76 rfl ?_
    refine gF (v := .int (nI x.gsize)) hx hb hown hE hK hP 13 rfl rfl layP 3 (by decide) w565 rfl d_P_add_77 ?_
    refine lv_iconst (v := 1) hx hb d_P_add_80 (by decide) ?_
    refine lv_iadd hx hb d_P_add_81 (tpi (y := nI (x.gsize + 1)) (nI_add (x.gsize) (1)) ?_)
    refine pF (v := .int (nI (x.gsize + 1))) hx hb hown hE hK hP hD hS 13 rfl rfl layP tyP tokP nmP 3 (by decide) w565 rfl rfl rfl (Nat.le_of_ble_eq_true rfl) d_P_add_82 (fun H locs hP hD hS => ?_)
    have hP : va_P D vwCl (VW dA h ad (VS.s_gsize (VS.s_gV (VS.s_gT (VS.s_gO x (va_up x.gO x.gsize w)) (va_up x.gT x.gsize a)) (va_up x.gV x.gsize b)) (x.gsize + 1))) H := hP
    have hD : va_D A (VW dA h ad (VS.s_gsize (VS.s_gV (VS.s_gT (VS.s_gO x (va_up x.gO x.gsize w)) (va_up x.gT x.gsize a)) (va_up x.gV x.gsize b)) (x.gsize + 1))) := hD
    exact rfV hx hb hr hlk hS (VS.s_gsize (VS.s_gV (VS.s_gT (VS.s_gO x (va_up x.gO x.gsize w)) (va_up x.gT x.gsize a)) (va_up x.gV x.gsize b)) (x.gsize + 1)) ⟨x.gA, by unfold VS.gaF; rw [if_neg g1]; rfl⟩ hP hD (show 0 + 0 ≤ 3 * (x.gcap - x.gN) by omega) (show 0 + 0 ≤ 6 * (x.gcap - x.gN) by omega) d_P_add_85
  · have g1 := (nI_eq (a := x.gsize) (b := x.gN) (by omega) (by omega)).mp g1
    have jc : x.gcap = 2 * x.gsize := if_pos g1
    refine lv_aload_n hx hb d_P_add_12 rfl (lv_at hl 0 rfl) ?_
    refine lv_aload_n hx hb d_P_add_13 rfl (lv_at hl 0 rfl) ?_
    refine gF (v := .ref (x.gA 0)) hx hb hown hE hK hP 13 rfl rfl layP 0 (by decide) w185 rfl d_P_add_14 ?_
    refine lv_iconst (v := 2) hx hb d_P_add_17 (by decide) ?_
    refine lv_aload_n hx hb d_P_add_18 rfl (lv_at hl 0 rfl) ?_
    refine gF (v := .int (nI x.gsize)) hx hb hown hE hK hP 13 rfl rfl layP 3 (by decide) w565 rfl d_P_add_19 ?_
    refine lv_imul hx hb d_P_add_22 (tpi (y := nI (2 * x.gsize)) (pk_mul (2) (x.gsize)) ?_)
    refine jfR (rnS (As := [.ref (x.gA 0), .int (nI (2 * x.gsize))]) (rest := [.ref (ad 2)]) hx hb hml hown hE hK (hN _ _ hS) hP hD (v_copyOfI l D dA H.size (VW dA h ad x) (14) (x.gA 0) x.gN x.gO (2 * x.gsize) rfl (show x.gN < 2 * x.gsize by omega) (show 2 * x.gsize ≤ 131072 by omega)) w1111 w1130 w1113 w712 rfl rfl ⟨⟨by decide, by decide⟩, rfl⟩ ⟨(Nat.le_of_ble_eq_true rfl), (Nat.le_of_ble_eq_true rfl)⟩ rfl hl.1 rfl (Nat.le_of_ble_eq_true rfl) d_P_add_23 ⟨(show 0 + 1 ≤ 3 * (x.gcap - x.gN) by omega), (show 0 + (2 * x.gsize) ≤ 6 * (x.gcap - x.gN) by omega)⟩) hP hD hS hA (fun u9 q4 H locs hp9 hP hD hS => ?_)
    have hP : va_P D vwCl ([(q4, .inl (dA 1, 2 * x.gsize, .inl (fun z9 => nI ((va_cpy x.gO (fun _ => 0) 0 0 (min x.gN (2 * x.gsize))) z9))))] ++ VW dA h ad x) H := hP
    have hD : va_D A ([(q4, .inl (dA 1, 2 * x.gsize, .inl (fun z9 => nI ((va_cpy x.gO (fun _ => 0) 0 0 (min x.gN (2 * x.gsize))) z9))))] ++ VW dA h ad x) := hD
    refine pF (v := .ref q4) hx hb hown hE hK hP hD hS 14 rfl rfl layP tyP tokP nmP 0 (by decide) w185 rfl rfl rfl (Nat.le_of_ble_eq_true rfl) d_P_add_26 (fun H locs hP hD hS => ?_)
    have hP : va_P D vwCl ([(q4, .inl (dA 1, 2 * x.gsize, .inl (fun z9 => nI ((va_cpy x.gO (fun _ => 0) 0 0 (min x.gN (2 * x.gsize))) z9))))] ++ VWf dA h ad x (VS.s_gA x (va_up x.gA 0 q4))) H := hP
    have hD : va_D A ([(q4, .inl (dA 1, 2 * x.gsize, .inl (fun z9 => nI ((va_cpy x.gO (fun _ => 0) 0 0 (min x.gN (2 * x.gsize))) z9))))] ++ VWf dA h ad x (VS.s_gA x (va_up x.gA 0 q4))) := hD
    refine lv_aload_n hx hb d_P_add_29 rfl (lv_at hl 0 rfl) ?_
    refine lv_aload_n hx hb d_P_add_30 rfl (lv_at hl 0 rfl) ?_
    refine gF (v := .ref (x.gA 1)) hx hb hown hE hK hP 14 rfl rfl layP 1 (by decide) w187 rfl d_P_add_31 ?_
    refine lv_iconst (v := 2) hx hb d_P_add_34 (by decide) ?_
    refine lv_aload_n hx hb d_P_add_35 rfl (lv_at hl 0 rfl) ?_
    refine gF (v := .int (nI x.gsize)) hx hb hown hE hK hP 14 rfl rfl layP 3 (by decide) w565 rfl d_P_add_36 ?_
    refine lv_imul hx hb d_P_add_39 (tpi (y := nI (2 * x.gsize)) (pk_mul (2) (x.gsize)) ?_)
    refine jfR (rnS (As := [.ref (x.gA 1), .int (nI (2 * x.gsize))]) (rest := [.ref (ad 2)]) hx hb hml hown hE hK (hN _ _ hS) hP hD (v_copyOfJ l D dA H.size ([(q4, .inl (dA 1, 2 * x.gsize, .inl (fun z9 => nI ((va_cpy x.gO (fun _ => 0) 0 0 (min x.gN (2 * x.gsize))) z9))))] ++ VWf dA h ad x (VS.s_gA x (va_up x.gA 0 q4))) (16) (x.gA 1) x.gN x.gT (2 * x.gsize) rfl (show x.gN < 2 * x.gsize by omega) (show 2 * x.gsize ≤ 131072 by omega)) w1114 w1131 w1116 w712 rfl rfl ⟨⟨by decide, by decide⟩, rfl⟩ ⟨(Nat.le_of_ble_eq_true rfl), (Nat.le_of_ble_eq_true rfl)⟩ rfl hl.1 rfl (Nat.le_of_ble_eq_true rfl) d_P_add_40 ⟨(show (0 + 1) + 1 ≤ 3 * (x.gcap - x.gN) by omega), (show (0 + (2 * x.gsize)) + (2 * x.gsize) ≤ 6 * (x.gcap - x.gN) by omega)⟩) hP hD hS hA (fun u9 q5 H locs hp9 hP hD hS => ?_)
    have hP : va_P D vwCl ([(q5, .inl (dA 2, 2 * x.gsize, .inr (.inl (va_cpy x.gT (fun _ => 0) 0 0 (min x.gN (2 * x.gsize)))))), (q4, .inl (dA 1, 2 * x.gsize, .inl (fun z9 => nI ((va_cpy x.gO (fun _ => 0) 0 0 (min x.gN (2 * x.gsize))) z9))))] ++ VWf dA h ad x (VS.s_gA x (va_up x.gA 0 q4))) H := hP
    have hD : va_D A ([(q5, .inl (dA 2, 2 * x.gsize, .inr (.inl (va_cpy x.gT (fun _ => 0) 0 0 (min x.gN (2 * x.gsize)))))), (q4, .inl (dA 1, 2 * x.gsize, .inl (fun z9 => nI ((va_cpy x.gO (fun _ => 0) 0 0 (min x.gN (2 * x.gsize))) z9))))] ++ VWf dA h ad x (VS.s_gA x (va_up x.gA 0 q4))) := hD
    refine pF (v := .ref q5) hx hb hown hE hK hP hD hS 15 rfl rfl layP tyP tokP nmP 1 (by decide) w187 rfl rfl rfl (Nat.le_of_ble_eq_true rfl) d_P_add_43 (fun H locs hP hD hS => ?_)
    have hP : va_P D vwCl ([(q5, .inl (dA 2, 2 * x.gsize, .inr (.inl (va_cpy x.gT (fun _ => 0) 0 0 (min x.gN (2 * x.gsize)))))), (q4, .inl (dA 1, 2 * x.gsize, .inl (fun z9 => nI ((va_cpy x.gO (fun _ => 0) 0 0 (min x.gN (2 * x.gsize))) z9))))] ++ VWf dA h ad x (VS.s_gA x (va_up (va_up x.gA 0 q4) 1 q5))) H := hP
    have hD : va_D A ([(q5, .inl (dA 2, 2 * x.gsize, .inr (.inl (va_cpy x.gT (fun _ => 0) 0 0 (min x.gN (2 * x.gsize)))))), (q4, .inl (dA 1, 2 * x.gsize, .inl (fun z9 => nI ((va_cpy x.gO (fun _ => 0) 0 0 (min x.gN (2 * x.gsize))) z9))))] ++ VWf dA h ad x (VS.s_gA x (va_up (va_up x.gA 0 q4) 1 q5))) := hD
    refine lv_aload_n hx hb d_P_add_46 rfl (lv_at hl 0 rfl) ?_
    refine lv_aload_n hx hb d_P_add_47 rfl (lv_at hl 0 rfl) ?_
    refine gF (v := .ref (x.gA 2)) hx hb hown hE hK hP 15 rfl rfl layP 2 (by decide) w188 rfl d_P_add_48 ?_
    refine lv_iconst (v := 2) hx hb d_P_add_51 (by decide) ?_
    refine lv_aload_n hx hb d_P_add_52 rfl (lv_at hl 0 rfl) ?_
    refine gF (v := .int (nI x.gsize)) hx hb hown hE hK hP 15 rfl rfl layP 3 (by decide) w565 rfl d_P_add_53 ?_
    refine lv_imul hx hb d_P_add_56 (tpi (y := nI (2 * x.gsize)) (pk_mul (2) (x.gsize)) ?_)
    refine jfR (rnS (As := [.ref (x.gA 2), .int (nI (2 * x.gsize))]) (rest := [.ref (ad 2)]) hx hb hml hown hE hK (hN _ _ hS) hP hD (v_copyOfJ l D dA H.size ([(q5, .inl (dA 2, 2 * x.gsize, .inr (.inl (va_cpy x.gT (fun _ => 0) 0 0 (min x.gN (2 * x.gsize)))))), (q4, .inl (dA 1, 2 * x.gsize, .inl (fun z9 => nI ((va_cpy x.gO (fun _ => 0) 0 0 (min x.gN (2 * x.gsize))) z9))))] ++ VWf dA h ad x (VS.s_gA x (va_up (va_up x.gA 0 q4) 1 q5))) (18) (x.gA 2) x.gN x.gV (2 * x.gsize) rfl (show x.gN < 2 * x.gsize by omega) (show 2 * x.gsize ≤ 131072 by omega)) w1114 w1131 w1116 w712 rfl rfl ⟨⟨by decide, by decide⟩, rfl⟩ ⟨(Nat.le_of_ble_eq_true rfl), (Nat.le_of_ble_eq_true rfl)⟩ rfl hl.1 rfl (Nat.le_of_ble_eq_true rfl) d_P_add_57 ⟨(show (0 + 1 + 1) + 1 ≤ 3 * (x.gcap - x.gN) by omega), (show (0 + (2 * x.gsize) + (2 * x.gsize)) + (2 * x.gsize) ≤ 6 * (x.gcap - x.gN) by omega)⟩) hP hD hS hA (fun u9 q6 H locs hp9 hP hD hS => ?_)
    have hP : va_P D vwCl ([(q6, .inl (dA 2, 2 * x.gsize, .inr (.inl (va_cpy x.gV (fun _ => 0) 0 0 (min x.gN (2 * x.gsize)))))), (q5, .inl (dA 2, 2 * x.gsize, .inr (.inl (va_cpy x.gT (fun _ => 0) 0 0 (min x.gN (2 * x.gsize)))))), (q4, .inl (dA 1, 2 * x.gsize, .inl (fun z9 => nI ((va_cpy x.gO (fun _ => 0) 0 0 (min x.gN (2 * x.gsize))) z9))))] ++ VWf dA h ad x (VS.s_gA x (va_up (va_up x.gA 0 q4) 1 q5))) H := hP
    have hD : va_D A ([(q6, .inl (dA 2, 2 * x.gsize, .inr (.inl (va_cpy x.gV (fun _ => 0) 0 0 (min x.gN (2 * x.gsize)))))), (q5, .inl (dA 2, 2 * x.gsize, .inr (.inl (va_cpy x.gT (fun _ => 0) 0 0 (min x.gN (2 * x.gsize)))))), (q4, .inl (dA 1, 2 * x.gsize, .inl (fun z9 => nI ((va_cpy x.gO (fun _ => 0) 0 0 (min x.gN (2 * x.gsize))) z9))))] ++ VWf dA h ad x (VS.s_gA x (va_up (va_up x.gA 0 q4) 1 q5))) := hD
    refine pF (v := .ref q6) hx hb hown hE hK hP hD hS 16 rfl rfl layP tyP tokP nmP 2 (by decide) w188 rfl rfl rfl (Nat.le_of_ble_eq_true rfl) d_P_add_60 (fun H locs hP hD hS => ?_)
    have hP : va_P D vwCl ([(q6, .inl (dA 2, 2 * x.gsize, .inr (.inl (va_cpy x.gV (fun _ => 0) 0 0 (min x.gN (2 * x.gsize)))))), (q5, .inl (dA 2, 2 * x.gsize, .inr (.inl (va_cpy x.gT (fun _ => 0) 0 0 (min x.gN (2 * x.gsize)))))), (q4, .inl (dA 1, 2 * x.gsize, .inl (fun z9 => nI ((va_cpy x.gO (fun _ => 0) 0 0 (min x.gN (2 * x.gsize))) z9))))] ++ VWf dA h ad x (VS.s_gA x (va_up (va_up (va_up x.gA 0 q4) 1 q5) 2 q6))) H := hP
    have hD : va_D A ([(q6, .inl (dA 2, 2 * x.gsize, .inr (.inl (va_cpy x.gV (fun _ => 0) 0 0 (min x.gN (2 * x.gsize)))))), (q5, .inl (dA 2, 2 * x.gsize, .inr (.inl (va_cpy x.gT (fun _ => 0) 0 0 (min x.gN (2 * x.gsize)))))), (q4, .inl (dA 1, 2 * x.gsize, .inl (fun z9 => nI ((va_cpy x.gO (fun _ => 0) 0 0 (min x.gN (2 * x.gsize))) z9))))] ++ VWf dA h ad x (VS.s_gA x (va_up (va_up (va_up x.gA 0 q4) 1 q5) 2 q6))) := hD
    have hP := swP 18 hP
    have hD := swD 18 hD
    have hP := swP 16 hP
    have hD := swD 16 hD
    have hP := swP 14 hP
    have hD := swD 14 hD
    have hP : va_P D vwCl (VW dA h ad (VS.s_gV (VS.s_gT (VS.s_gO (VS.s_gN (VS.s_gA x (va_up (va_up (va_up x.gA 0 q4) 1 q5) 2 q6)) (2 * x.gsize)) (va_cpy x.gO (fun _ => 0) 0 0 (min x.gN (2 * x.gsize)))) (va_cpy x.gT (fun _ => 0) 0 0 (min x.gN (2 * x.gsize)))) (va_cpy x.gV (fun _ => 0) 0 0 (min x.gN (2 * x.gsize))))) H := hP
    have hD : va_D A (VW dA h ad (VS.s_gV (VS.s_gT (VS.s_gO (VS.s_gN (VS.s_gA x (va_up (va_up (va_up x.gA 0 q4) 1 q5) 2 q6)) (2 * x.gsize)) (va_cpy x.gO (fun _ => 0) 0 0 (min x.gN (2 * x.gsize)))) (va_cpy x.gT (fun _ => 0) 0 0 (min x.gN (2 * x.gsize)))) (va_cpy x.gV (fun _ => 0) 0 0 (min x.gN (2 * x.gsize))))) := hD
    refine lv_aload_n hx hb d_P_add_63 rfl (lv_at hl 0 rfl) ?_
    refine lv_aload_n hx hb d_P_add_64 rfl (lv_at hl 0 rfl) ?_
    refine gF (v := .int (nI x.gsize)) hx hb hown hE hK hP 13 rfl rfl layP 3 (by decide) w565 rfl d_P_add_65 ?_
    refine lv_iload_n hx hb d_P_add_68 rfl (lv_at hl 1 rfl) ?_
    refine lv_lload_n hx hb d_P_add_69 rfl (lv_at hl 2 rfl) ?_
    refine lv_lload hx hb d_P_add_70 (lv_at hl 3 rfl) ?_
    refine jfV (rnV (As := [.int (nI x.gsize), .int (nI w), .long a, .long b]) (rest := []) hx hb hml hown hE hK (hN _ _ hS) hP hD (v_pset_g l D dA H.size h ad (VS.s_gV (VS.s_gT (VS.s_gO (VS.s_gN (VS.s_gA x (va_up (va_up (va_up x.gA 0 q4) 1 q5) 2 q6)) (2 * x.gsize)) (va_cpy x.gO (fun _ => 0) 0 0 (min x.gN (2 * x.gsize)))) (va_cpy x.gT (fun _ => 0) 0 0 (min x.gN (2 * x.gsize)))) (va_cpy x.gV (fun _ => 0) 0 0 (min x.gN (2 * x.gsize)))) x.gsize w a b (show x.gsize < (2 * x.gsize) from by omega) (show (2 * x.gsize) ≤ 65536 from by omega)) (q0 := 13) rfl rfl w1086 w1085 w1087 w1088 w578 rfl rfl ⟨⟨by decide, by decide⟩, rfl⟩ ⟨(Nat.le_of_ble_eq_true rfl), (Nat.le_of_ble_eq_true rfl)⟩ rfl hl.1 rfl (Nat.le_of_ble_eq_true rfl) d_P_add_72 ⟨(show 0 + 1 + 1 + 1 + 0 ≤ 3 * (x.gcap - x.gN) by omega), (show 0 + (2 * x.gsize) + (2 * x.gsize) + (2 * x.gsize) + 0 ≤ 6 * (x.gcap - x.gN) by omega)⟩) hP hD hS hA (fun u8 H locs hp9 hP hD hS => ?_)
    have hP : va_P D vwCl (VW dA h ad (VS.s_gV (VS.s_gT (VS.s_gO (VS.s_gN (VS.s_gA x (va_up (va_up (va_up x.gA 0 q4) 1 q5) 2 q6)) (2 * x.gsize)) (va_up (va_cpy x.gO (fun _ => 0) 0 0 (min x.gN (2 * x.gsize))) x.gsize w)) (va_up (va_cpy x.gT (fun _ => 0) 0 0 (min x.gN (2 * x.gsize))) x.gsize a)) (va_up (va_cpy x.gV (fun _ => 0) 0 0 (min x.gN (2 * x.gsize))) x.gsize b))) H := hP
    have hD : va_D A (VW dA h ad (VS.s_gV (VS.s_gT (VS.s_gO (VS.s_gN (VS.s_gA x (va_up (va_up (va_up x.gA 0 q4) 1 q5) 2 q6)) (2 * x.gsize)) (va_up (va_cpy x.gO (fun _ => 0) 0 0 (min x.gN (2 * x.gsize))) x.gsize w)) (va_up (va_cpy x.gT (fun _ => 0) 0 0 (min x.gN (2 * x.gsize))) x.gsize a)) (va_up (va_cpy x.gV (fun _ => 0) 0 0 (min x.gN (2 * x.gsize))) x.gsize b))) := hD
    refine lv_aload_n hx hb d_P_add_75 rfl (lv_at hl 0 rfl) ?_
    refine lv_dup hx hb d_P_add_76 rfl ?_
    refine gF (v := .int (nI x.gsize)) hx hb hown hE hK hP 13 rfl rfl layP 3 (by decide) w565 rfl d_P_add_77 ?_
    refine lv_iconst (v := 1) hx hb d_P_add_80 (by decide) ?_
    refine lv_iadd hx hb d_P_add_81 (tpi (y := nI (x.gsize + 1)) (nI_add (x.gsize) (1)) ?_)
    refine pF (v := .int (nI (x.gsize + 1))) hx hb hown hE hK hP hD hS 13 rfl rfl layP tyP tokP nmP 3 (by decide) w565 rfl rfl rfl (Nat.le_of_ble_eq_true rfl) d_P_add_82 (fun H locs hP hD hS => ?_)
    have hP : va_P D vwCl (VW dA h ad (VS.s_gsize (VS.s_gV (VS.s_gT (VS.s_gO (VS.s_gN (VS.s_gA x (va_up (va_up (va_up x.gA 0 q4) 1 q5) 2 q6)) (2 * x.gsize)) (va_up (va_cpy x.gO (fun _ => 0) 0 0 (min x.gN (2 * x.gsize))) x.gsize w)) (va_up (va_cpy x.gT (fun _ => 0) 0 0 (min x.gN (2 * x.gsize))) x.gsize a)) (va_up (va_cpy x.gV (fun _ => 0) 0 0 (min x.gN (2 * x.gsize))) x.gsize b)) (x.gsize + 1))) H := hP
    have hD : va_D A (VW dA h ad (VS.s_gsize (VS.s_gV (VS.s_gT (VS.s_gO (VS.s_gN (VS.s_gA x (va_up (va_up (va_up x.gA 0 q4) 1 q5) 2 q6)) (2 * x.gsize)) (va_up (va_cpy x.gO (fun _ => 0) 0 0 (min x.gN (2 * x.gsize))) x.gsize w)) (va_up (va_cpy x.gT (fun _ => 0) 0 0 (min x.gN (2 * x.gsize))) x.gsize a)) (va_up (va_cpy x.gV (fun _ => 0) 0 0 (min x.gN (2 * x.gsize))) x.gsize b)) (x.gsize + 1))) := hD
    exact rfV hx hb hr hlk hS (VS.s_gsize (VS.s_gV (VS.s_gT (VS.s_gO (VS.s_gN (VS.s_gA x (va_up (va_up (va_up x.gA 0 q4) 1 q5) 2 q6)) (2 * x.gsize)) (va_up (va_cpy x.gO (fun _ => 0) 0 0 (min x.gN (2 * x.gsize))) x.gsize w)) (va_up (va_cpy x.gT (fun _ => 0) 0 0 (min x.gN (2 * x.gsize))) x.gsize a)) (va_up (va_cpy x.gV (fun _ => 0) 0 0 (min x.gN (2 * x.gsize))) x.gsize b)) (x.gsize + 1)) ⟨va_up (va_up (va_up x.gA 0 q4) 1 q5) 2 q6, by unfold VS.gaF; rw [if_pos g1]; rfl⟩ hP hD (show 0 + 1 + 1 + 1 + 0 ≤ 3 * (x.gcap - x.gN) by omega) (show 0 + (2 * x.gsize) + (2 * x.gsize) + (2 * x.gsize) + 0 ≤ 6 * (x.gcap - x.gN) by omega) d_P_add_85
/-- a point comes -/
def VS.cmF (x : VS) (pa : Nat → Nat) (w : Nat) (a b : Int64) : VS := if a < x.nhor then VS.s_nlast x (va_up x.nlast w a) else (VS.s_nlast x (va_up x.nlast w a)).haF pa w a b
def VS.cmcap (x : VS) (a : Int64) : Nat := if a < x.nhor then x.hN else x.hcap
set_option maxHeartbeats 4000000 in
set_option maxRecDepth 100000 in
theorem v_comePoint (l : Launch) (D : va_G) (dA : Nat → ClassId) (sz : Nat) (h : Nat) (ad : Nat → Nat) (x : VS) (w : Nat) (a : Int64) (b : Int64) (hw : w < 256) (hs1 : x.hsize ≤ x.hN) (hs2 : 0 < x.hN) (hs3 : x.hN ≤ 32768) : Met l ⟨"SeriesVault", "comePoint", "(IJJ)V"⟩ [Cond.code ⟨"SeriesVault", "comePoint", "(IJJ)V"⟩ prog_1_method_32_code 6 none] { frames := 3, cells := 3 * (x.cmcap a - x.hN), slots := 6 * (x.cmcap a - x.hN), locals := 87 } (pC D dA [.ref h, .int (nI w), .long a, .long b] (VW dA h ad x) sz) (va_Qv (fun (u9 : VS) => ∃ pa : Nat → Nat, u9 = x.cmF pa w a b) (fun (u9 : VS) t9 => bW D (va_A (VW dA h ad x) sz) (VW dA h ad u9) t9) (va_A (VW dA h ad x) sz)) (3 * (x.cmcap a - x.hN)) (6 * (x.cmcap a - x.hN)) (va_A (VW dA h ad x) sz) := by
  refine mkC (y := ⟨"SeriesVault", "comePoint", "(IJJ)V"⟩) (cc := prog_1_method_32_code) (maxL := 6) (av := [.ref h, .int (nI w), .long a, .long b]) (ws := VW dA h ad x) (sz := sz) (Qc := fun A => va_Qv (fun (u9 : VS) => ∃ pa : Nat → Nat, u9 = x.cmF pa w a b) (fun (u9 : VS) t9 => bW D A (VW dA h ad u9) t9) A) (by decide) (Nat.le_of_ble_eq_true rfl) ?_
  intro A p e s m below meth c ls hsz hB
  obtain ⟨hx, hb, hr, hml, hown, hin, hlk, hE, hK, hP, hD, hS, hA, hN, hl⟩ := hB
  have hown : s.vm.findClass "SeriesVault" = some m.cls := hown
  have hl : lv_has ls 6 [(0, .ref h), (1, .int (nI w)), (2, .long a), (4, .long b)] := hl
  obtain ⟨H, hH⟩ : ∃ z, z = s.heap := ⟨_, rfl⟩
  have hP : va_P D vwCl (VW dA h ad x) H := by rw [hH]; exact hP
  have hS : va_S A s.heap H [] := by rw [hH]; exact hS
  rw [← hH]
  refine lv_aload_n hx hb d_V_comePoint_0 rfl (lv_at hl 0 rfl) ?_
  refine gF (v := .ref (ad 3)) hx hb hown hE hK hP 0 rfl rfl layV 11 (by decide) w297 rfl d_V_comePoint_1 ?_
  refine gFN (v := .ref (ad 9)) hx hb hown hE hK hP 17 rfl rfl layH 9 (by decide) w1104 rfl d_V_comePoint_4 ?_
  refine lv_iload_n hx hb d_V_comePoint_7 rfl (lv_at hl 1 rfl) ?_
  refine lv_lload_n hx hb d_V_comePoint_8 rfl (lv_at hl 2 rfl) ?_
  refine nlst (n := 256) hx hb hK hP hD hS 23 2 rfl rfl (w) (by omega) (by decide) d_V_comePoint_9 (fun H locs hP hD hS => ?_)
  have hP : va_P D vwCl (VW dA h ad (VS.s_nlast x (va_up x.nlast w a))) H := hP
  have hD : va_D A (VW dA h ad (VS.s_nlast x (va_up x.nlast w a))) := hD
  refine lv_lload_n hx hb d_V_comePoint_10 rfl (lv_at hl 2 rfl) ?_
  refine lv_aload_n hx hb d_V_comePoint_11 rfl (lv_at hl 0 rfl) ?_
  refine gF (v := .ref (ad 3)) hx hb hown hE hK hP 0 rfl rfl layV 11 (by decide) w297 rfl d_V_comePoint_12 ?_
  refine gFN (v := .long x.nhor) hx hb hown hE hK hP 17 rfl rfl layH 7 (by decide) w710 rfl d_V_comePoint_15 ?_
  refine W.lcmp hx hb d_V_comePoint_18 ?_
  refine lv_if_lt hx hb d_V_comePoint_19 (tgt := 33) rfl (fun g1 => ?_) (fun g1 => ?_)
  · have g1 := (lg_cmp_lt _ _).mp g1
    have jc : x.cmcap a = x.hN := if_pos g1
    exact rfV hx hb hr hlk hS (VS.s_nlast x (va_up x.nlast w a)) ⟨x.hA, (if_pos g1).symm⟩ hP hD (show 0 ≤ 3 * (x.cmcap a - x.hN) by omega) (show 0 ≤ 6 * (x.cmcap a - x.hN) by omega) d_V_comePoint_33
  · have g1 := mt (lg_cmp_lt _ _).mpr g1
    have jc : x.cmcap a = x.hcap := if_neg g1
    refine lv_aload_n hx hb d_V_comePoint_22 rfl (lv_at hl 0 rfl) ?_
    refine gF (v := .ref (ad 1)) hx hb hown hE hK hP 0 rfl rfl layV 9 (by decide) w576 rfl d_V_comePoint_23 ?_
    refine lv_iload_n hx hb d_V_comePoint_26 rfl (lv_at hl 1 rfl) ?_
    refine lv_lload_n hx hb d_V_comePoint_27 rfl (lv_at hl 2 rfl) ?_
    refine lv_lload hx hb d_V_comePoint_28 (lv_at hl 3 rfl) ?_
    refine jfV (rnV (As := [.int (nI w), .long a, .long b]) (rest := []) hx hb hml hown hE hK (hN _ _ hS) hP hD (v_paddF_h l D dA H.size h ad (VS.s_nlast x (va_up x.nlast w a)) w a b hs1 hs2 hs3) (q0 := 9) rfl rfl w1106 w1105 w1107 w1108 w578 rfl rfl ⟨⟨by decide, by decide⟩, rfl⟩ ⟨(Nat.le_of_ble_eq_true rfl), (Nat.le_of_ble_eq_true rfl)⟩ rfl hl.1 rfl (Nat.le_of_ble_eq_true rfl) d_V_comePoint_30 ⟨(show 0 + (3 * (x.hcap - x.hN)) ≤ 3 * (x.cmcap a - x.hN) by omega), (show 0 + (6 * (x.hcap - x.hN)) ≤ 6 * (x.cmcap a - x.hN) by omega)⟩) hP hD hS hA (fun u3 H locs hp9 hP hD hS => ?_)
    obtain ⟨y4, h9u⟩ : ∃ z9, z9 = u3 := ⟨_, rfl⟩
    subst h9u
    have hP : va_P D vwCl (VW dA h ad y4) H := hP
    have hD : va_D A (VW dA h ad y4) := hD
    have f_e_5 := hp9
    exact rfV hx hb hr hlk hS y4 (by obtain ⟨pa, h9⟩ := f_e_5; exact ⟨pa, h9.trans (if_neg g1).symm⟩) hP hD (show 0 + (3 * (x.hcap - x.hN)) ≤ 3 * (x.cmcap a - x.hN) by omega) (show 0 + (6 * (x.hcap - x.hN)) ≤ 6 * (x.cmcap a - x.hN) by omega) d_V_comePoint_33
