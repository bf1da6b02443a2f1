section
theorem od3_f {m : Bool × MS} (h : m.1 = false) : MS.od3 m = (false, m.2) := if_neg (by rw [h]; decide)
theorem od3_t {m : Bool × MS} {y : MS} (h : m.1 = true) (e : y = m.2) : MS.od3 m = y.dt 3 := (if_pos h).trans (by rw [e])
theorem fn_le (x : MS) : i2n x.fnI ≤ 6 := by
  unfold MS.fnI MS.fn5 MS.fn6
  repeat' split
  all_goals decide
theorem d_M_operand_18 : decode prog_14_method_86_code 18 = .ok (.aload_n 0, 1) := by decide +kernel
theorem d_M_operand_19 : decode prog_14_method_86_code 19 = .ok (.aload_n 0, 1) := by decide +kernel
theorem d_M_operand_20 : decode prog_14_method_86_code 20 = .ok (.getfield 351, 3) := by decide +kernel
theorem d_M_operand_23 : decode prog_14_method_86_code 23 = .ok (.bipush 45, 2) := by decide +kernel
theorem d_M_operand_25 : decode prog_14_method_86_code 25 = .ok (.if_icmp .ne 8, 3) := by decide +kernel
theorem d_M_operand_28 : decode prog_14_method_86_code 28 = .ok (.bipush 109, 2) := by decide +kernel
theorem d_M_operand_30 : decode prog_14_method_86_code 30 = .ok (.goto 5, 3) := by decide +kernel
theorem d_M_operand_35 : decode prog_14_method_86_code 35 = .ok (.invokevirtual 469, 3) := by decide +kernel
theorem d_M_operand_38 : decode prog_14_method_86_code 38 = .ok (.ireturn, 1) := by decide +kernel
theorem d_M_operand_71 : decode prog_14_method_86_code 71 = .ok (.iload_n 1, 1) := by decide +kernel
theorem d_M_operand_72 : decode prog_14_method_86_code 72 = .ok (.ifCond .lt 13, 3) := by decide +kernel
theorem d_M_operand_85 : decode prog_14_method_86_code 85 = .ok (.iload_n 1, 1) := by decide +kernel
theorem d_M_operand_86 : decode prog_14_method_86_code 86 = .ok (.ifCond .ge 23, 3) := by decide +kernel
theorem d_M_operand_89 : decode prog_14_method_86_code 89 = .ok (.aload_n 0, 1) := by decide +kernel
theorem d_M_operand_90 : decode prog_14_method_86_code 90 = .ok (.getfield 442, 3) := by decide +kernel
theorem d_M_operand_93 : decode prog_14_method_86_code 93 = .ok (.ifCond .eq 7, 3) := by decide +kernel
theorem d_M_operand_100 : decode prog_14_method_86_code 100 = .ok (.aload_n 0, 1) := by decide +kernel
theorem d_M_operand_101 : decode prog_14_method_86_code 101 = .ok (.invokevirtual 373, 3) := by decide +kernel
theorem d_M_operand_104 : decode prog_14_method_86_code 104 = .ok (.ifCond .ne 5, 3) := by decide +kernel
theorem d_M_operand_109 : decode prog_14_method_86_code 109 = .ok (.aload_n 0, 1) := by decide +kernel
theorem d_M_operand_110 : decode prog_14_method_86_code 110 = .ok (.iconst 3, 1) := by decide +kernel
theorem d_M_operand_111 : decode prog_14_method_86_code 111 = .ok (.invokevirtual 483, 3) := by decide +kernel
theorem d_M_operand_114 : decode prog_14_method_86_code 114 = .ok (.ireturn, 1) := by decide +kernel
theorem d_M_operand_107 : decode prog_14_method_86_code 107 = .ok (.iconst 0, 1) := by decide +kernel
theorem d_M_operand_108 : decode prog_14_method_86_code 108 = .ok (.ireturn, 1) := by decide +kernel
theorem d_M_operand_96 : decode prog_14_method_86_code 96 = .ok (.aload_n 0, 1) := by decide +kernel
theorem d_M_operand_97 : decode prog_14_method_86_code 97 = .ok (.invokevirtual 481, 3) := by decide +kernel
theorem d_M_operand_75 : decode prog_14_method_86_code 75 = .ok (.aload_n 0, 1) := by decide +kernel
theorem d_M_operand_76 : decode prog_14_method_86_code 76 = .ok (.iload_n 1, 1) := by decide +kernel
theorem d_M_operand_77 : decode prog_14_method_86_code 77 = .ok (.invokevirtual 478, 3) := by decide +kernel
theorem d_M_operand_80 : decode prog_14_method_86_code 80 = .ok (.ifCond .ne 5, 3) := by decide +kernel
theorem d_M_operand_83 : decode prog_14_method_86_code 83 = .ok (.iconst 0, 1) := by decide +kernel
theorem d_M_operand_84 : decode prog_14_method_86_code 84 = .ok (.ireturn, 1) := by decide +kernel
theorem d_M_operand_33 : decode prog_14_method_86_code 33 = .ok (.bipush 40, 2) := by decide +kernel
theorem w1053 : Cond.methodLink "SeriesVaultModel" 469 ⟨"SeriesVaultModel", "opens", "(I)Z"⟩ ∈ aW := aw_of (tb_10 (List.mem_of_getElem? (i := 185) rfl)) rfl
theorem w1054 : Cond.code ⟨"SeriesVaultModel", "opens", "(I)Z"⟩ prog_14_method_80_code 2 (some FieldType.boolean) ∈ aW := aw_of (tb_10 (List.mem_of_getElem? (i := 188) rfl)) rfl
theorem w1055 : Cond.instanceMethod ⟨"SeriesVaultModel", "opens", "(I)Z"⟩ ∈ aW := aw_of (tb_10 (List.mem_of_getElem? (i := 187) rfl)) rfl
theorem w1056 : Cond.selects "SeriesVaultModel" ⟨"SeriesVaultModel", "opens", "(I)Z"⟩ ⟨"SeriesVaultModel", "opens", "(I)Z"⟩ ∈ aW := aw_pr (List.mem_map.mpr ⟨_, pv_7 (List.mem_of_getElem? (i := 4) rfl), rfl⟩) rfl
theorem w1057 : Cond.methodLink "SeriesVaultModel" 483 ⟨"SeriesVaultModel", "doneTo", "(I)Z"⟩ ∈ aW := aw_of (tb_11 (List.mem_of_getElem? (i := 12) rfl)) rfl
theorem w1058 : Cond.code ⟨"SeriesVaultModel", "doneTo", "(I)Z"⟩ prog_14_method_82_code 3 (some FieldType.boolean) ∈ aW := aw_of (tb_11 (List.mem_of_getElem? (i := 15) rfl)) rfl
theorem w1059 : Cond.instanceMethod ⟨"SeriesVaultModel", "doneTo", "(I)Z"⟩ ∈ aW := aw_of (tb_11 (List.mem_of_getElem? (i := 14) rfl)) rfl
theorem w1060 : Cond.selects "SeriesVaultModel" ⟨"SeriesVaultModel", "doneTo", "(I)Z"⟩ ⟨"SeriesVaultModel", "doneTo", "(I)Z"⟩ ∈ aW := aw_pr (List.mem_map.mpr ⟨_, pv_8 (List.mem_of_getElem? (i := 4) rfl), rfl⟩) rfl
theorem w1061 : Cond.methodLink "SeriesVaultModel" 481 ⟨"SeriesVaultModel", "number", "()V"⟩ ∈ aW := aw_of (tb_11 (List.mem_of_getElem? (i := 8) rfl)) rfl
theorem w1062 : Cond.code ⟨"SeriesVaultModel", "number", "()V"⟩ prog_14_method_72_code 2 none ∈ aW := aw_of (tb_11 (List.mem_of_getElem? (i := 11) rfl)) rfl
theorem w1063 : Cond.instanceMethod ⟨"SeriesVaultModel", "number", "()V"⟩ ∈ aW := aw_of (tb_11 (List.mem_of_getElem? (i := 10) rfl)) rfl
theorem w1064 : Cond.selects "SeriesVaultModel" ⟨"SeriesVaultModel", "number", "()V"⟩ ⟨"SeriesVaultModel", "number", "()V"⟩ ∈ aW := aw_pr (List.mem_map.mpr ⟨_, pv_8 (List.mem_of_getElem? (i := 3) rfl), rfl⟩) rfl
theorem w1065 : Cond.methodLink "SeriesVaultModel" 478 ⟨"SeriesVaultModel", "called", "(I)Z"⟩ ∈ aW := aw_of (tb_10 (List.mem_of_getElem? (i := 201) rfl)) rfl
theorem w1066 : Cond.code ⟨"SeriesVaultModel", "called", "(I)Z"⟩ prog_14_method_85_code 4 (some FieldType.boolean) ∈ aW := aw_of (tb_10 (List.mem_of_getElem? (i := 204) rfl)) rfl
theorem w1067 : Cond.instanceMethod ⟨"SeriesVaultModel", "called", "(I)Z"⟩ ∈ aW := aw_of (tb_10 (List.mem_of_getElem? (i := 203) rfl)) rfl
theorem w1068 : Cond.selects "SeriesVaultModel" ⟨"SeriesVaultModel", "called", "(I)Z"⟩ ⟨"SeriesVaultModel", "called", "(I)Z"⟩ ∈ aW := aw_pr (List.mem_map.mpr ⟨_, pv_7 (List.mem_of_getElem? (i := 8) rfl), rfl⟩) rfl
set_option maxHeartbeats 4000000 in
set_option maxRecDepth 100000 in
theorem k_operand (l : Launch) (D : va_G) (dA : Nat → ClassId) (sz : Nat) (h : Nat) (ad : Nat → Nat) (x : MS) (hoi : x.oI 0) : Met l ⟨"SeriesVaultModel", "operand", "()Z"⟩ [Cond.code ⟨"SeriesVaultModel", "operand", "()Z"⟩ prog_14_method_86_code 2 (some FieldType.boolean)] { frames := 7, cells := 0, slots := 0, locals := 154 } (pC D dA [.ref h] (MW dA h ad x) sz) (va_Qi (fun (r9 : Int32) (u9 : MS) => r9 = bI (x.odF).1 ∧ u9 = (x.odF).2) (fun (u9 : MS) t9 => bW D (va_A (MW dA h ad x) sz) (MW dA h ad u9) t9) (va_A (MW dA h ad x) sz)) 0 0 (va_A (MW dA h ad x) sz) := by
  refine mkC (y := ⟨"SeriesVaultModel", "operand", "()Z"⟩) (cc := prog_14_method_86_code) (maxL := 2) (av := [.ref h]) (ws := MW dA h ad x) (sz := sz) (Qc := fun A => va_Qi (fun (r9 : Int32) (u9 : MS) => r9 = bI (x.odF).1 ∧ u9 = (x.odF).2) (fun (u9 : MS) t9 => bW D A (MW dA h ad u9) t9) A) (by decide) (Nat.le_of_ble_eq_true rfl) ?_
  intro A p e s m below meth c ls hsz hB
  obtain ⟨hx, hb, hr, hml, hown, hin, hlk, hE, hK, hP, hD, hS, hA, hN, hl⟩ := hB
  have hown : s.vm.findClass "SeriesVaultModel" = some m.cls := hown
  have hl : lv_has ls 2 [(0, .ref h)] := hl
  obtain ⟨H, hH⟩ : ∃ z, z = s.heap := ⟨_, rfl⟩
  have hP : va_P D vwCl (MW dA h ad x) H := by rw [hH]; exact hP
  have hS : va_S A s.heap H [] := by rw [hH]; exact hS
  rw [← hH]
  have hlx := hoi.1
  have hs26 := sI_26 hoi.2.2.2.1
  have ho8 := hoi.2.2.2.1.1
  have hp20 : x.pile < 20 := oI_pl hoi (by decide)
  refine lv_aload_n hx hb d_M_operand_0 rfl (lv_at hl 0 rfl) ?_
  refine gF (v := .int x.kind) hx hb hown hE hK hP 0 rfl rfl layM 44 (by decide) w469 rfl d_M_operand_1 ?_
  refine lv_bipush (v := 45) hx hb d_M_operand_4 (by decide) ?_
  refine lv_icmp_eq hx hb d_M_operand_6 (tgt := 18) rfl (fun g1 => ?_) (fun g1 => ?_)
  · have g1 := g1
    refine lv_aload_n hx hb d_M_operand_18 rfl (lv_at hl 0 rfl) ?_
    refine lv_aload_n hx hb d_M_operand_19 rfl (lv_at hl 0 rfl) ?_
    refine gF (v := .int x.kind) hx hb hown hE hK hP 0 rfl rfl layM 44 (by decide) w469 rfl d_M_operand_20 ?_
    refine lv_bipush (v := 45) hx hb d_M_operand_23 (by decide) ?_
    refine lv_icmp_ne hx hb d_M_operand_25 (tgt := 33) rfl (fun h9 => absurd g1 h9) (fun _ => ?_)
    refine lv_bipush (v := 109) hx hb d_M_operand_28 (by decide) ?_
    refine lv_goto hx hb d_M_operand_30 (tgt := 35) rfl ?_
    refine jfI (rnV (As := [.int 109]) (rest := []) hx hb hml hown hE hK (hN _ _ hS) hP hD (k_opens l D dA H.size h ad x 109 hlx (show x.signCount < 32 from by omega) (show x.opn ≤ 8 from by omega)) (q0 := 0) rfl rfl w1054 w1053 w1055 w1056 w328 rfl rfl ⟨⟨by decide, by decide⟩, rfl⟩ ⟨(Nat.le_of_ble_eq_true rfl), (Nat.le_of_ble_eq_true rfl)⟩ rfl hl.1 rfl (Nat.le_of_ble_eq_true rfl) d_M_operand_35 ⟨(Nat.le_of_ble_eq_true rfl), (Nat.le_of_ble_eq_true rfl)⟩) hP hD hS hA (fun r2 u3 H locs hp9 hP hD hS => ?_)
    obtain ⟨y4, h9u⟩ : ∃ z9, z9 = u3 := ⟨_, rfl⟩
    subst h9u
    have hP : va_P D vwCl (MW dA h ad y4) H := hP
    have hD : va_D A (MW dA h ad y4) := hD
    obtain ⟨hp9, f_e_5⟩ := hp9
    replace hp9 : bI (x.osF 109).1 = r2 := Eq.symm hp9
    subst hp9
    exact rfZ hx hb hr (bI_nar ((x.osF 109).1)) hlk hS y4 (by have e9 : x.odF = x.osF 109 := if_pos g1; rw [e9]; exact ⟨rfl, f_e_5⟩) hP hD (Nat.le_of_ble_eq_true rfl) (Nat.le_of_ble_eq_true rfl) d_M_operand_38
  · have g1 := g1
    refine lv_aload_n hx hb d_M_operand_9 rfl (lv_at hl 0 rfl) ?_
    refine gF (v := .int x.kind) hx hb hown hE hK hP 0 rfl rfl layM 44 (by decide) w469 rfl d_M_operand_10 ?_
    refine lv_bipush (v := 40) hx hb d_M_operand_13 (by decide) ?_
    refine lv_icmp_ne hx hb d_M_operand_15 (tgt := 39) rfl (fun g6 => ?_) (fun g6 => ?_)
    · have g6 := g6
      refine lv_aload_n hx hb d_M_operand_39 rfl (lv_at hl 0 rfl) ?_
      refine lv_iconst (v := 0) hx hb d_M_operand_40 (by decide) ?_
      refine pF (v := .int (bI false)) hx hb hown hE hK hP hD hS 0 rfl rfl layM tyM tokM nmM 70 (by decide) w470 rfl (bI_nar false) (bI_fit false) (Nat.le_of_ble_eq_true rfl) d_M_operand_41 (fun H locs hP hD hS => ?_)
      have hP : va_P D vwCl (MW dA h ad (MS.s_wants x false)) H := hP
      have hD : va_D A (MW dA h ad (MS.s_wants x false)) := hD
      refine lv_aload_n hx hb d_M_operand_44 rfl (lv_at hl 0 rfl) ?_
      refine jfI (rnV (As := []) (rest := []) hx hb hml hown hE hK (hN _ _ hS) hP hD (k_function l D dA H.size h ad (MS.s_wants x false) hlx) (q0 := 0) rfl rfl w472 w471 w473 w474 w328 rfl rfl ⟨⟨by decide, by decide⟩, rfl⟩ ⟨(Nat.le_of_ble_eq_true rfl), (Nat.le_of_ble_eq_true rfl)⟩ rfl hl.1 rfl (Nat.le_of_ble_eq_true rfl) d_M_operand_45 ⟨(Nat.le_of_ble_eq_true rfl), (Nat.le_of_ble_eq_true rfl)⟩) hP hD hS hA (fun r7 u8 H locs hp9 hP hD hS => ?_)
      have hP : va_P D vwCl (MW dA h ad (MS.s_wants x false)) H := hP
      have hD : va_D A (MW dA h ad (MS.s_wants x false)) := hD
      replace hp9 : x.fnI = r7 := Eq.symm hp9
      subst hp9
      refine lv_istore_n hx hb d_M_operand_48 rfl hl (by decide) rfl (fun ls hl => ?_)
      have hl : lv_has ls 2 [(1, .int x.fnI), (0, .ref h)] := hl
      refine lv_aload_n hx hb d_M_operand_49 rfl (lv_at hl 1 rfl) ?_
      refine gF (v := .int x.kind) hx hb hown hE hK hP 0 rfl rfl layM 44 (by decide) w469 rfl d_M_operand_50 ?_
      refine lv_iconst (v := 1) hx hb d_M_operand_53 (by decide) ?_
      refine lv_icmp_eq hx hb d_M_operand_54 (tgt := 71) rfl (fun g9 => ?_) (fun g9 => ?_)
      · have g9 := g9
        refine lv_iload_n hx hb d_M_operand_71 rfl (lv_at hl 0 rfl) ?_
        refine lv_if_lt hx hb d_M_operand_72 (tgt := 85) rfl (fun g10 => ?_) (fun g10 => ?_)
        · have g10 := g10
          refine lv_iload_n hx hb d_M_operand_85 rfl (lv_at hl 0 rfl) ?_
          refine lv_if_ge hx hb d_M_operand_86 (tgt := 109) rfl (fun h9 => absurd h9 (Int32.not_le.mpr g10)) (fun _ => ?_)
          refine lv_aload_n hx hb d_M_operand_89 rfl (lv_at hl 1 rfl) ?_
          refine gF (v := .int (bI x.works)) hx hb hown hE hK hP 0 rfl rfl layM 56 (by decide) w475 rfl d_M_operand_90 ?_
          refine lv_if_eq hx hb d_M_operand_93 (tgt := 100) rfl (fun g11 => ?_) (fun g11 => ?_)
          · have g11 := bI_0 g11
            refine lv_aload_n hx hb d_M_operand_100 rfl (lv_at hl 1 rfl) ?_
            refine jfI (rnV (As := []) (rest := []) hx hb hml hown hE hK (hN _ _ hS) hP hD (k_next l D dA H.size h ad (MS.s_wants x false) hlx.1 hlx.2.2.1 hlx.2.2.2) (q0 := 0) rfl rfl w480 w479 w481 w482 w328 rfl rfl ⟨⟨by decide, by decide⟩, rfl⟩ ⟨(Nat.le_of_ble_eq_true rfl), (Nat.le_of_ble_eq_true rfl)⟩ rfl hl.1 rfl (Nat.le_of_ble_eq_true rfl) d_M_operand_101 ⟨(Nat.le_of_ble_eq_true rfl), (Nat.le_of_ble_eq_true rfl)⟩) hP hD hS hA (fun r12 u13 H locs hp9 hP hD hS => ?_)
            obtain ⟨y14, h9u⟩ : ∃ z9, z9 = u13 := ⟨_, rfl⟩
            subst h9u
            have hP : va_P D vwCl (MW dA h ad y14) H := hP
            have hD : va_D A (MW dA h ad y14) := hD
            obtain ⟨hp9, f_e_15⟩ := hp9
            replace hp9 : bI ((MS.s_wants x false).nx).1 = r12 := Eq.symm hp9
            subst hp9
            refine lv_if_ne hx hb d_M_operand_104 (tgt := 109) rfl (fun g16 => ?_) (fun g16 => ?_)
            · have g16 := bI_n0 g16
              have d9 : y14.dI := by rw [f_e_15]; exact oI_dI (nm_oI (y := MS.s_wants x false) hoi (show (MS.s_wants x false).nm1 = (true, (MS.s_wants x false).nx.2) from (if_neg (by rw [show (MS.s_wants x false).works = false from g11]; decide)).trans (Prod.ext g16 rfl))).1
              refine lv_aload_n hx hb d_M_operand_109 rfl (lv_at hl 1 rfl) ?_
              refine lv_iconst (v := 3) hx hb d_M_operand_110 (by decide) ?_
              refine jfI (rnV (As := [.int 3]) (rest := []) hx hb hml hown hE hK (hN _ _ hS) hP hD (k_doneTo l D dA H.size h ad y14 3 d9 (by decide) (by decide)) (q0 := 0) rfl rfl w1058 w1057 w1059 w1060 w328 rfl rfl ⟨⟨by decide, by decide⟩, rfl⟩ ⟨(Nat.le_of_ble_eq_true rfl), (Nat.le_of_ble_eq_true rfl)⟩ rfl hl.1 rfl (Nat.le_of_ble_eq_true rfl) d_M_operand_111 ⟨(Nat.le_of_ble_eq_true rfl), (Nat.le_of_ble_eq_true rfl)⟩) hP hD hS hA (fun r17 u18 H locs hp9 hP hD hS => ?_)
              obtain ⟨y19, h9u⟩ : ∃ z9, z9 = u18 := ⟨_, rfl⟩
              subst h9u
              have hP : va_P D vwCl (MW dA h ad y19) H := hP
              have hD : va_D A (MW dA h ad y19) := hD
              obtain ⟨hp9, f_e_20⟩ := hp9
              replace hp9 : bI (y14.dt 3).1 = r17 := Eq.symm hp9
              subst hp9
              exact rfZ hx hb hr (bI_nar ((y14.dt 3).1)) hlk hS y19 (by have e9 : x.odF = MS.od3 (MS.s_wants x false).nm1 := (if_neg g1).trans ((if_neg g6).trans ((if_pos g10).trans (if_pos g9))); rw [e9, (show (MS.s_wants x false).nm1 = (MS.s_wants x false).nx from if_neg (by rw [show (MS.s_wants x false).works = false from g11]; decide)), od3_t (m := (MS.s_wants x false).nx) g16 f_e_15]; exact ⟨rfl, f_e_20⟩) hP hD (Nat.le_of_ble_eq_true rfl) (Nat.le_of_ble_eq_true rfl) d_M_operand_114
            · have g16 := bI_0 g16
              refine lv_iconst (v := 0) hx hb d_M_operand_107 (by decide) ?_
              exact rfZ hx hb hr (bI_nar false) hlk hS y14 (by have e9 : x.odF = MS.od3 (MS.s_wants x false).nm1 := (if_neg g1).trans ((if_neg g6).trans ((if_pos g10).trans (if_pos g9))); rw [e9, (show (MS.s_wants x false).nm1 = (MS.s_wants x false).nx from if_neg (by rw [show (MS.s_wants x false).works = false from g11]; decide)), od3_f (m := (MS.s_wants x false).nx) g16]; exact ⟨rfl, f_e_15⟩) hP hD (Nat.le_of_ble_eq_true rfl) (Nat.le_of_ble_eq_true rfl) d_M_operand_108
          · have g11 := bI_n0 g11
            have hwk : x.works = true := g11
            refine lv_aload_n hx hb d_M_operand_96 rfl (lv_at hl 1 rfl) ?_
            refine jfV (rnV (As := []) (rest := []) hx hb hml hown hE hK (hN _ _ hS) hP hD (k_number_v l D dA H.size h ad (MS.s_wants x false) hp20 (hoi.2.2.2.2.1 hwk).2.2.2.2.1) (q0 := 0) rfl rfl w1062 w1061 w1063 w1064 w328 rfl rfl ⟨⟨by decide, by decide⟩, rfl⟩ ⟨(Nat.le_of_ble_eq_true rfl), (Nat.le_of_ble_eq_true rfl)⟩ rfl hl.1 rfl (Nat.le_of_ble_eq_true rfl) d_M_operand_97 ⟨(Nat.le_of_ble_eq_true rfl), (Nat.le_of_ble_eq_true rfl)⟩) hP hD hS hA (fun u22 H locs hp9 hP hD hS => ?_)
            have hP : va_P D vwCl (MW dA h ad (MS.s_wants (MS.s_pile (MS.s_isCell (MS.s_cells (MS.s_rowSeries (MS.s_tableRows (MS.s_tableNames x (va_up x.tableNames x.pile 0)) (va_up x.tableRows x.pile 1)) (va_up x.rowSeries (256 * x.pile) 0)) (filG x.cells (cA x.pile 0) x.amount x.windows)) (filG x.isCell (cA x.pile 0) true x.windows)) (x.pile + 1)) false)) H := hP
            have hD : va_D A (MW dA h ad (MS.s_wants (MS.s_pile (MS.s_isCell (MS.s_cells (MS.s_rowSeries (MS.s_tableRows (MS.s_tableNames x (va_up x.tableNames x.pile 0)) (va_up x.tableRows x.pile 1)) (va_up x.rowSeries (256 * x.pile) 0)) (filG x.cells (cA x.pile 0) x.amount x.windows)) (filG x.isCell (cA x.pile 0) true x.windows)) (x.pile + 1)) false)) := hD
            refine lv_aload_n hx hb d_M_operand_100 rfl (lv_at hl 1 rfl) ?_
            refine jfI (rnV (As := []) (rest := []) hx hb hml hown hE hK (hN _ _ hS) hP hD (k_next l D dA H.size h ad (MS.s_wants (MS.s_pile (MS.s_isCell (MS.s_cells (MS.s_rowSeries (MS.s_tableRows (MS.s_tableNames x (va_up x.tableNames x.pile 0)) (va_up x.tableRows x.pile 1)) (va_up x.rowSeries (256 * x.pile) 0)) (filG x.cells (cA x.pile 0) x.amount x.windows)) (filG x.isCell (cA x.pile 0) true x.windows)) (x.pile + 1)) false) hlx.1 hlx.2.2.1 hlx.2.2.2) (q0 := 0) rfl rfl w480 w479 w481 w482 w328 rfl rfl ⟨⟨by decide, by decide⟩, rfl⟩ ⟨(Nat.le_of_ble_eq_true rfl), (Nat.le_of_ble_eq_true rfl)⟩ rfl hl.1 rfl (Nat.le_of_ble_eq_true rfl) d_M_operand_101 ⟨(Nat.le_of_ble_eq_true rfl), (Nat.le_of_ble_eq_true rfl)⟩) hP hD hS hA (fun r23 u24 H locs hp9 hP hD hS => ?_)
            obtain ⟨y25, h9u⟩ : ∃ z9, z9 = u24 := ⟨_, rfl⟩
            subst h9u
            have hP : va_P D vwCl (MW dA h ad y25) H := hP
            have hD : va_D A (MW dA h ad y25) := hD
            obtain ⟨hp9, f_e_26⟩ := hp9
            replace hp9 : bI ((MS.s_wants (MS.s_pile (MS.s_isCell (MS.s_cells (MS.s_rowSeries (MS.s_tableRows (MS.s_tableNames x (va_up x.tableNames x.pile 0)) (va_up x.tableRows x.pile 1)) (va_up x.rowSeries (256 * x.pile) 0)) (filG x.cells (cA x.pile 0) x.amount x.windows)) (filG x.isCell (cA x.pile 0) true x.windows)) (x.pile + 1)) false).nx).1 = r23 := Eq.symm hp9
            subst hp9
            refine lv_if_ne hx hb d_M_operand_104 (tgt := 109) rfl (fun g27 => ?_) (fun g27 => ?_)
            · have g27 := bI_n0 g27
              have d9 : y25.dI := by rw [f_e_26]; exact oI_dI (nm_oI (y := MS.s_wants x false) hoi (show (MS.s_wants x false).nm1 = (true, (MS.s_wants x false).nbS.nx.2) from (if_pos hwk).trans (Prod.ext g27 rfl))).1
              refine lv_aload_n hx hb d_M_operand_109 rfl (lv_at hl 1 rfl) ?_
              refine lv_iconst (v := 3) hx hb d_M_operand_110 (by decide) ?_
              refine jfI (rnV (As := [.int 3]) (rest := []) hx hb hml hown hE hK (hN _ _ hS) hP hD (k_doneTo l D dA H.size h ad y25 3 d9 (by decide) (by decide)) (q0 := 0) rfl rfl w1058 w1057 w1059 w1060 w328 rfl rfl ⟨⟨by decide, by decide⟩, rfl⟩ ⟨(Nat.le_of_ble_eq_true rfl), (Nat.le_of_ble_eq_true rfl)⟩ rfl hl.1 rfl (Nat.le_of_ble_eq_true rfl) d_M_operand_111 ⟨(Nat.le_of_ble_eq_true rfl), (Nat.le_of_ble_eq_true rfl)⟩) hP hD hS hA (fun r28 u29 H locs hp9 hP hD hS => ?_)
              obtain ⟨y30, h9u⟩ : ∃ z9, z9 = u29 := ⟨_, rfl⟩
              subst h9u
              have hP : va_P D vwCl (MW dA h ad y30) H := hP
              have hD : va_D A (MW dA h ad y30) := hD
              obtain ⟨hp9, f_e_31⟩ := hp9
              replace hp9 : bI (y25.dt 3).1 = r28 := Eq.symm hp9
              subst hp9
              exact rfZ hx hb hr (bI_nar ((y25.dt 3).1)) hlk hS y30 (by have e9 : x.odF = MS.od3 (MS.s_wants x false).nm1 := (if_neg g1).trans ((if_neg g6).trans ((if_pos g10).trans (if_pos g9))); rw [e9, (show (MS.s_wants x false).nm1 = (MS.s_wants x false).nbS.nx from if_pos g11), od3_t (m := (MS.s_wants x false).nbS.nx) g27 f_e_26]; exact ⟨rfl, f_e_31⟩) hP hD (Nat.le_of_ble_eq_true rfl) (Nat.le_of_ble_eq_true rfl) d_M_operand_114
            · have g27 := bI_0 g27
              refine lv_iconst (v := 0) hx hb d_M_operand_107 (by decide) ?_
              exact rfZ hx hb hr (bI_nar false) hlk hS y25 (by have e9 : x.odF = MS.od3 (MS.s_wants x false).nm1 := (if_neg g1).trans ((if_neg g6).trans ((if_pos g10).trans (if_pos g9))); rw [e9, (show (MS.s_wants x false).nm1 = (MS.s_wants x false).nbS.nx from if_pos g11), od3_f (m := (MS.s_wants x false).nbS.nx) g27]; exact ⟨rfl, f_e_26⟩) hP hD (Nat.le_of_ble_eq_true rfl) (Nat.le_of_ble_eq_true rfl) d_M_operand_108
        · have g10 := g10
          refine lv_aload_n hx hb d_M_operand_75 rfl (lv_at hl 1 rfl) ?_
          refine lv_iload_n hx hb d_M_operand_76 rfl (lv_at hl 0 rfl) ?_
          refine tpi (y := nI (i2n x.fnI)) (i2n_nI (Int32.not_lt.mp g10)) ?_
          refine jfI (rnV (As := [.int (nI (i2n x.fnI))]) (rest := []) hx hb hml hown hE hK (hN _ _ hS) hP hD (k_called l D dA H.size h ad (MS.s_wants x false) (i2n x.fnI) hlx hp20 hoi.2.2.2.2.2.2.1 (fun z9 => qI_rkc hp20 (hoi.2.2.2.2.1 z9)) (fn_le x)) (q0 := 0) rfl rfl w1066 w1065 w1067 w1068 w328 rfl rfl ⟨⟨by decide, by decide⟩, rfl⟩ ⟨(Nat.le_of_ble_eq_true rfl), (Nat.le_of_ble_eq_true rfl)⟩ rfl hl.1 rfl (Nat.le_of_ble_eq_true rfl) d_M_operand_77 ⟨(Nat.le_of_ble_eq_true rfl), (Nat.le_of_ble_eq_true rfl)⟩) hP hD hS hA (fun r32 u33 H locs hp9 hP hD hS => ?_)
          obtain ⟨y34, h9u⟩ : ∃ z9, z9 = u33 := ⟨_, rfl⟩
          subst h9u
          have hP : va_P D vwCl (MW dA h ad y34) H := hP
          have hD : va_D A (MW dA h ad y34) := hD
          obtain ⟨hp9, f_e_35⟩ := hp9
          replace hp9 : bI ((MS.s_wants x false).clF (i2n x.fnI)).1 = r32 := Eq.symm hp9
          subst hp9
          refine lv_if_ne hx hb d_M_operand_80 (tgt := 85) rfl (fun g36 => ?_) (fun g36 => ?_)
          · have g36 := bI_n0 g36
            refine lv_iload_n hx hb d_M_operand_85 rfl (lv_at hl 0 rfl) ?_
            refine lv_if_ge hx hb d_M_operand_86 (tgt := 109) rfl (fun _ => ?_) (fun h9 => absurd (Int32.not_lt.mp g10) h9)
            have d9 : y34.dI := by rw [f_e_35]; exact oI_dI (cl_oI (y := MS.s_wants x false) hoi (Prod.ext g36 rfl)).1
            refine lv_aload_n hx hb d_M_operand_109 rfl (lv_at hl 1 rfl) ?_
            refine lv_iconst (v := 3) hx hb d_M_operand_110 (by decide) ?_
            refine jfI (rnV (As := [.int 3]) (rest := []) hx hb hml hown hE hK (hN _ _ hS) hP hD (k_doneTo l D dA H.size h ad y34 3 d9 (by decide) (by decide)) (q0 := 0) rfl rfl w1058 w1057 w1059 w1060 w328 rfl rfl ⟨⟨by decide, by decide⟩, rfl⟩ ⟨(Nat.le_of_ble_eq_true rfl), (Nat.le_of_ble_eq_true rfl)⟩ rfl hl.1 rfl (Nat.le_of_ble_eq_true rfl) d_M_operand_111 ⟨(Nat.le_of_ble_eq_true rfl), (Nat.le_of_ble_eq_true rfl)⟩) hP hD hS hA (fun r37 u38 H locs hp9 hP hD hS => ?_)
            obtain ⟨y39, h9u⟩ : ∃ z9, z9 = u38 := ⟨_, rfl⟩
            subst h9u
            have hP : va_P D vwCl (MW dA h ad y39) H := hP
            have hD : va_D A (MW dA h ad y39) := hD
            obtain ⟨hp9, f_e_40⟩ := hp9
            replace hp9 : bI (y34.dt 3).1 = r37 := Eq.symm hp9
            subst hp9
            exact rfZ hx hb hr (bI_nar ((y34.dt 3).1)) hlk hS y39 (by have e9 : x.odF = MS.od3 ((MS.s_wants x false).clF (i2n x.fnI)) := (if_neg g1).trans ((if_neg g6).trans (if_neg g10)); rw [e9, od3_t g36 f_e_35]; exact ⟨rfl, f_e_40⟩) hP hD (Nat.le_of_ble_eq_true rfl) (Nat.le_of_ble_eq_true rfl) d_M_operand_114
          · have g36 := bI_0 g36
            refine lv_iconst (v := 0) hx hb d_M_operand_83 (by decide) ?_
            exact rfZ hx hb hr (bI_nar false) hlk hS y34 (by have e9 : x.odF = MS.od3 ((MS.s_wants x false).clF (i2n x.fnI)) := (if_neg g1).trans ((if_neg g6).trans (if_neg g10)); rw [e9, od3_f g36]; exact ⟨rfl, f_e_35⟩) hP hD (Nat.le_of_ble_eq_true rfl) (Nat.le_of_ble_eq_true rfl) d_M_operand_84
      · have g9 := g9
        refine lv_iload_n hx hb d_M_operand_57 rfl (lv_at hl 0 rfl) ?_
        refine lv_if_ge hx hb d_M_operand_58 (tgt := 71) rfl (fun g41 => ?_) (fun g41 => ?_)
        · have g41 := g41
          refine lv_iload_n hx hb d_M_operand_71 rfl (lv_at hl 0 rfl) ?_
          refine lv_if_lt hx hb d_M_operand_72 (tgt := 85) rfl (fun h9 => absurd h9 (Int32.not_lt.mpr g41)) (fun _ => ?_)
          refine lv_aload_n hx hb d_M_operand_75 rfl (lv_at hl 1 rfl) ?_
          refine lv_iload_n hx hb d_M_operand_76 rfl (lv_at hl 0 rfl) ?_
          refine tpi (y := nI (i2n x.fnI)) (i2n_nI g41) ?_
          refine jfI (rnV (As := [.int (nI (i2n x.fnI))]) (rest := []) hx hb hml hown hE hK (hN _ _ hS) hP hD (k_called l D dA H.size h ad (MS.s_wants x false) (i2n x.fnI) hlx hp20 hoi.2.2.2.2.2.2.1 (fun z9 => qI_rkc hp20 (hoi.2.2.2.2.1 z9)) (fn_le x)) (q0 := 0) rfl rfl w1066 w1065 w1067 w1068 w328 rfl rfl ⟨⟨by decide, by decide⟩, rfl⟩ ⟨(Nat.le_of_ble_eq_true rfl), (Nat.le_of_ble_eq_true rfl)⟩ rfl hl.1 rfl (Nat.le_of_ble_eq_true rfl) d_M_operand_77 ⟨(Nat.le_of_ble_eq_true rfl), (Nat.le_of_ble_eq_true rfl)⟩) hP hD hS hA (fun r42 u43 H locs hp9 hP hD hS => ?_)
          obtain ⟨y44, h9u⟩ : ∃ z9, z9 = u43 := ⟨_, rfl⟩
          subst h9u
          have hP : va_P D vwCl (MW dA h ad y44) H := hP
          have hD : va_D A (MW dA h ad y44) := hD
          obtain ⟨hp9, f_e_45⟩ := hp9
          replace hp9 : bI ((MS.s_wants x false).clF (i2n x.fnI)).1 = r42 := Eq.symm hp9
          subst hp9
          refine lv_if_ne hx hb d_M_operand_80 (tgt := 85) rfl (fun g46 => ?_) (fun g46 => ?_)
          · have g46 := bI_n0 g46
            refine lv_iload_n hx hb d_M_operand_85 rfl (lv_at hl 0 rfl) ?_
            refine lv_if_ge hx hb d_M_operand_86 (tgt := 109) rfl (fun _ => ?_) (fun h9 => absurd g41 h9)
            have d9 : y44.dI := by rw [f_e_45]; exact oI_dI (cl_oI (y := MS.s_wants x false) hoi (Prod.ext g46 rfl)).1
            refine lv_aload_n hx hb d_M_operand_109 rfl (lv_at hl 1 rfl) ?_
            refine lv_iconst (v := 3) hx hb d_M_operand_110 (by decide) ?_
            refine jfI (rnV (As := [.int 3]) (rest := []) hx hb hml hown hE hK (hN _ _ hS) hP hD (k_doneTo l D dA H.size h ad y44 3 d9 (by decide) (by decide)) (q0 := 0) rfl rfl w1058 w1057 w1059 w1060 w328 rfl rfl ⟨⟨by decide, by decide⟩, rfl⟩ ⟨(Nat.le_of_ble_eq_true rfl), (Nat.le_of_ble_eq_true rfl)⟩ rfl hl.1 rfl (Nat.le_of_ble_eq_true rfl) d_M_operand_111 ⟨(Nat.le_of_ble_eq_true rfl), (Nat.le_of_ble_eq_true rfl)⟩) hP hD hS hA (fun r47 u48 H locs hp9 hP hD hS => ?_)
            obtain ⟨y49, h9u⟩ : ∃ z9, z9 = u48 := ⟨_, rfl⟩
            subst h9u
            have hP : va_P D vwCl (MW dA h ad y49) H := hP
            have hD : va_D A (MW dA h ad y49) := hD
            obtain ⟨hp9, f_e_50⟩ := hp9
            replace hp9 : bI (y44.dt 3).1 = r47 := Eq.symm hp9
            subst hp9
            exact rfZ hx hb hr (bI_nar ((y44.dt 3).1)) hlk hS y49 (by have e9 : x.odF = MS.od3 ((MS.s_wants x false).clF (i2n x.fnI)) := (if_neg g1).trans ((if_neg g6).trans (if_neg (Int32.not_lt.mpr g41))); rw [e9, od3_t g46 f_e_45]; exact ⟨rfl, f_e_50⟩) hP hD (Nat.le_of_ble_eq_true rfl) (Nat.le_of_ble_eq_true rfl) d_M_operand_114
          · have g46 := bI_0 g46
            refine lv_iconst (v := 0) hx hb d_M_operand_83 (by decide) ?_
            exact rfZ hx hb hr (bI_nar false) hlk hS y44 (by have e9 : x.odF = MS.od3 ((MS.s_wants x false).clF (i2n x.fnI)) := (if_neg g1).trans ((if_neg g6).trans (if_neg (Int32.not_lt.mpr g41))); rw [e9, od3_f g46]; exact ⟨rfl, f_e_45⟩) hP hD (Nat.le_of_ble_eq_true rfl) (Nat.le_of_ble_eq_true rfl) d_M_operand_84
        · have g41 := g41
          refine lv_aload_n hx hb d_M_operand_61 rfl (lv_at hl 1 rfl) ?_
          refine lv_iconst (v := 2) hx hb d_M_operand_62 (by decide) ?_
          refine lv_aload_n hx hb d_M_operand_63 rfl (lv_at hl 1 rfl) ?_
          refine gF (v := .int (nI x.frm)) hx hb hown hE hK hP 0 rfl rfl layM 45 (by decide) w464 rfl d_M_operand_64 ?_
          refine jfI (rnV (As := [.int 2, .int (nI x.frm)]) (rest := []) hx hb hml hown hE hK (hN _ _ hS) hP hD (k_flaw_0 l D dA H.size h ad (MS.s_wants x false) 2 (nI x.frm) hlx.2.2.2) (q0 := 0) rfl rfl w431 w430 w432 w433 w328 rfl rfl ⟨⟨by decide, by decide⟩, rfl⟩ ⟨(Nat.le_of_ble_eq_true rfl), (Nat.le_of_ble_eq_true rfl)⟩ rfl hl.1 rfl (Nat.le_of_ble_eq_true rfl) d_M_operand_67 ⟨(Nat.le_of_ble_eq_true rfl), (Nat.le_of_ble_eq_true rfl)⟩) hP hD hS hA (fun r51 u52 H locs hp9 hP hD hS => ?_)
          have hP : va_P D vwCl (MW dA h ad (MS.s_wants (MS.s_faultPlace (MS.s_faultCode x 2) (nI x.frm)) false)) H := hP
          have hD : va_D A (MW dA h ad (MS.s_wants (MS.s_faultPlace (MS.s_faultCode x 2) (nI x.frm)) false)) := hD
          replace hp9 : bI false = r51 := Eq.symm hp9
          subst hp9
          exact rfZ hx hb hr (bI_nar false) hlk hS (MS.s_wants (MS.s_faultPlace (MS.s_faultCode x 2) (nI x.frm)) false) (by have e9 : x.odF = (false, (MS.s_wants x false).flS 2 x.frm) := (if_neg g1).trans ((if_neg g6).trans ((if_pos (Int32.not_le.mp g41)).trans (if_neg g9))); rw [e9]; exact ⟨rfl, rfl⟩) hP hD (Nat.le_of_ble_eq_true rfl) (Nat.le_of_ble_eq_true rfl) d_M_operand_70
    · have g6 := g6
      refine lv_aload_n hx hb d_M_operand_18 rfl (lv_at hl 0 rfl) ?_
      refine lv_aload_n hx hb d_M_operand_19 rfl (lv_at hl 0 rfl) ?_
      refine gF (v := .int x.kind) hx hb hown hE hK hP 0 rfl rfl layM 44 (by decide) w469 rfl d_M_operand_20 ?_
      refine lv_bipush (v := 45) hx hb d_M_operand_23 (by decide) ?_
      refine lv_icmp_ne hx hb d_M_operand_25 (tgt := 33) rfl (fun _ => ?_) (fun h9 => absurd h9 g1)
      refine lv_bipush (v := 40) hx hb d_M_operand_33 (by decide) ?_
      refine jfI (rnV (As := [.int 40]) (rest := []) hx hb hml hown hE hK (hN _ _ hS) hP hD (k_opens l D dA H.size h ad x 40 hlx (show x.signCount < 32 from by omega) (show x.opn ≤ 8 from by omega)) (q0 := 0) rfl rfl w1054 w1053 w1055 w1056 w328 rfl rfl ⟨⟨by decide, by decide⟩, rfl⟩ ⟨(Nat.le_of_ble_eq_true rfl), (Nat.le_of_ble_eq_true rfl)⟩ rfl hl.1 rfl (Nat.le_of_ble_eq_true rfl) d_M_operand_35 ⟨(Nat.le_of_ble_eq_true rfl), (Nat.le_of_ble_eq_true rfl)⟩) hP hD hS hA (fun r53 u54 H locs hp9 hP hD hS => ?_)
      obtain ⟨y55, h9u⟩ : ∃ z9, z9 = u54 := ⟨_, rfl⟩
      subst h9u
      have hP : va_P D vwCl (MW dA h ad y55) H := hP
      have hD : va_D A (MW dA h ad y55) := hD
      obtain ⟨hp9, f_e_56⟩ := hp9
      replace hp9 : bI (x.osF 40).1 = r53 := Eq.symm hp9
      subst hp9
      exact rfZ hx hb hr (bI_nar ((x.osF 40).1)) hlk hS y55 (by have e9 : x.odF = x.osF 40 := (if_neg g1).trans (if_pos g6); rw [e9]; exact ⟨rfl, f_e_56⟩) hP hD (Nat.le_of_ble_eq_true rfl) (Nat.le_of_ble_eq_true rfl) d_M_operand_38
end
section
theorem d_M_operator_0 : decode prog_14_method_88_code 0 = .ok (.aload_n 0, 1) := by decide +kernel
theorem d_M_operator_1 : decode prog_14_method_88_code 1 = .ok (.getfield 351, 3) := by decide +kernel
theorem d_M_operator_4 : decode prog_14_method_88_code 4 = .ok (.invokestatic 451, 3) := by decide +kernel
theorem d_M_operator_7 : decode prog_14_method_88_code 7 = .ok (.istore_n 1, 1) := by decide +kernel
theorem d_M_operator_8 : decode prog_14_method_88_code 8 = .ok (.iload_n 1, 1) := by decide +kernel
theorem d_M_operator_9 : decode prog_14_method_88_code 9 = .ok (.iconst 1, 1) := by decide +kernel
theorem d_M_operator_10 : decode prog_14_method_88_code 10 = .ok (.if_icmp .eq 8, 3) := by decide +kernel
theorem d_M_operator_18 : decode prog_14_method_88_code 18 = .ok (.aload_n 0, 1) := by decide +kernel
theorem d_M_operator_19 : decode prog_14_method_88_code 19 = .ok (.iload_n 1, 1) := by decide +kernel
theorem d_M_operator_20 : decode prog_14_method_88_code 20 = .ok (.invokevirtual 483, 3) := by decide +kernel
theorem d_M_operator_23 : decode prog_14_method_88_code 23 = .ok (.ifCond .ne 5, 3) := by decide +kernel
theorem d_M_operator_28 : decode prog_14_method_88_code 28 = .ok (.aload_n 0, 1) := by decide +kernel
theorem d_M_operator_29 : decode prog_14_method_88_code 29 = .ok (.getfield 126, 3) := by decide +kernel
theorem d_M_operator_32 : decode prog_14_method_88_code 32 = .ok (.aload_n 0, 1) := by decide +kernel
theorem d_M_operator_33 : decode prog_14_method_88_code 33 = .ok (.getfield 439, 3) := by decide +kernel
theorem d_M_operator_36 : decode prog_14_method_88_code 36 = .ok (.aload_n 0, 1) := by decide +kernel
theorem d_M_operator_37 : decode prog_14_method_88_code 37 = .ok (.getfield 351, 3) := by decide +kernel
theorem d_M_operator_40 : decode prog_14_method_88_code 40 = .ok (.iastore, 1) := by decide +kernel
theorem d_M_operator_41 : decode prog_14_method_88_code 41 = .ok (.aload_n 0, 1) := by decide +kernel
theorem d_M_operator_42 : decode prog_14_method_88_code 42 = .ok (.getfield 129, 3) := by decide +kernel
theorem d_M_operator_45 : decode prog_14_method_88_code 45 = .ok (.aload_n 0, 1) := by decide +kernel
theorem d_M_operator_46 : decode prog_14_method_88_code 46 = .ok (.getfield 439, 3) := by decide +kernel
theorem d_M_operator_49 : decode prog_14_method_88_code 49 = .ok (.aload_n 0, 1) := by decide +kernel
theorem d_M_operator_50 : decode prog_14_method_88_code 50 = .ok (.getfield 345, 3) := by decide +kernel
theorem d_M_operator_53 : decode prog_14_method_88_code 53 = .ok (.iastore, 1) := by decide +kernel
theorem d_M_operator_54 : decode prog_14_method_88_code 54 = .ok (.aload_n 0, 1) := by decide +kernel
theorem d_M_operator_55 : decode prog_14_method_88_code 55 = .ok (.dup, 1) := by decide +kernel
theorem d_M_operator_56 : decode prog_14_method_88_code 56 = .ok (.getfield 439, 3) := by decide +kernel
theorem d_M_operator_59 : decode prog_14_method_88_code 59 = .ok (.iconst 1, 1) := by decide +kernel
theorem d_M_operator_60 : decode prog_14_method_88_code 60 = .ok (.iadd, 1) := by decide +kernel
theorem d_M_operator_61 : decode prog_14_method_88_code 61 = .ok (.putfield 439, 3) := by decide +kernel
theorem d_M_operator_64 : decode prog_14_method_88_code 64 = .ok (.aload_n 0, 1) := by decide +kernel
theorem d_M_operator_65 : decode prog_14_method_88_code 65 = .ok (.iconst 1, 1) := by decide +kernel
theorem d_M_operator_66 : decode prog_14_method_88_code 66 = .ok (.putfield 472, 3) := by decide +kernel
theorem d_M_operator_69 : decode prog_14_method_88_code 69 = .ok (.aload_n 0, 1) := by decide +kernel
theorem d_M_operator_70 : decode prog_14_method_88_code 70 = .ok (.invokevirtual 373, 3) := by decide +kernel
theorem d_M_operator_73 : decode prog_14_method_88_code 73 = .ok (.ireturn, 1) := by decide +kernel
theorem d_M_operator_26 : decode prog_14_method_88_code 26 = .ok (.iconst 0, 1) := by decide +kernel
theorem d_M_operator_27 : decode prog_14_method_88_code 27 = .ok (.ireturn, 1) := by decide +kernel
theorem d_M_operator_13 : decode prog_14_method_88_code 13 = .ok (.iload_n 1, 1) := by decide +kernel
theorem d_M_operator_14 : decode prog_14_method_88_code 14 = .ok (.iconst 2, 1) := by decide +kernel
theorem d_M_operator_15 : decode prog_14_method_88_code 15 = .ok (.if_icmp .ne 59, 3) := by decide +kernel
theorem d_M_operator_74 : decode prog_14_method_88_code 74 = .ok (.aload_n 0, 1) := by decide +kernel
theorem d_M_operator_75 : decode prog_14_method_88_code 75 = .ok (.getfield 351, 3) := by decide +kernel
theorem d_M_operator_78 : decode prog_14_method_88_code 78 = .ok (.bipush 41, 2) := by decide +kernel
theorem d_M_operator_80 : decode prog_14_method_88_code 80 = .ok (.if_icmp .ne 10, 3) := by decide +kernel
theorem d_M_operator_90 : decode prog_14_method_88_code 90 = .ok (.aload_n 0, 1) := by decide +kernel
theorem d_M_operator_91 : decode prog_14_method_88_code 91 = .ok (.iconst 2, 1) := by decide +kernel
theorem d_M_operator_92 : decode prog_14_method_88_code 92 = .ok (.aload_n 0, 1) := by decide +kernel
theorem d_M_operator_93 : decode prog_14_method_88_code 93 = .ok (.getfield 345, 3) := by decide +kernel
theorem d_M_operator_96 : decode prog_14_method_88_code 96 = .ok (.invokevirtual 224, 3) := by decide +kernel
theorem d_M_operator_99 : decode prog_14_method_88_code 99 = .ok (.ireturn, 1) := by decide +kernel
theorem d_M_operator_83 : decode prog_14_method_88_code 83 = .ok (.aload_n 0, 1) := by decide +kernel
theorem d_M_operator_84 : decode prog_14_method_88_code 84 = .ok (.invokevirtual 486, 3) := by decide +kernel
theorem d_M_operator_87 : decode prog_14_method_88_code 87 = .ok (.ifCond .ne 13, 3) := by decide +kernel
theorem d_M_operator_100 : decode prog_14_method_88_code 100 = .ok (.aload_n 0, 1) := by decide +kernel
theorem d_M_operator_101 : decode prog_14_method_88_code 101 = .ok (.iconst 1, 1) := by decide +kernel
theorem d_M_operator_102 : decode prog_14_method_88_code 102 = .ok (.invokevirtual 483, 3) := by decide +kernel
theorem d_M_operator_105 : decode prog_14_method_88_code 105 = .ok (.ifCond .ne 5, 3) := by decide +kernel
theorem d_M_operator_110 : decode prog_14_method_88_code 110 = .ok (.aload_n 0, 1) := by decide +kernel
theorem d_M_operator_111 : decode prog_14_method_88_code 111 = .ok (.dup, 1) := by decide +kernel
theorem d_M_operator_112 : decode prog_14_method_88_code 112 = .ok (.getfield 439, 3) := by decide +kernel
theorem d_M_operator_115 : decode prog_14_method_88_code 115 = .ok (.iconst 1, 1) := by decide +kernel
theorem d_M_operator_116 : decode prog_14_method_88_code 116 = .ok (.isub, 1) := by decide +kernel
theorem d_M_operator_117 : decode prog_14_method_88_code 117 = .ok (.putfield 439, 3) := by decide +kernel
theorem d_M_operator_120 : decode prog_14_method_88_code 120 = .ok (.aload_n 0, 1) := by decide +kernel
theorem d_M_operator_121 : decode prog_14_method_88_code 121 = .ok (.dup, 1) := by decide +kernel
theorem d_M_operator_122 : decode prog_14_method_88_code 122 = .ok (.getfield 436, 3) := by decide +kernel
theorem d_M_operator_125 : decode prog_14_method_88_code 125 = .ok (.iconst 1, 1) := by decide +kernel
theorem d_M_operator_126 : decode prog_14_method_88_code 126 = .ok (.isub, 1) := by decide +kernel
theorem d_M_operator_127 : decode prog_14_method_88_code 127 = .ok (.putfield 436, 3) := by decide +kernel
theorem d_M_operator_130 : decode prog_14_method_88_code 130 = .ok (.aload_n 0, 1) := by decide +kernel
theorem d_M_operator_131 : decode prog_14_method_88_code 131 = .ok (.invokevirtual 373, 3) := by decide +kernel
theorem d_M_operator_134 : decode prog_14_method_88_code 134 = .ok (.ifCond .eq 15, 3) := by decide +kernel
theorem d_M_operator_149 : decode prog_14_method_88_code 149 = .ok (.iconst 0, 1) := by decide +kernel
theorem d_M_operator_150 : decode prog_14_method_88_code 150 = .ok (.ireturn, 1) := by decide +kernel
theorem d_M_operator_137 : decode prog_14_method_88_code 137 = .ok (.aload_n 0, 1) := by decide +kernel
theorem d_M_operator_138 : decode prog_14_method_88_code 138 = .ok (.iconst 3, 1) := by decide +kernel
theorem d_M_operator_139 : decode prog_14_method_88_code 139 = .ok (.invokevirtual 483, 3) := by decide +kernel
theorem d_M_operator_142 : decode prog_14_method_88_code 142 = .ok (.ifCond .eq 7, 3) := by decide +kernel
theorem d_M_operator_145 : decode prog_14_method_88_code 145 = .ok (.iconst 1, 1) := by decide +kernel
theorem d_M_operator_146 : decode prog_14_method_88_code 146 = .ok (.goto 4, 3) := by decide +kernel
theorem d_M_operator_108 : decode prog_14_method_88_code 108 = .ok (.iconst 0, 1) := by decide +kernel
theorem d_M_operator_109 : decode prog_14_method_88_code 109 = .ok (.ireturn, 1) := by decide +kernel
theorem w1069 : Cond.methodLink "SeriesVaultModel" 486 ⟨"SeriesVaultModel", "isOpen", "()Z"⟩ ∈ aW := aw_of (tb_11 (List.mem_of_getElem? (i := 51) rfl)) rfl
theorem w1070 : Cond.code ⟨"SeriesVaultModel", "isOpen", "()Z"⟩ prog_14_method_87_code 3 (some FieldType.boolean) ∈ aW := aw_of (tb_11 (List.mem_of_getElem? (i := 54) rfl)) rfl
theorem w1071 : Cond.instanceMethod ⟨"SeriesVaultModel", "isOpen", "()Z"⟩ ∈ aW := aw_of (tb_11 (List.mem_of_getElem? (i := 53) rfl)) rfl
theorem w1072 : Cond.selects "SeriesVaultModel" ⟨"SeriesVaultModel", "isOpen", "()Z"⟩ ⟨"SeriesVaultModel", "isOpen", "()Z"⟩ ∈ aW := aw_pr (List.mem_map.mpr ⟨_, pv_8 (List.mem_of_getElem? (i := 13) rfl), rfl⟩) rfl
set_option maxHeartbeats 4000000 in
set_option maxRecDepth 100000 in
theorem k_operator (l : Launch) (D : va_G) (dA : Nat → ClassId) (sz : Nat) (h : Nat) (ad : Nat → Nat) (x : MS) (hoi : x.oI 1) : Met l ⟨"SeriesVaultModel", "operator", "()Z"⟩ [Cond.code ⟨"SeriesVaultModel", "operator", "()Z"⟩ prog_14_method_88_code 2 (some FieldType.boolean)] { frames := 7, cells := 0, slots := 0, locals := 154 } (pC D dA [.ref h] (MW dA h ad x) sz) (va_Qi (fun (r9 : Int32) (u9 : MS) => r9 = bI (x.opr).1 ∧ u9 = (x.opr).2) (fun (u9 : MS) t9 => bW D (va_A (MW dA h ad x) sz) (MW dA h ad u9) t9) (va_A (MW dA h ad x) sz)) 0 0 (va_A (MW dA h ad x) sz) := by
  refine mkC (y := ⟨"SeriesVaultModel", "operator", "()Z"⟩) (cc := prog_14_method_88_code) (maxL := 2) (av := [.ref h]) (ws := MW dA h ad x) (sz := sz) (Qc := fun A => va_Qi (fun (r9 : Int32) (u9 : MS) => r9 = bI (x.opr).1 ∧ u9 = (x.opr).2) (fun (u9 : MS) t9 => bW D A (MW dA h ad u9) t9) A) (by decide) (Nat.le_of_ble_eq_true rfl) ?_
  intro A p e s m below meth c ls hsz hB
  obtain ⟨hx, hb, hr, hml, hown, hin, hlk, hE, hK, hP, hD, hS, hA, hN, hl⟩ := hB
  have hown : s.vm.findClass "SeriesVaultModel" = some m.cls := hown
  have hl : lv_has ls 2 [(0, .ref h)] := hl
  obtain ⟨H, hH⟩ : ∃ z, z = s.heap := ⟨_, rfl⟩
  have hP : va_P D vwCl (MW dA h ad x) H := by rw [hH]; exact hP
  have hS : va_S A s.heap H [] := by rw [hH]; exact hS
  rw [← hH]
  have hlx := hoi.1
  have hs26 := sI_26 hoi.2.2.2.1
  have hrk := rk_le x.kind
  refine lv_aload_n hx hb d_M_operator_0 rfl (lv_at hl 0 rfl) ?_
  refine gF (v := .int x.kind) hx hb hown hE hK hP 0 rfl rfl layM 44 (by decide) w469 rfl d_M_operator_1 ?_
  have hPc := hP.sub (ws' := []) [] rfl
  have hDc := hD.sub (ws' := []) [] (by decide) rfl
  refine jnI (rnS (As := [.int x.kind]) (rest := []) hx hb hml hown hE hK (hN _ _ hS) hPc hDc (k_rank l D dA H.size x.kind) w1047 w1046 w1048 w328 rfl rfl ⟨⟨by decide, by decide⟩, rfl⟩ ⟨(Nat.le_of_ble_eq_true rfl), (Nat.le_of_ble_eq_true rfl)⟩ rfl hl.1 rfl (Nat.le_of_ble_eq_true rfl) d_M_operator_4 ⟨(Nat.le_of_ble_eq_true rfl), (Nat.le_of_ble_eq_true rfl)⟩) hP hD hS hA [] [0, 1, 2, 3, 4, 5, 6, 7, 8, 9, 10, 11, 12, 13, 14, 15, 16, 17, 18, 19, 20, 21, 22, 23, 24, 25, 26, 27, 28, 29, 30, 31, 32, 33, 34, 35, 36, 37, 38] (wr := MW dA h ad x) rfl rfl (by decide) (by decide) (fun r1 u9 H locs hp9 hP hD hS => ?_)
  have hP : va_P D vwCl (MW dA h ad x) H := hP
  have hD : va_D A (MW dA h ad x) := hD
  replace hp9 : nI (rkN x.kind) = r1 := Eq.symm hp9
  subst hp9
  refine lv_istore_n hx hb d_M_operator_7 rfl hl (by decide) rfl (fun ls hl => ?_)
  have hl : lv_has ls 2 [(1, .int (nI (rkN x.kind))), (0, .ref h)] := hl
  refine lv_iload_n hx hb d_M_operator_8 rfl (lv_at hl 0 rfl) ?_
  refine lv_iconst (v := 1) hx hb d_M_operator_9 (by decide) ?_
  refine lv_icmp_eq hx hb d_M_operator_10 (tgt := 18) rfl (fun g3 => ?_) (fun g3 => ?_)
  · have g3 := (nI_eq (a := rkN x.kind) (b := 1) (by omega) (by omega)).mp g3
    refine lv_aload_n hx hb d_M_operator_18 rfl (lv_at hl 1 rfl) ?_
    refine lv_iload_n hx hb d_M_operator_19 rfl (lv_at hl 0 rfl) ?_
    refine jfI (rnV (As := [.int (nI (rkN x.kind))]) (rest := []) hx hb hml hown hE hK (hN _ _ hS) hP hD (k_doneTo l D dA H.size h ad x (rkN x.kind) (oI_dI hoi) (show 1 ≤ (rkN x.kind) from by omega) (show (rkN x.kind) ≤ 3 from by omega)) (q0 := 0) rfl rfl w1058 w1057 w1059 w1060 w328 rfl rfl ⟨⟨by decide, by decide⟩, rfl⟩ ⟨(Nat.le_of_ble_eq_true rfl), (Nat.le_of_ble_eq_true rfl)⟩ rfl hl.1 rfl (Nat.le_of_ble_eq_true rfl) d_M_operator_20 ⟨(Nat.le_of_ble_eq_true rfl), (Nat.le_of_ble_eq_true rfl)⟩) hP hD hS hA (fun r4 u5 H locs hp9 hP hD hS => ?_)
    obtain ⟨y6, h9u⟩ : ∃ z9, z9 = u5 := ⟨_, rfl⟩
    subst h9u
    have hP : va_P D vwCl (MW dA h ad y6) H := hP
    have hD : va_D A (MW dA h ad y6) := hD
    obtain ⟨hp9, f_e_7⟩ := hp9
    replace hp9 : bI (x.dt (rkN x.kind)).1 = r4 := Eq.symm hp9
    subst hp9
    refine lv_if_ne hx hb d_M_operator_23 (tgt := 28) rfl (fun g8 => ?_) (fun g8 => ?_)
    · have g8 := bI_n0 g8
      obtain ⟨o1, o2, o3, o4⟩ := dt_oI (v := y6) (by omega) hoi (Prod.ext g8 f_e_7.symm)
      have k0 : 0 ≤ y6.kind := by rw [o3.1]; exact (rkN_c (Or.inl g3)).2.1
      have s26 := sI_26 o1.2.2.2.1
      refine lv_aload_n hx hb d_M_operator_28 rfl (lv_at hl 1 rfl) ?_
      refine gF (v := .ref (ad 66)) hx hb hown hE hK hP 0 rfl rfl layM 66 (by decide) w532 rfl d_M_operator_29 ?_
      refine lv_aload_n hx hb d_M_operator_32 rfl (lv_at hl 1 rfl) ?_
      refine gF (v := .int (nI y6.signCount)) hx hb hown hE hK hP 0 rfl rfl layM 68 (by decide) w477 rfl d_M_operator_33 ?_
      refine lv_aload_n hx hb d_M_operator_36 rfl (lv_at hl 1 rfl) ?_
      refine gF (v := .int y6.kind) hx hb hown hE hK hP 0 rfl rfl layM 44 (by decide) w469 rfl d_M_operator_37 ?_
      refine tpi (y := nI (i2n y6.kind)) (i2n_nI k0) ?_
      refine nistN (v := i2n y6.kind) hx hb hK hP hD hS 33 1 rfl rfl (y6.signCount) (by omega) (by decide) d_M_operator_40 (fun H locs hP hD hS => ?_)
      have hP : va_P D vwCl (MW dA h ad (MS.s_signs y6 (va_up y6.signs y6.signCount (i2n y6.kind)))) H := hP
      have hD : va_D A (MW dA h ad (MS.s_signs y6 (va_up y6.signs y6.signCount (i2n y6.kind)))) := hD
      refine lv_aload_n hx hb d_M_operator_41 rfl (lv_at hl 1 rfl) ?_
      refine gF (v := .ref (ad 67)) hx hb hown hE hK hP 0 rfl rfl layM 67 (by decide) w533 rfl d_M_operator_42 ?_
      refine lv_aload_n hx hb d_M_operator_45 rfl (lv_at hl 1 rfl) ?_
      refine gF (v := .int (nI y6.signCount)) hx hb hown hE hK hP 0 rfl rfl layM 68 (by decide) w477 rfl d_M_operator_46 ?_
      refine lv_aload_n hx hb d_M_operator_49 rfl (lv_at hl 1 rfl) ?_
      refine gF (v := .int (nI y6.frm)) hx hb hown hE hK hP 0 rfl rfl layM 45 (by decide) w464 rfl d_M_operator_50 ?_
      refine nistN (v := y6.frm) hx hb hK hP hD hS 34 1 rfl rfl (y6.signCount) (by omega) (by decide) d_M_operator_53 (fun H locs hP hD hS => ?_)
      have hP : va_P D vwCl (MW dA h ad (MS.s_signPlaces (MS.s_signs y6 (va_up y6.signs y6.signCount (i2n y6.kind))) (va_up y6.signPlaces y6.signCount y6.frm))) H := hP
      have hD : va_D A (MW dA h ad (MS.s_signPlaces (MS.s_signs y6 (va_up y6.signs y6.signCount (i2n y6.kind))) (va_up y6.signPlaces y6.signCount y6.frm))) := hD
      refine lv_aload_n hx hb d_M_operator_54 rfl (lv_at hl 1 rfl) ?_
      refine lv_dup hx hb d_M_operator_55 rfl ?_
      refine gF (v := .int (nI y6.signCount)) hx hb hown hE hK hP 0 rfl rfl layM 68 (by decide) w477 rfl d_M_operator_56 ?_
      refine lv_iconst (v := 1) hx hb d_M_operator_59 (by decide) ?_
      refine lv_iadd hx hb d_M_operator_60 (tpi (y := nI (y6.signCount + 1)) (nI_add (y6.signCount) (1)) ?_)
      refine pF (v := .int (nI (y6.signCount + 1))) hx hb hown hE hK hP hD hS 0 rfl rfl layM tyM tokM nmM 68 (by decide) w477 rfl rfl rfl (Nat.le_of_ble_eq_true rfl) d_M_operator_61 (fun H locs hP hD hS => ?_)
      have hP : va_P D vwCl (MW dA h ad (MS.s_signCount (MS.s_signPlaces (MS.s_signs y6 (va_up y6.signs y6.signCount (i2n y6.kind))) (va_up y6.signPlaces y6.signCount y6.frm)) (y6.signCount + 1))) H := hP
      have hD : va_D A (MW dA h ad (MS.s_signCount (MS.s_signPlaces (MS.s_signs y6 (va_up y6.signs y6.signCount (i2n y6.kind))) (va_up y6.signPlaces y6.signCount y6.frm)) (y6.signCount + 1))) := hD
      refine lv_aload_n hx hb d_M_operator_64 rfl (lv_at hl 1 rfl) ?_
      refine lv_iconst (v := 1) hx hb d_M_operator_65 (by decide) ?_
      refine pF (v := .int (bI true)) hx hb hown hE hK hP hD hS 0 rfl rfl layM tyM tokM nmM 70 (by decide) w470 rfl (bI_nar true) (bI_fit true) (Nat.le_of_ble_eq_true rfl) d_M_operator_66 (fun H locs hP hD hS => ?_)
      have hP : va_P D vwCl (MW dA h ad (MS.s_wants (MS.s_signCount (MS.s_signPlaces (MS.s_signs y6 (va_up y6.signs y6.signCount (i2n y6.kind))) (va_up y6.signPlaces y6.signCount y6.frm)) (y6.signCount + 1)) true)) H := hP
      have hD : va_D A (MW dA h ad (MS.s_wants (MS.s_signCount (MS.s_signPlaces (MS.s_signs y6 (va_up y6.signs y6.signCount (i2n y6.kind))) (va_up y6.signPlaces y6.signCount y6.frm)) (y6.signCount + 1)) true)) := hD
      refine lv_aload_n hx hb d_M_operator_69 rfl (lv_at hl 1 rfl) ?_
      refine jfI (rnV (As := []) (rest := []) hx hb hml hown hE hK (hN _ _ hS) hP hD (k_next l D dA H.size h ad (MS.s_wants (MS.s_signCount (MS.s_signPlaces (MS.s_signs y6 (va_up y6.signs y6.signCount (i2n y6.kind))) (va_up y6.signPlaces y6.signCount y6.frm)) (y6.signCount + 1)) true) o1.1.1 o1.1.2.2.1 o1.1.2.2.2) (q0 := 0) rfl rfl w480 w479 w481 w482 w328 rfl rfl ⟨⟨by decide, by decide⟩, rfl⟩ ⟨(Nat.le_of_ble_eq_true rfl), (Nat.le_of_ble_eq_true rfl)⟩ rfl hl.1 rfl (Nat.le_of_ble_eq_true rfl) d_M_operator_70 ⟨(Nat.le_of_ble_eq_true rfl), (Nat.le_of_ble_eq_true rfl)⟩) hP hD hS hA (fun r9 u10 H locs hp9 hP hD hS => ?_)
      obtain ⟨y11, h9u⟩ : ∃ z9, z9 = u10 := ⟨_, rfl⟩
      subst h9u
      have hP : va_P D vwCl (MW dA h ad y11) H := hP
      have hD : va_D A (MW dA h ad y11) := hD
      obtain ⟨hp9, f_e_12⟩ := hp9
      replace hp9 : bI ((MS.s_wants (MS.s_signCount (MS.s_signPlaces (MS.s_signs y6 (va_up y6.signs y6.signCount (i2n y6.kind))) (va_up y6.signPlaces y6.signCount y6.frm)) (y6.signCount + 1)) true).nx).1 = r9 := Eq.symm hp9
      subst hp9
      exact rfZ hx hb hr (bI_nar (((MS.s_wants (MS.s_signCount (MS.s_signPlaces (MS.s_signs y6 (va_up y6.signs y6.signCount (i2n y6.kind))) (va_up y6.signPlaces y6.signCount y6.frm)) (y6.signCount + 1)) true).nx).1)) hlk hS y11 (by have e9 : x.opr = x.opr1 (rkN x.kind) := if_pos (Or.inl g3); have e8 : x.opr1 (rkN x.kind) = y6.psh.nx := (if_pos g8).trans (by rw [f_e_7]); rw [e9, e8]; exact ⟨rfl, f_e_12⟩) hP hD (Nat.le_of_ble_eq_true rfl) (Nat.le_of_ble_eq_true rfl) d_M_operator_73
    · have g8 := bI_0 g8
      refine lv_iconst (v := 0) hx hb d_M_operator_26 (by decide) ?_
      exact rfZ hx hb hr (bI_nar false) hlk hS y6 (by have e9 : x.opr = x.opr1 (rkN x.kind) := if_pos (Or.inl g3); have e8 : x.opr1 (rkN x.kind) = (false, (x.dt (rkN x.kind)).2) := if_neg (by rw [g8]; decide); rw [e9, e8]; exact ⟨rfl, f_e_7⟩) hP hD (Nat.le_of_ble_eq_true rfl) (Nat.le_of_ble_eq_true rfl) d_M_operator_27
  · have g3 := mt (nI_eq (a := rkN x.kind) (b := 1) (by omega) (by omega)).mpr g3
    refine lv_iload_n hx hb d_M_operator_13 rfl (lv_at hl 0 rfl) ?_
    refine lv_iconst (v := 2) hx hb d_M_operator_14 (by decide) ?_
    refine lv_icmp_ne hx hb d_M_operator_15 (tgt := 74) rfl (fun g13 => ?_) (fun g13 => ?_)
    · have g13 := mt (nI_eq (a := rkN x.kind) (b := 2) (by omega) (by omega)).mpr g13
      refine lv_aload_n hx hb d_M_operator_74 rfl (lv_at hl 1 rfl) ?_
      refine gF (v := .int x.kind) hx hb hown hE hK hP 0 rfl rfl layM 44 (by decide) w469 rfl d_M_operator_75 ?_
      refine lv_bipush (v := 41) hx hb d_M_operator_78 (by decide) ?_
      refine lv_icmp_ne hx hb d_M_operator_80 (tgt := 90) rfl (fun g14 => ?_) (fun g14 => ?_)
      · have g14 := g14
        refine lv_aload_n hx hb d_M_operator_90 rfl (lv_at hl 1 rfl) ?_
        refine lv_iconst (v := 2) hx hb d_M_operator_91 (by decide) ?_
        refine lv_aload_n hx hb d_M_operator_92 rfl (lv_at hl 1 rfl) ?_
        refine gF (v := .int (nI x.frm)) hx hb hown hE hK hP 0 rfl rfl layM 45 (by decide) w464 rfl d_M_operator_93 ?_
        refine jfI (rnV (As := [.int 2, .int (nI x.frm)]) (rest := []) hx hb hml hown hE hK (hN _ _ hS) hP hD (k_flaw_0 l D dA H.size h ad x 2 (nI x.frm) hlx.2.2.2) (q0 := 0) rfl rfl w431 w430 w432 w433 w328 rfl rfl ⟨⟨by decide, by decide⟩, rfl⟩ ⟨(Nat.le_of_ble_eq_true rfl), (Nat.le_of_ble_eq_true rfl)⟩ rfl hl.1 rfl (Nat.le_of_ble_eq_true rfl) d_M_operator_96 ⟨(Nat.le_of_ble_eq_true rfl), (Nat.le_of_ble_eq_true rfl)⟩) hP hD hS hA (fun r15 u16 H locs hp9 hP hD hS => ?_)
        have hP : va_P D vwCl (MW dA h ad (MS.s_faultPlace (MS.s_faultCode x 2) (nI x.frm))) H := hP
        have hD : va_D A (MW dA h ad (MS.s_faultPlace (MS.s_faultCode x 2) (nI x.frm))) := hD
        replace hp9 : bI false = r15 := Eq.symm hp9
        subst hp9
        exact rfZ hx hb hr (bI_nar false) hlk hS (MS.s_faultPlace (MS.s_faultCode x 2) (nI x.frm)) (by have e9 : x.opr = (false, x.flS 2 x.frm) := (if_neg (fun z9 => z9.elim g3 g13)).trans (if_neg (fun z9 => g14 z9.1)); rw [e9]; exact ⟨rfl, rfl⟩) hP hD (Nat.le_of_ble_eq_true rfl) (Nat.le_of_ble_eq_true rfl) d_M_operator_99
      · have g14 := g14
        refine lv_aload_n hx hb d_M_operator_83 rfl (lv_at hl 1 rfl) ?_
        refine jfI (rnV (As := []) (rest := []) hx hb hml hown hE hK (hN _ _ hS) hP hD (k_isOpen l D dA H.size h ad x (show x.signCount ≤ 32 from by omega) (fun k hk => Nat.lt_of_le_of_lt (sI_lt hoi.2.2.2.1 hk) (by decide))) (q0 := 0) rfl rfl w1070 w1069 w1071 w1072 w328 rfl rfl ⟨⟨by decide, by decide⟩, rfl⟩ ⟨(Nat.le_of_ble_eq_true rfl), (Nat.le_of_ble_eq_true rfl)⟩ rfl hl.1 rfl (Nat.le_of_ble_eq_true rfl) d_M_operator_84 ⟨(Nat.le_of_ble_eq_true rfl), (Nat.le_of_ble_eq_true rfl)⟩) hP hD hS hA (fun r17 u18 H locs hp9 hP hD hS => ?_)
        have hP : va_P D vwCl (MW dA h ad x) H := hP
        have hD : va_D A (MW dA h ad x) := hD
        replace hp9 : bI x.opnB = r17 := Eq.symm hp9
        subst hp9
        refine lv_if_ne hx hb d_M_operator_87 (tgt := 100) rfl (fun g19 => ?_) (fun g19 => ?_)
        · have g19 := bI_n0 g19
          refine lv_aload_n hx hb d_M_operator_100 rfl (lv_at hl 1 rfl) ?_
          refine lv_iconst (v := 1) hx hb d_M_operator_101 (by decide) ?_
          refine jfI (rnV (As := [.int 1]) (rest := []) hx hb hml hown hE hK (hN _ _ hS) hP hD (k_doneTo l D dA H.size h ad x 1 (oI_dI hoi) (by decide) (by decide)) (q0 := 0) rfl rfl w1058 w1057 w1059 w1060 w328 rfl rfl ⟨⟨by decide, by decide⟩, rfl⟩ ⟨(Nat.le_of_ble_eq_true rfl), (Nat.le_of_ble_eq_true rfl)⟩ rfl hl.1 rfl (Nat.le_of_ble_eq_true rfl) d_M_operator_102 ⟨(Nat.le_of_ble_eq_true rfl), (Nat.le_of_ble_eq_true rfl)⟩) hP hD hS hA (fun r20 u21 H locs hp9 hP hD hS => ?_)
          obtain ⟨y22, h9u⟩ : ∃ z9, z9 = u21 := ⟨_, rfl⟩
          subst h9u
          have hP : va_P D vwCl (MW dA h ad y22) H := hP
          have hD : va_D A (MW dA h ad y22) := hD
          obtain ⟨hp9, f_e_23⟩ := hp9
          replace hp9 : bI (x.dt 1).1 = r20 := Eq.symm hp9
          subst hp9
          refine lv_if_ne hx hb d_M_operator_105 (tgt := 110) rfl (fun g24 => ?_) (fun g24 => ?_)
          · have g24 := bI_n0 g24
            have hd1 : x.dt 1 = (true, y22) := Prod.ext g24 f_e_23.symm
            obtain ⟨o1, o2, o3, o4⟩ := dt_oI (by decide) hoi hd1
            have oy := dt_opn (by decide) (oI_dI hoi) rfl g19 hd1
            obtain ⟨k, k1, -⟩ := anyB_x oy
            have t4 := top_0 o1.2.2.2.1 (by omega) (o4.resolve_left (by omega))
            obtain ⟨s1, s2⟩ := pop4_sI o1.2.2.2.1 (by omega) t4
            have s26 := sI_26 o1.2.2.2.1
            refine lv_aload_n hx hb d_M_operator_110 rfl (lv_at hl 1 rfl) ?_
            refine lv_dup hx hb d_M_operator_111 rfl ?_
            refine gF (v := .int (nI y22.signCount)) hx hb hown hE hK hP 0 rfl rfl layM 68 (by decide) w477 rfl d_M_operator_112 ?_
            refine lv_iconst (v := 1) hx hb d_M_operator_115 (by decide) ?_
            refine lv_isub hx hb d_M_operator_116 (tpi (y := nI (y22.signCount - 1)) (pk_sub (a := y22.signCount) (b := 1) (by omega)) ?_)
            refine pF (v := .int (nI (y22.signCount - 1))) hx hb hown hE hK hP hD hS 0 rfl rfl layM tyM tokM nmM 68 (by decide) w477 rfl rfl rfl (Nat.le_of_ble_eq_true rfl) d_M_operator_117 (fun H locs hP hD hS => ?_)
            have hP : va_P D vwCl (MW dA h ad (MS.s_signCount y22 (y22.signCount - 1))) H := hP
            have hD : va_D A (MW dA h ad (MS.s_signCount y22 (y22.signCount - 1))) := hD
            refine lv_aload_n hx hb d_M_operator_120 rfl (lv_at hl 1 rfl) ?_
            refine lv_dup hx hb d_M_operator_121 rfl ?_
            refine gF (v := .int (nI y22.opn)) hx hb hown hE hK hP 0 rfl rfl layM 69 (by decide) w478 rfl d_M_operator_122 ?_
            refine lv_iconst (v := 1) hx hb d_M_operator_125 (by decide) ?_
            refine lv_isub hx hb d_M_operator_126 (tpi (y := nI (y22.opn - 1)) (pk_sub (a := y22.opn) (b := 1) (by omega)) ?_)
            refine pF (v := .int (nI (y22.opn - 1))) hx hb hown hE hK hP hD hS 0 rfl rfl layM tyM tokM nmM 69 (by decide) w478 rfl rfl rfl (Nat.le_of_ble_eq_true rfl) d_M_operator_127 (fun H locs hP hD hS => ?_)
            have hP : va_P D vwCl (MW dA h ad (MS.s_opn (MS.s_signCount y22 (y22.signCount - 1)) (y22.opn - 1))) H := hP
            have hD : va_D A (MW dA h ad (MS.s_opn (MS.s_signCount y22 (y22.signCount - 1)) (y22.opn - 1))) := hD
            refine lv_aload_n hx hb d_M_operator_130 rfl (lv_at hl 1 rfl) ?_
            refine jfI (rnV (As := []) (rest := []) hx hb hml hown hE hK (hN _ _ hS) hP hD (k_next l D dA H.size h ad (MS.s_opn (MS.s_signCount y22 (y22.signCount - 1)) (y22.opn - 1)) o1.1.1 o1.1.2.2.1 o1.1.2.2.2) (q0 := 0) rfl rfl w480 w479 w481 w482 w328 rfl rfl ⟨⟨by decide, by decide⟩, rfl⟩ ⟨(Nat.le_of_ble_eq_true rfl), (Nat.le_of_ble_eq_true rfl)⟩ rfl hl.1 rfl (Nat.le_of_ble_eq_true rfl) d_M_operator_131 ⟨(Nat.le_of_ble_eq_true rfl), (Nat.le_of_ble_eq_true rfl)⟩) hP hD hS hA (fun r25 u26 H locs hp9 hP hD hS => ?_)
            obtain ⟨y27, h9u⟩ : ∃ z9, z9 = u26 := ⟨_, rfl⟩
            subst h9u
            have hP : va_P D vwCl (MW dA h ad y27) H := hP
            have hD : va_D A (MW dA h ad y27) := hD
            obtain ⟨hp9, f_e_28⟩ := hp9
            replace hp9 : bI ((MS.s_opn (MS.s_signCount y22 (y22.signCount - 1)) (y22.opn - 1)).nx).1 = r25 := Eq.symm hp9
            subst hp9
            refine lv_if_eq hx hb d_M_operator_134 (tgt := 149) rfl (fun g29 => ?_) (fun g29 => ?_)
            · have g29 := bI_0 g29
              refine lv_iconst (v := 0) hx hb d_M_operator_149 (by decide) ?_
              exact rfZ hx hb hr (bI_nar false) hlk hS y27 (by have e9 : x.opr = x.opr2 := (if_neg (fun z9 => z9.elim g3 g13)).trans (if_pos ⟨g14, g19⟩); have e8 : x.opr2 = MS.od3 y22.pop4.nx := (if_pos g24).trans (by rw [f_e_23]); rw [e9, e8, od3_f (show y22.pop4.nx.1 = false from g29)]; exact ⟨rfl, f_e_28⟩) hP hD (Nat.le_of_ble_eq_true rfl) (Nat.le_of_ble_eq_true rfl) d_M_operator_150
            · have g29 := bI_n0 g29
              have d9 : y27.dI := by rw [f_e_28]; exact pop4_nx o1 s1 g29
              refine lv_aload_n hx hb d_M_operator_137 rfl (lv_at hl 1 rfl) ?_
              refine lv_iconst (v := 3) hx hb d_M_operator_138 (by decide) ?_
              refine jfI (rnV (As := [.int 3]) (rest := []) hx hb hml hown hE hK (hN _ _ hS) hP hD (k_doneTo l D dA H.size h ad y27 3 d9 (by decide) (by decide)) (q0 := 0) rfl rfl w1058 w1057 w1059 w1060 w328 rfl rfl ⟨⟨by decide, by decide⟩, rfl⟩ ⟨(Nat.le_of_ble_eq_true rfl), (Nat.le_of_ble_eq_true rfl)⟩ rfl hl.1 rfl (Nat.le_of_ble_eq_true rfl) d_M_operator_139 ⟨(Nat.le_of_ble_eq_true rfl), (Nat.le_of_ble_eq_true rfl)⟩) hP hD hS hA (fun r30 u31 H locs hp9 hP hD hS => ?_)
              obtain ⟨y32, h9u⟩ : ∃ z9, z9 = u31 := ⟨_, rfl⟩
              subst h9u
              have hP : va_P D vwCl (MW dA h ad y32) H := hP
              have hD : va_D A (MW dA h ad y32) := hD
              obtain ⟨hp9, f_e_33⟩ := hp9
              replace hp9 : bI (y27.dt 3).1 = r30 := Eq.symm hp9
              subst hp9
              refine lv_if_eq hx hb d_M_operator_142 (tgt := 149) rfl (fun g34 => ?_) (fun g34 => ?_)
              · have g34 := bI_0 g34
                refine lv_iconst (v := 0) hx hb d_M_operator_149 (by decide) ?_
                exact rfZ hx hb hr (bI_nar false) hlk hS y32 (by have e9 : x.opr = x.opr2 := (if_neg (fun z9 => z9.elim g3 g13)).trans (if_pos ⟨g14, g19⟩); have e8 : x.opr2 = MS.od3 y22.pop4.nx := (if_pos g24).trans (by rw [f_e_23]); rw [e9, e8, od3_t (show y22.pop4.nx.1 = true from g29) f_e_28]; exact ⟨by rw [g34]; rfl, f_e_33⟩) hP hD (Nat.le_of_ble_eq_true rfl) (Nat.le_of_ble_eq_true rfl) d_M_operator_150
              · have g34 := bI_n0 g34
                refine lv_iconst (v := 1) hx hb d_M_operator_145 (by decide) ?_
                refine lv_goto hx hb d_M_operator_146 (tgt := 150) rfl ?_
                exact rfZ hx hb hr (bI_nar true) hlk hS y32 (by have e9 : x.opr = x.opr2 := (if_neg (fun z9 => z9.elim g3 g13)).trans (if_pos ⟨g14, g19⟩); have e8 : x.opr2 = MS.od3 y22.pop4.nx := (if_pos g24).trans (by rw [f_e_23]); rw [e9, e8, od3_t (show y22.pop4.nx.1 = true from g29) f_e_28]; exact ⟨by rw [g34]; rfl, f_e_33⟩) hP hD (Nat.le_of_ble_eq_true rfl) (Nat.le_of_ble_eq_true rfl) d_M_operator_150
          · have g24 := bI_0 g24
            refine lv_iconst (v := 0) hx hb d_M_operator_108 (by decide) ?_
            exact rfZ hx hb hr (bI_nar false) hlk hS y22 (by have e9 : x.opr = x.opr2 := (if_neg (fun z9 => z9.elim g3 g13)).trans (if_pos ⟨g14, g19⟩); have e8 : x.opr2 = (false, (x.dt 1).2) := if_neg (by rw [g24]; decide); rw [e9, e8]; exact ⟨rfl, f_e_23⟩) hP hD (Nat.le_of_ble_eq_true rfl) (Nat.le_of_ble_eq_true rfl) d_M_operator_109
        · have g19 := bI_0 g19
          refine lv_aload_n hx hb d_M_operator_90 rfl (lv_at hl 1 rfl) ?_
          refine lv_iconst (v := 2) hx hb d_M_operator_91 (by decide) ?_
          refine lv_aload_n hx hb d_M_operator_92 rfl (lv_at hl 1 rfl) ?_
          refine gF (v := .int (nI x.frm)) hx hb hown hE hK hP 0 rfl rfl layM 45 (by decide) w464 rfl d_M_operator_93 ?_
          refine jfI (rnV (As := [.int 2, .int (nI x.frm)]) (rest := []) hx hb hml hown hE hK (hN _ _ hS) hP hD (k_flaw_0 l D dA H.size h ad x 2 (nI x.frm) hlx.2.2.2) (q0 := 0) rfl rfl w431 w430 w432 w433 w328 rfl rfl ⟨⟨by decide, by decide⟩, rfl⟩ ⟨(Nat.le_of_ble_eq_true rfl), (Nat.le_of_ble_eq_true rfl)⟩ rfl hl.1 rfl (Nat.le_of_ble_eq_true rfl) d_M_operator_96 ⟨(Nat.le_of_ble_eq_true rfl), (Nat.le_of_ble_eq_true rfl)⟩) hP hD hS hA (fun r35 u36 H locs hp9 hP hD hS => ?_)
          have hP : va_P D vwCl (MW dA h ad (MS.s_faultPlace (MS.s_faultCode x 2) (nI x.frm))) H := hP
          have hD : va_D A (MW dA h ad (MS.s_faultPlace (MS.s_faultCode x 2) (nI x.frm))) := hD
          replace hp9 : bI false = r35 := Eq.symm hp9
          subst hp9
          exact rfZ hx hb hr (bI_nar false) hlk hS (MS.s_faultPlace (MS.s_faultCode x 2) (nI x.frm)) (by have e9 : x.opr = (false, x.flS 2 x.frm) := (if_neg (fun z9 => z9.elim g3 g13)).trans (if_neg (fun z9 => by have z8 := z9.2; rw [g19] at z8; cases z8)); rw [e9]; exact ⟨rfl, rfl⟩) hP hD (Nat.le_of_ble_eq_true rfl) (Nat.le_of_ble_eq_true rfl) d_M_operator_99
    · have g13 := (nI_eq (a := rkN x.kind) (b := 2) (by omega) (by omega)).mp g13
      refine lv_aload_n hx hb d_M_operator_18 rfl (lv_at hl 1 rfl) ?_
      refine lv_iload_n hx hb d_M_operator_19 rfl (lv_at hl 0 rfl) ?_
      refine jfI (rnV (As := [.int (nI (rkN x.kind))]) (rest := []) hx hb hml hown hE hK (hN _ _ hS) hP hD (k_doneTo l D dA H.size h ad x (rkN x.kind) (oI_dI hoi) (show 1 ≤ (rkN x.kind) from by omega) (show (rkN x.kind) ≤ 3 from by omega)) (q0 := 0) rfl rfl w1058 w1057 w1059 w1060 w328 rfl rfl ⟨⟨by decide, by decide⟩, rfl⟩ ⟨(Nat.le_of_ble_eq_true rfl), (Nat.le_of_ble_eq_true rfl)⟩ rfl hl.1 rfl (Nat.le_of_ble_eq_true rfl) d_M_operator_20 ⟨(Nat.le_of_ble_eq_true rfl), (Nat.le_of_ble_eq_true rfl)⟩) hP hD hS hA (fun r37 u38 H locs hp9 hP hD hS => ?_)
      obtain ⟨y39, h9u⟩ : ∃ z9, z9 = u38 := ⟨_, rfl⟩
      subst h9u
      have hP : va_P D vwCl (MW dA h ad y39) H := hP
      have hD : va_D A (MW dA h ad y39) := hD
      obtain ⟨hp9, f_e_40⟩ := hp9
      replace hp9 : bI (x.dt (rkN x.kind)).1 = r37 := Eq.symm hp9
      subst hp9
      refine lv_if_ne hx hb d_M_operator_23 (tgt := 28) rfl (fun g41 => ?_) (fun g41 => ?_)
      · have g41 := bI_n0 g41
        obtain ⟨o1, o2, o3, o4⟩ := dt_oI (v := y39) (by omega) hoi (Prod.ext g41 f_e_40.symm)
        have k0 : 0 ≤ y39.kind := by rw [o3.1]; exact (rkN_c (Or.inr g13)).2.1
        have s26 := sI_26 o1.2.2.2.1
        refine lv_aload_n hx hb d_M_operator_28 rfl (lv_at hl 1 rfl) ?_
        refine gF (v := .ref (ad 66)) hx hb hown hE hK hP 0 rfl rfl layM 66 (by decide) w532 rfl d_M_operator_29 ?_
        refine lv_aload_n hx hb d_M_operator_32 rfl (lv_at hl 1 rfl) ?_
        refine gF (v := .int (nI y39.signCount)) hx hb hown hE hK hP 0 rfl rfl layM 68 (by decide) w477 rfl d_M_operator_33 ?_
        refine lv_aload_n hx hb d_M_operator_36 rfl (lv_at hl 1 rfl) ?_
        refine gF (v := .int y39.kind) hx hb hown hE hK hP 0 rfl rfl layM 44 (by decide) w469 rfl d_M_operator_37 ?_
        refine tpi (y := nI (i2n y39.kind)) (i2n_nI k0) ?_
        refine nistN (v := i2n y39.kind) hx hb hK hP hD hS 33 1 rfl rfl (y39.signCount) (by omega) (by decide) d_M_operator_40 (fun H locs hP hD hS => ?_)
        have hP : va_P D vwCl (MW dA h ad (MS.s_signs y39 (va_up y39.signs y39.signCount (i2n y39.kind)))) H := hP
        have hD : va_D A (MW dA h ad (MS.s_signs y39 (va_up y39.signs y39.signCount (i2n y39.kind)))) := hD
        refine lv_aload_n hx hb d_M_operator_41 rfl (lv_at hl 1 rfl) ?_
        refine gF (v := .ref (ad 67)) hx hb hown hE hK hP 0 rfl rfl layM 67 (by decide) w533 rfl d_M_operator_42 ?_
        refine lv_aload_n hx hb d_M_operator_45 rfl (lv_at hl 1 rfl) ?_
        refine gF (v := .int (nI y39.signCount)) hx hb hown hE hK hP 0 rfl rfl layM 68 (by decide) w477 rfl d_M_operator_46 ?_
        refine lv_aload_n hx hb d_M_operator_49 rfl (lv_at hl 1 rfl) ?_
        refine gF (v := .int (nI y39.frm)) hx hb hown hE hK hP 0 rfl rfl layM 45 (by decide) w464 rfl d_M_operator_50 ?_
        refine nistN (v := y39.frm) hx hb hK hP hD hS 34 1 rfl rfl (y39.signCount) (by omega) (by decide) d_M_operator_53 (fun H locs hP hD hS => ?_)
        have hP : va_P D vwCl (MW dA h ad (MS.s_signPlaces (MS.s_signs y39 (va_up y39.signs y39.signCount (i2n y39.kind))) (va_up y39.signPlaces y39.signCount y39.frm))) H := hP
        have hD : va_D A (MW dA h ad (MS.s_signPlaces (MS.s_signs y39 (va_up y39.signs y39.signCount (i2n y39.kind))) (va_up y39.signPlaces y39.signCount y39.frm))) := hD
        refine lv_aload_n hx hb d_M_operator_54 rfl (lv_at hl 1 rfl) ?_
        refine lv_dup hx hb d_M_operator_55 rfl ?_
        refine gF (v := .int (nI y39.signCount)) hx hb hown hE hK hP 0 rfl rfl layM 68 (by decide) w477 rfl d_M_operator_56 ?_
        refine lv_iconst (v := 1) hx hb d_M_operator_59 (by decide) ?_
        refine lv_iadd hx hb d_M_operator_60 (tpi (y := nI (y39.signCount + 1)) (nI_add (y39.signCount) (1)) ?_)
        refine pF (v := .int (nI (y39.signCount + 1))) hx hb hown hE hK hP hD hS 0 rfl rfl layM tyM tokM nmM 68 (by decide) w477 rfl rfl rfl (Nat.le_of_ble_eq_true rfl) d_M_operator_61 (fun H locs hP hD hS => ?_)
        have hP : va_P D vwCl (MW dA h ad (MS.s_signCount (MS.s_signPlaces (MS.s_signs y39 (va_up y39.signs y39.signCount (i2n y39.kind))) (va_up y39.signPlaces y39.signCount y39.frm)) (y39.signCount + 1))) H := hP
        have hD : va_D A (MW dA h ad (MS.s_signCount (MS.s_signPlaces (MS.s_signs y39 (va_up y39.signs y39.signCount (i2n y39.kind))) (va_up y39.signPlaces y39.signCount y39.frm)) (y39.signCount + 1))) := hD
        refine lv_aload_n hx hb d_M_operator_64 rfl (lv_at hl 1 rfl) ?_
        refine lv_iconst (v := 1) hx hb d_M_operator_65 (by decide) ?_
        refine pF (v := .int (bI true)) hx hb hown hE hK hP hD hS 0 rfl rfl layM tyM tokM nmM 70 (by decide) w470 rfl (bI_nar true) (bI_fit true) (Nat.le_of_ble_eq_true rfl) d_M_operator_66 (fun H locs hP hD hS => ?_)
        have hP : va_P D vwCl (MW dA h ad (MS.s_wants (MS.s_signCount (MS.s_signPlaces (MS.s_signs y39 (va_up y39.signs y39.signCount (i2n y39.kind))) (va_up y39.signPlaces y39.signCount y39.frm)) (y39.signCount + 1)) true)) H := hP
        have hD : va_D A (MW dA h ad (MS.s_wants (MS.s_signCount (MS.s_signPlaces (MS.s_signs y39 (va_up y39.signs y39.signCount (i2n y39.kind))) (va_up y39.signPlaces y39.signCount y39.frm)) (y39.signCount + 1)) true)) := hD
        refine lv_aload_n hx hb d_M_operator_69 rfl (lv_at hl 1 rfl) ?_
        refine jfI (rnV (As := []) (rest := []) hx hb hml hown hE hK (hN _ _ hS) hP hD (k_next l D dA H.size h ad (MS.s_wants (MS.s_signCount (MS.s_signPlaces (MS.s_signs y39 (va_up y39.signs y39.signCount (i2n y39.kind))) (va_up y39.signPlaces y39.signCount y39.frm)) (y39.signCount + 1)) true) o1.1.1 o1.1.2.2.1 o1.1.2.2.2) (q0 := 0) rfl rfl w480 w479 w481 w482 w328 rfl rfl ⟨⟨by decide, by decide⟩, rfl⟩ ⟨(Nat.le_of_ble_eq_true rfl), (Nat.le_of_ble_eq_true rfl)⟩ rfl hl.1 rfl (Nat.le_of_ble_eq_true rfl) d_M_operator_70 ⟨(Nat.le_of_ble_eq_true rfl), (Nat.le_of_ble_eq_true rfl)⟩) hP hD hS hA (fun r42 u43 H locs hp9 hP hD hS => ?_)
        obtain ⟨y44, h9u⟩ : ∃ z9, z9 = u43 := ⟨_, rfl⟩
        subst h9u
        have hP : va_P D vwCl (MW dA h ad y44) H := hP
        have hD : va_D A (MW dA h ad y44) := hD
        obtain ⟨hp9, f_e_45⟩ := hp9
        replace hp9 : bI ((MS.s_wants (MS.s_signCount (MS.s_signPlaces (MS.s_signs y39 (va_up y39.signs y39.signCount (i2n y39.kind))) (va_up y39.signPlaces y39.signCount y39.frm)) (y39.signCount + 1)) true).nx).1 = r42 := Eq.symm hp9
        subst hp9
        exact rfZ hx hb hr (bI_nar (((MS.s_wants (MS.s_signCount (MS.s_signPlaces (MS.s_signs y39 (va_up y39.signs y39.signCount (i2n y39.kind))) (va_up y39.signPlaces y39.signCount y39.frm)) (y39.signCount + 1)) true).nx).1)) hlk hS y44 (by have e9 : x.opr = x.opr1 (rkN x.kind) := if_pos (Or.inr g13); have e8 : x.opr1 (rkN x.kind) = y39.psh.nx := (if_pos g41).trans (by rw [f_e_40]); rw [e9, e8]; exact ⟨rfl, f_e_45⟩) hP hD (Nat.le_of_ble_eq_true rfl) (Nat.le_of_ble_eq_true rfl) d_M_operator_73
      · have g41 := bI_0 g41
        refine lv_iconst (v := 0) hx hb d_M_operator_26 (by decide) ?_
        exact rfZ hx hb hr (bI_nar false) hlk hS y39 (by have e9 : x.opr = x.opr1 (rkN x.kind) := if_pos (Or.inr g13); have e8 : x.opr1 (rkN x.kind) = (false, (x.dt (rkN x.kind)).2) := if_neg (by rw [g41]; decide); rw [e9, e8]; exact ⟨rfl, f_e_40⟩) hP hD (Nat.le_of_ble_eq_true rfl) (Nat.le_of_ble_eq_true rfl) d_M_operator_27
end
section
theorem d_M_question_67 : decode prog_14_method_89_code 67 = .ok (.aload_n 0, 1) := by decide +kernel
theorem d_M_question_68 : decode prog_14_method_89_code 68 = .ok (.invokevirtual 492, 3) := by decide +kernel
theorem d_M_question_79 : decode prog_14_method_89_code 79 = .ok (.aload_n 0, 1) := by decide +kernel
theorem d_M_question_80 : decode prog_14_method_89_code 80 = .ok (.invokevirtual 486, 3) := by decide +kernel
theorem d_M_question_83 : decode prog_14_method_89_code 83 = .ok (.ifCond .eq 13, 3) := by decide +kernel
theorem d_M_question_100 : decode prog_14_method_89_code 100 = .ok (.aload_n 0, 1) := by decide +kernel
theorem d_M_question_101 : decode prog_14_method_89_code 101 = .ok (.iconst 1, 1) := by decide +kernel
theorem d_M_question_102 : decode prog_14_method_89_code 102 = .ok (.invokevirtual 483, 3) := by decide +kernel
theorem d_M_question_105 : decode prog_14_method_89_code 105 = .ok (.ifCond .eq 7, 3) := by decide +kernel
theorem d_M_question_108 : decode prog_14_method_89_code 108 = .ok (.iconst 1, 1) := by decide +kernel
theorem d_M_question_109 : decode prog_14_method_89_code 109 = .ok (.goto 4, 3) := by decide +kernel
theorem d_M_question_86 : decode prog_14_method_89_code 86 = .ok (.aload_n 0, 1) := by decide +kernel
theorem d_M_question_87 : decode prog_14_method_89_code 87 = .ok (.iconst 2, 1) := by decide +kernel
theorem d_M_question_88 : decode prog_14_method_89_code 88 = .ok (.aload_n 0, 1) := by decide +kernel
theorem d_M_question_89 : decode prog_14_method_89_code 89 = .ok (.getfield 345, 3) := by decide +kernel
theorem d_M_question_92 : decode prog_14_method_89_code 92 = .ok (.invokevirtual 224, 3) := by decide +kernel
theorem d_M_question_95 : decode prog_14_method_89_code 95 = .ok (.ireturn, 1) := by decide +kernel
theorem w1073 : Cond.methodLink "SeriesVaultModel" 492 ⟨"SeriesVaultModel", "operator", "()Z"⟩ ∈ aW := aw_of (tb_11 (List.mem_of_getElem? (i := 47) rfl)) rfl
theorem w1074 : Cond.code ⟨"SeriesVaultModel", "operator", "()Z"⟩ prog_14_method_88_code 2 (some FieldType.boolean) ∈ aW := aw_of (tb_11 (List.mem_of_getElem? (i := 50) rfl)) rfl
theorem w1075 : Cond.instanceMethod ⟨"SeriesVaultModel", "operator", "()Z"⟩ ∈ aW := aw_of (tb_11 (List.mem_of_getElem? (i := 49) rfl)) rfl
theorem w1076 : Cond.selects "SeriesVaultModel" ⟨"SeriesVaultModel", "operator", "()Z"⟩ ⟨"SeriesVaultModel", "operator", "()Z"⟩ ∈ aW := aw_pr (List.mem_map.mpr ⟨_, pv_8 (List.mem_of_getElem? (i := 12) rfl), rfl⟩) rfl
set_option maxHeartbeats 4000000 in
set_option maxRecDepth 100000 in
theorem k_question (l : Launch) (D : va_G) (dA : Nat → ClassId) (sz : Nat) (h : Nat) (ad : Nat → Nat) (x : MS) (how : Bool) (hqw : x.qW how) : Met l ⟨"SeriesVaultModel", "question", "(Z)Z"⟩ [Cond.code ⟨"SeriesVaultModel", "question", "(Z)Z"⟩ prog_14_method_89_code 3 (some FieldType.boolean)] { frames := 8, cells := 0, slots := 0, locals := 175 } (pC D dA [.ref h, .int (bI how)] (MW dA h ad x) sz) (va_Qi (fun (r9 : Int32) (u9 : MS) => r9 = bI (x.quF how).1 ∧ u9 = (x.quF how).2) (fun (u9 : MS) t9 => bW D (va_A (MW dA h ad x) sz) (MW dA h ad u9) t9) (va_A (MW dA h ad x) sz)) 0 0 (va_A (MW dA h ad x) sz) := by
  refine mkC (y := ⟨"SeriesVaultModel", "question", "(Z)Z"⟩) (cc := prog_14_method_89_code) (maxL := 3) (av := [.ref h, .int (bI how)]) (ws := MW dA h ad x) (sz := sz) (Qc := fun A => va_Qi (fun (r9 : Int32) (u9 : MS) => r9 = bI (x.quF how).1 ∧ u9 = (x.quF how).2) (fun (u9 : MS) t9 => bW D A (MW dA h ad u9) t9) A) (by decide) (Nat.le_of_ble_eq_true rfl) ?_
  intro A p e s m below meth c ls hsz hB
  obtain ⟨hx, hb, hr, hml, hown, hin, hlk, hE, hK, hP, hD, hS, hA, hN, hl⟩ := hB
  have hown : s.vm.findClass "SeriesVaultModel" = some m.cls := hown
  have hl : lv_has ls 3 [(0, .ref h), (1, .int (bI how))] := hl
  obtain ⟨H, hH⟩ : ∃ z, z = s.heap := ⟨_, rfl⟩
  have hP : va_P D vwCl (MW dA h ad x) H := by rw [hH]; exact hP
  have hS : va_S A s.heap H [] := by rw [hH]; exact hS
  rw [← hH]
  have hl1 := hqw.1
  refine lv_aload_n hx hb d_M_question_0 rfl (lv_at hl 0 rfl) ?_
  refine lv_iload_n hx hb d_M_question_1 rfl (lv_at hl 1 rfl) ?_
  refine pF (v := .int (bI how)) hx hb hown hE hK hP hD hS 0 rfl rfl layM tyM tokM nmM 56 (by decide) w475 rfl (bI_nar how) (bI_fit how) (Nat.le_of_ble_eq_true rfl) d_M_question_2 (fun H locs hP hD hS => ?_)
  have hP : va_P D vwCl (MW dA h ad (MS.s_works x how)) H := hP
  have hD : va_D A (MW dA h ad (MS.s_works x how)) := hD
  refine lv_aload_n hx hb d_M_question_5 rfl (lv_at hl 0 rfl) ?_
  refine lv_iconst (v := 0) hx hb d_M_question_6 (by decide) ?_
  refine pF (v := .int (nI 0)) hx hb hown hE hK hP hD hS 0 rfl rfl layM tyM tokM nmM 55 (by decide) w476 rfl rfl rfl (Nat.le_of_ble_eq_true rfl) d_M_question_7 (fun H locs hP hD hS => ?_)
  have hP : va_P D vwCl (MW dA h ad (MS.s_works (MS.s_pile x 0) how)) H := hP
  have hD : va_D A (MW dA h ad (MS.s_works (MS.s_pile x 0) how)) := hD
  refine lv_aload_n hx hb d_M_question_10 rfl (lv_at hl 0 rfl) ?_
  refine lv_iconst (v := 0) hx hb d_M_question_11 (by decide) ?_
  refine pF (v := .int (nI 0)) hx hb hown hE hK hP hD hS 0 rfl rfl layM tyM tokM nmM 68 (by decide) w477 rfl rfl rfl (Nat.le_of_ble_eq_true rfl) d_M_question_12 (fun H locs hP hD hS => ?_)
  have hP : va_P D vwCl (MW dA h ad (MS.s_signCount (MS.s_works (MS.s_pile x 0) how) 0)) H := hP
  have hD : va_D A (MW dA h ad (MS.s_signCount (MS.s_works (MS.s_pile x 0) how) 0)) := hD
  refine lv_aload_n hx hb d_M_question_15 rfl (lv_at hl 0 rfl) ?_
  refine lv_iconst (v := 0) hx hb d_M_question_16 (by decide) ?_
  refine pF (v := .int (nI 0)) hx hb hown hE hK hP hD hS 0 rfl rfl layM tyM tokM nmM 69 (by decide) w478 rfl rfl rfl (Nat.le_of_ble_eq_true rfl) d_M_question_17 (fun H locs hP hD hS => ?_)
  have hP : va_P D vwCl (MW dA h ad (MS.s_opn (MS.s_signCount (MS.s_works (MS.s_pile x 0) how) 0) 0)) H := hP
  have hD : va_D A (MW dA h ad (MS.s_opn (MS.s_signCount (MS.s_works (MS.s_pile x 0) how) 0) 0)) := hD
  refine lv_aload_n hx hb d_M_question_20 rfl (lv_at hl 0 rfl) ?_
  refine lv_iconst (v := 0) hx hb d_M_question_21 (by decide) ?_
  refine pF (v := .int (nI 0)) hx hb hown hE hK hP hD hS 0 rfl rfl layM tyM tokM nmM 46 (by decide) w463 rfl rfl rfl (Nat.le_of_ble_eq_true rfl) d_M_question_22 (fun H locs hP hD hS => ?_)
  have hP : va_P D vwCl (MW dA h ad (MS.s_opn (MS.s_signCount (MS.s_works (MS.s_pile (MS.s_too x 0) 0) how) 0) 0)) H := hP
  have hD : va_D A (MW dA h ad (MS.s_opn (MS.s_signCount (MS.s_works (MS.s_pile (MS.s_too x 0) 0) how) 0) 0)) := hD
  refine lv_aload_n hx hb d_M_question_25 rfl (lv_at hl 0 rfl) ?_
  refine lv_iconst (v := 1) hx hb d_M_question_26 (by decide) ?_
  refine pF (v := .int (bI true)) hx hb hown hE hK hP hD hS 0 rfl rfl layM tyM tokM nmM 70 (by decide) w470 rfl (bI_nar true) (bI_fit true) (Nat.le_of_ble_eq_true rfl) d_M_question_27 (fun H locs hP hD hS => ?_)
  have hP : va_P D vwCl (MW dA h ad (MS.s_wants (MS.s_opn (MS.s_signCount (MS.s_works (MS.s_pile (MS.s_too x 0) 0) how) 0) 0) true)) H := hP
  have hD : va_D A (MW dA h ad (MS.s_wants (MS.s_opn (MS.s_signCount (MS.s_works (MS.s_pile (MS.s_too x 0) 0) how) 0) 0) true)) := hD
  refine lv_aload_n hx hb d_M_question_30 rfl (lv_at hl 0 rfl) ?_
  refine jfI (rnV (As := []) (rest := []) hx hb hml hown hE hK (hN _ _ hS) hP hD (k_next l D dA H.size h ad (MS.s_wants (MS.s_opn (MS.s_signCount (MS.s_works (MS.s_pile (MS.s_too x 0) 0) how) 0) 0) true) hl1 (Nat.zero_le _) hqw.2.1) (q0 := 0) rfl rfl w480 w479 w481 w482 w328 rfl rfl ⟨⟨by decide, by decide⟩, rfl⟩ ⟨(Nat.le_of_ble_eq_true rfl), (Nat.le_of_ble_eq_true rfl)⟩ rfl hl.1 rfl (Nat.le_of_ble_eq_true rfl) d_M_question_31 ⟨(Nat.le_of_ble_eq_true rfl), (Nat.le_of_ble_eq_true rfl)⟩) hP hD hS hA (fun r1 u2 H locs hp9 hP hD hS => ?_)
  obtain ⟨y3, h9u⟩ : ∃ z9, z9 = u2 := ⟨_, rfl⟩
  subst h9u
  have hP : va_P D vwCl (MW dA h ad y3) H := hP
  have hD : va_D A (MW dA h ad y3) := hD
  obtain ⟨hp9, f_e_4⟩ := hp9
  replace hp9 : bI ((MS.s_wants (MS.s_opn (MS.s_signCount (MS.s_works (MS.s_pile (MS.s_too x 0) 0) how) 0) 0) true).nx).1 = r1 := Eq.symm hp9
  subst hp9
  refine lv_istore_n hx hb d_M_question_34 rfl hl (by decide) rfl (fun ls hl => ?_)
  have hl : lv_has ls 3 [(2, .int (bI ((MS.s_wants (MS.s_opn (MS.s_signCount (MS.s_works (MS.s_pile (MS.s_too x 0) 0) how) 0) 0) true).nx).1)), (0, .ref h), (1, .int (bI how))] := hl
  have L35 : ∀ (k9 : Nat) (yy : MS) (g : Bool) (w : Nat) (i1 : x.quF how = (if g = true then MS.quR w yy else (false, yy))) (i2 : g = true → yy.lI) (i3 : g = true → x.length + 1 ≤ w + yy.frm ∧ yy.length = x.length) (hk9 : w + (if g = true then 1 else 0) = k9), ∀ (H : Heap) (locs : List Loc) (ls : Array Slot) (hP : va_P D vwCl (MW dA h ad yy) H) (hD : va_D A (MW dA h ad yy)) (hS : va_S A s.heap H locs) (hl : lv_has ls 3 [(2, .int (bI g)), (0, .ref h)]), W p l e ({ frames := 8, cells := 0, slots := 0, locals := 175 } : Room) s m ([.ref h, .int (bI how)] : List Value).toArray below meth c H locs 0 0 (MQ below (va_Qi (fun (r9 : Int32) (u9 : MS) => r9 = bI (x.quF how).1 ∧ u9 = (x.quF how).2) (fun (u9 : MS) t9 => bW D A (MW dA h ad u9) t9) A) ([.ref h, .int (bI how)] : List Value).toArray s 0 0 A) (F0 m 35 ls []) := by
    intro k9
    induction k9 using Nat.strongRecOn with
    | ind k9 ih35 =>
      intro yy g w i1 i2 i3 hk9 H locs ls hP hD hS hl
      refine lv_iload_n hx hb d_M_question_35 rfl (lv_at hl 0 rfl) ?_
      refine lv_if_eq hx hb d_M_question_36 (tgt := 75) rfl (fun g5 => ?_) (fun g5 => ?_)
      · have g5 := bI_0 g5
        refine lv_iload_n hx hb d_M_question_75 rfl (lv_at hl 0 rfl) ?_
        refine lv_if_eq hx hb d_M_question_76 (tgt := 96) rfl (fun _ => ?_) (fun h9 => absurd (by rw [g5]; decide) h9)
        refine lv_iload_n hx hb d_M_question_96 rfl (lv_at hl 0 rfl) ?_
        refine lv_if_eq hx hb d_M_question_97 (tgt := 112) rfl (fun _ => ?_) (fun h9 => absurd (by rw [g5]; decide) h9)
        refine lv_iconst (v := 0) hx hb d_M_question_112 (by decide) ?_
        exact rfZ hx hb hr (bI_nar false) hlk hS yy (by rw [i1, if_neg (by rw [g5]; decide)]; exact ⟨rfl, rfl⟩) hP hD (Nat.le_of_ble_eq_true rfl) (Nat.le_of_ble_eq_true rfl) d_M_question_113
      · have g5 := bI_n0 g5
        have i1b : x.quF how = MS.quR w yy := i1.trans (if_pos g5)
        have i2b := i2 g5
        obtain ⟨i3b, i3c⟩ := i3 g5
        have i4 := lI_frm i2b
        refine lv_aload_n hx hb d_M_question_39 rfl (lv_at hl 1 rfl) ?_
        refine gF (v := .int yy.kind) hx hb hown hE hK hP 0 rfl rfl layM 44 (by decide) w469 rfl d_M_question_40 ?_
        refine lv_if_ne hx hb d_M_question_43 (tgt := 53) rfl (fun g6 => ?_) (fun g6 => ?_)
        · have g6 := g6
          refine lv_aload_n hx hb d_M_question_53 rfl (lv_at hl 1 rfl) ?_
          refine gF (v := .int (bI yy.wants)) hx hb hown hE hK hP 0 rfl rfl layM 70 (by decide) w470 rfl d_M_question_54 ?_
          refine lv_if_eq hx hb d_M_question_57 (tgt := 67) rfl (fun g7 => ?_) (fun g7 => ?_)
          · have g7 := bI_0 g7
            refine lv_aload_n hx hb d_M_question_67 rfl (lv_at hl 1 rfl) ?_
            refine jfI (rnV (As := []) (rest := []) hx hb hml hown hE hK (hN _ _ hS) hP hD (k_operator l D dA H.size h ad yy (lI_1 i2b g7)) (q0 := 0) rfl rfl w1074 w1073 w1075 w1076 w328 rfl rfl ⟨⟨by decide, by decide⟩, rfl⟩ ⟨(Nat.le_of_ble_eq_true rfl), (Nat.le_of_ble_eq_true rfl)⟩ rfl hl.1 rfl (Nat.le_of_ble_eq_true rfl) d_M_question_68 ⟨(Nat.le_of_ble_eq_true rfl), (Nat.le_of_ble_eq_true rfl)⟩) hP hD hS hA (fun r8 u9 H locs hp9 hP hD hS => ?_)
            obtain ⟨y10, h9u⟩ : ∃ z9, z9 = u9 := ⟨_, rfl⟩
            subst h9u
            have hP : va_P D vwCl (MW dA h ad y10) H := hP
            have hD : va_D A (MW dA h ad y10) := hD
            obtain ⟨hp9, f_e_11⟩ := hp9
            replace hp9 : bI (yy.opr).1 = r8 := Eq.symm hp9
            subst hp9
            refine lv_istore_n hx hb d_M_question_71 rfl hl (by decide) rfl (fun ls hl => ?_)
            have hl : lv_has ls 3 [(2, .int (bI (yy.opr).1)), (0, .ref h)] := hl
            refine lv_goto hx hb d_M_question_72 (tgt := 35) rfl ?_
            exact ih35 _ (by rw [← hk9, if_pos g5]; split <;> omega) y10 ((yy.opr).1) (w - 1) (i1b.trans ((quR_s (by omega) (Or.inl g6) (show y10 = yy.q1.2 from f_e_11.trans (by rw [show yy.q1 = yy.opr from if_neg (by rw [g7]; decide)]))).trans (by rw [(show yy.q1 = yy.opr from if_neg (by rw [g7]; decide))]))) (fun z9 => (q1_in i2b (Prod.ext (by rw [(show yy.q1 = yy.opr from if_neg (by rw [g7]; decide))]; exact z9) (show y10 = yy.q1.2 from f_e_11.trans (by rw [show yy.q1 = yy.opr from if_neg (by rw [g7]; decide)])).symm)).1) (fun z9 => by have a9 := q1_in i2b (Prod.ext (by rw [(show yy.q1 = yy.opr from if_neg (by rw [g7]; decide))]; exact z9) (show y10 = yy.q1.2 from f_e_11.trans (by rw [show yy.q1 = yy.opr from if_neg (by rw [g7]; decide)])).symm); have b9 := qk_f a9.2.1 MS.length rfl; have c9 := a9.2.2.1; exact ⟨by omega, b9.trans i3c⟩) rfl H _ ls hP hD hS (lv_sub hl [0, 1] rfl)
          · have g7 := bI_n0 g7
            refine lv_aload_n hx hb d_M_question_60 rfl (lv_at hl 1 rfl) ?_
            refine jfI (rnV (As := []) (rest := []) hx hb hml hown hE hK (hN _ _ hS) hP hD (k_operand l D dA H.size h ad yy (lI_0 i2b g7)) (q0 := 0) rfl rfl w484 w483 w485 w486 w328 rfl rfl ⟨⟨by decide, by decide⟩, rfl⟩ ⟨(Nat.le_of_ble_eq_true rfl), (Nat.le_of_ble_eq_true rfl)⟩ rfl hl.1 rfl (Nat.le_of_ble_eq_true rfl) d_M_question_61 ⟨(Nat.le_of_ble_eq_true rfl), (Nat.le_of_ble_eq_true rfl)⟩) hP hD hS hA (fun r12 u13 H locs hp9 hP hD hS => ?_)
            obtain ⟨y14, h9u⟩ : ∃ z9, z9 = u13 := ⟨_, rfl⟩
            subst h9u
            have hP : va_P D vwCl (MW dA h ad y14) H := hP
            have hD : va_D A (MW dA h ad y14) := hD
            obtain ⟨hp9, f_e_15⟩ := hp9
            replace hp9 : bI (yy.odF).1 = r12 := Eq.symm hp9
            subst hp9
            refine lv_goto hx hb d_M_question_64 (tgt := 71) rfl ?_
            refine lv_istore_n hx hb d_M_question_71 rfl hl (by decide) rfl (fun ls hl => ?_)
            have hl : lv_has ls 3 [(2, .int (bI (yy.odF).1)), (0, .ref h)] := hl
            refine lv_goto hx hb d_M_question_72 (tgt := 35) rfl ?_
            exact ih35 _ (by rw [← hk9, if_pos g5]; split <;> omega) y14 ((yy.odF).1) (w - 1) (i1b.trans ((quR_s (by omega) (Or.inl g6) (show y14 = yy.q1.2 from f_e_15.trans (by rw [show yy.q1 = yy.odF from if_pos g7]))).trans (by rw [(show yy.q1 = yy.odF from if_pos g7)]))) (fun z9 => (q1_in i2b (Prod.ext (by rw [(show yy.q1 = yy.odF from if_pos g7)]; exact z9) (show y14 = yy.q1.2 from f_e_15.trans (by rw [show yy.q1 = yy.odF from if_pos g7])).symm)).1) (fun z9 => by have a9 := q1_in i2b (Prod.ext (by rw [(show yy.q1 = yy.odF from if_pos g7)]; exact z9) (show y14 = yy.q1.2 from f_e_15.trans (by rw [show yy.q1 = yy.odF from if_pos g7])).symm); have b9 := qk_f a9.2.1 MS.length rfl; have c9 := a9.2.2.1; exact ⟨by omega, b9.trans i3c⟩) rfl H _ ls hP hD hS (lv_sub hl [0, 1] rfl)
        · have g6 := g6
          refine lv_aload_n hx hb d_M_question_46 rfl (lv_at hl 1 rfl) ?_
          refine gF (v := .int (bI yy.wants)) hx hb hown hE hK hP 0 rfl rfl layM 70 (by decide) w470 rfl d_M_question_47 ?_
          refine lv_if_eq hx hb d_M_question_50 (tgt := 75) rfl (fun g16 => ?_) (fun g16 => ?_)
          · have g16 := bI_0 g16
            refine lv_iload_n hx hb d_M_question_75 rfl (lv_at hl 0 rfl) ?_
            refine lv_if_eq hx hb d_M_question_76 (tgt := 96) rfl (fun h9 => absurd h9 (by rw [g5]; decide)) (fun _ => ?_)
            refine lv_aload_n hx hb d_M_question_79 rfl (lv_at hl 1 rfl) ?_
            refine jfI (rnV (As := []) (rest := []) hx hb hml hown hE hK (hN _ _ hS) hP hD (k_isOpen l D dA H.size h ad yy (Nat.le_trans (sI_26 (lI_1 i2b g16).2.2.2.1) (by decide)) (fun k hk => Nat.lt_of_le_of_lt (sI_lt (lI_1 i2b g16).2.2.2.1 hk) (by decide))) (q0 := 0) rfl rfl w1070 w1069 w1071 w1072 w328 rfl rfl ⟨⟨by decide, by decide⟩, rfl⟩ ⟨(Nat.le_of_ble_eq_true rfl), (Nat.le_of_ble_eq_true rfl)⟩ rfl hl.1 rfl (Nat.le_of_ble_eq_true rfl) d_M_question_80 ⟨(Nat.le_of_ble_eq_true rfl), (Nat.le_of_ble_eq_true rfl)⟩) hP hD hS hA (fun r17 u18 H locs hp9 hP hD hS => ?_)
            have hP : va_P D vwCl (MW dA h ad yy) H := hP
            have hD : va_D A (MW dA h ad yy) := hD
            replace hp9 : bI yy.opnB = r17 := Eq.symm hp9
            subst hp9
            refine lv_if_eq hx hb d_M_question_83 (tgt := 96) rfl (fun g19 => ?_) (fun g19 => ?_)
            · have g19 := bI_0 g19
              refine lv_iload_n hx hb d_M_question_96 rfl (lv_at hl 0 rfl) ?_
              refine lv_if_eq hx hb d_M_question_97 (tgt := 112) rfl (fun h9 => absurd h9 (by rw [g5]; decide)) (fun _ => ?_)
              refine lv_aload_n hx hb d_M_question_100 rfl (lv_at hl 1 rfl) ?_
              refine lv_iconst (v := 1) hx hb d_M_question_101 (by decide) ?_
              refine jfI (rnV (As := [.int 1]) (rest := []) hx hb hml hown hE hK (hN _ _ hS) hP hD (k_doneTo l D dA H.size h ad yy 1 (oI_dI (lI_1 i2b g16)) (by decide) (by decide)) (q0 := 0) rfl rfl w1058 w1057 w1059 w1060 w328 rfl rfl ⟨⟨by decide, by decide⟩, rfl⟩ ⟨(Nat.le_of_ble_eq_true rfl), (Nat.le_of_ble_eq_true rfl)⟩ rfl hl.1 rfl (Nat.le_of_ble_eq_true rfl) d_M_question_102 ⟨(Nat.le_of_ble_eq_true rfl), (Nat.le_of_ble_eq_true rfl)⟩) hP hD hS hA (fun r20 u21 H locs hp9 hP hD hS => ?_)
              obtain ⟨y22, h9u⟩ : ∃ z9, z9 = u21 := ⟨_, rfl⟩
              subst h9u
              have hP : va_P D vwCl (MW dA h ad y22) H := hP
              have hD : va_D A (MW dA h ad y22) := hD
              obtain ⟨hp9, f_e_23⟩ := hp9
              replace hp9 : bI (yy.dt 1).1 = r20 := Eq.symm hp9
              subst hp9
              refine lv_if_eq hx hb d_M_question_105 (tgt := 112) rfl (fun g24 => ?_) (fun g24 => ?_)
              · have g24 := bI_0 g24
                refine lv_iconst (v := 0) hx hb d_M_question_112 (by decide) ?_
                exact rfZ hx hb hr (bI_nar false) hlk hS y22 (by rw [i1, if_pos g5, quR_e (by omega) g6 g16, show yy.qu3 = yy.dt 1 from if_neg (by rw [g19]; decide)]; exact ⟨by rw [g24]; rfl, f_e_23⟩) hP hD (Nat.le_of_ble_eq_true rfl) (Nat.le_of_ble_eq_true rfl) d_M_question_113
              · have g24 := bI_n0 g24
                refine lv_iconst (v := 1) hx hb d_M_question_108 (by decide) ?_
                refine lv_goto hx hb d_M_question_109 (tgt := 113) rfl ?_
                exact rfZ hx hb hr (bI_nar true) hlk hS y22 (by rw [i1, if_pos g5, quR_e (by omega) g6 g16, show yy.qu3 = yy.dt 1 from if_neg (by rw [g19]; decide)]; exact ⟨by rw [g24]; rfl, f_e_23⟩) hP hD (Nat.le_of_ble_eq_true rfl) (Nat.le_of_ble_eq_true rfl) d_M_question_113
            · have g19 := bI_n0 g19
              refine lv_aload_n hx hb d_M_question_86 rfl (lv_at hl 1 rfl) ?_
              refine lv_iconst (v := 2) hx hb d_M_question_87 (by decide) ?_
              refine lv_aload_n hx hb d_M_question_88 rfl (lv_at hl 1 rfl) ?_
              refine gF (v := .int (nI yy.frm)) hx hb hown hE hK hP 0 rfl rfl layM 45 (by decide) w464 rfl d_M_question_89 ?_
              refine jfI (rnV (As := [.int 2, .int (nI yy.frm)]) (rest := []) hx hb hml hown hE hK (hN _ _ hS) hP hD (k_flaw_0 l D dA H.size h ad yy 2 (nI yy.frm) (lI_1 i2b g16).1.2.2.2) (q0 := 0) rfl rfl w431 w430 w432 w433 w328 rfl rfl ⟨⟨by decide, by decide⟩, rfl⟩ ⟨(Nat.le_of_ble_eq_true rfl), (Nat.le_of_ble_eq_true rfl)⟩ rfl hl.1 rfl (Nat.le_of_ble_eq_true rfl) d_M_question_92 ⟨(Nat.le_of_ble_eq_true rfl), (Nat.le_of_ble_eq_true rfl)⟩) hP hD hS hA (fun r25 u26 H locs hp9 hP hD hS => ?_)
              have hP : va_P D vwCl (MW dA h ad (MS.s_faultPlace (MS.s_faultCode yy 2) (nI yy.frm))) H := hP
              have hD : va_D A (MW dA h ad (MS.s_faultPlace (MS.s_faultCode yy 2) (nI yy.frm))) := hD
              replace hp9 : bI false = r25 := Eq.symm hp9
              subst hp9
              exact rfZ hx hb hr (bI_nar false) hlk hS (MS.s_faultPlace (MS.s_faultCode yy 2) (nI yy.frm)) (by rw [i1, if_pos g5, quR_e (by omega) g6 g16, show yy.qu3 = _ from if_pos g19]; exact ⟨rfl, rfl⟩) hP hD (Nat.le_of_ble_eq_true rfl) (Nat.le_of_ble_eq_true rfl) d_M_question_95
          · have g16 := bI_n0 g16
            refine lv_aload_n hx hb d_M_question_53 rfl (lv_at hl 1 rfl) ?_
            refine gF (v := .int (bI yy.wants)) hx hb hown hE hK hP 0 rfl rfl layM 70 (by decide) w470 rfl d_M_question_54 ?_
            refine lv_if_eq hx hb d_M_question_57 (tgt := 67) rfl (fun h9 => absurd h9 (by rw [g16]; decide)) (fun _ => ?_)
            refine lv_aload_n hx hb d_M_question_60 rfl (lv_at hl 1 rfl) ?_
            refine jfI (rnV (As := []) (rest := []) hx hb hml hown hE hK (hN _ _ hS) hP hD (k_operand l D dA H.size h ad yy (lI_0 i2b g16)) (q0 := 0) rfl rfl w484 w483 w485 w486 w328 rfl rfl ⟨⟨by decide, by decide⟩, rfl⟩ ⟨(Nat.le_of_ble_eq_true rfl), (Nat.le_of_ble_eq_true rfl)⟩ rfl hl.1 rfl (Nat.le_of_ble_eq_true rfl) d_M_question_61 ⟨(Nat.le_of_ble_eq_true rfl), (Nat.le_of_ble_eq_true rfl)⟩) hP hD hS hA (fun r27 u28 H locs hp9 hP hD hS => ?_)
            obtain ⟨y29, h9u⟩ : ∃ z9, z9 = u28 := ⟨_, rfl⟩
            subst h9u
            have hP : va_P D vwCl (MW dA h ad y29) H := hP
            have hD : va_D A (MW dA h ad y29) := hD
            obtain ⟨hp9, f_e_30⟩ := hp9
            replace hp9 : bI (yy.odF).1 = r27 := Eq.symm hp9
            subst hp9
            refine lv_goto hx hb d_M_question_64 (tgt := 71) rfl ?_
            refine lv_istore_n hx hb d_M_question_71 rfl hl (by decide) rfl (fun ls hl => ?_)
            have hl : lv_has ls 3 [(2, .int (bI (yy.odF).1)), (0, .ref h)] := hl
            refine lv_goto hx hb d_M_question_72 (tgt := 35) rfl ?_
            exact ih35 _ (by rw [← hk9, if_pos g5]; split <;> omega) y29 ((yy.odF).1) (w - 1) (i1b.trans ((quR_s (by omega) (Or.inr g16) (show y29 = yy.q1.2 from f_e_30.trans (by rw [show yy.q1 = yy.odF from if_pos g16]))).trans (by rw [(show yy.q1 = yy.odF from if_pos g16)]))) (fun z9 => (q1_in i2b (Prod.ext (by rw [(show yy.q1 = yy.odF from if_pos g16)]; exact z9) (show y29 = yy.q1.2 from f_e_30.trans (by rw [show yy.q1 = yy.odF from if_pos g16])).symm)).1) (fun z9 => by have a9 := q1_in i2b (Prod.ext (by rw [(show yy.q1 = yy.odF from if_pos g16)]; exact z9) (show y29 = yy.q1.2 from f_e_30.trans (by rw [show yy.q1 = yy.odF from if_pos g16])).symm); have b9 := qk_f a9.2.1 MS.length rfl; have c9 := a9.2.2.1; exact ⟨by omega, b9.trans i3c⟩) rfl H _ ls hP hD hS (lv_sub hl [0, 1] rfl)
  exact L35 _ y3 (((MS.s_wants (MS.s_opn (MS.s_signCount (MS.s_works (MS.s_pile (MS.s_too x 0) 0) how) 0) 0) true).nx).1) (x.length + 1) (quF_0 f_e_4) (fun z9 => by rw [f_e_4]; exact (qu0_lI hqw z9).1) (fun z9 => ⟨by omega, by rw [f_e_4]; exact qk_f (qu0_lI hqw z9).2 MS.length rfl⟩) rfl H _ ls hP hD hS (lv_sub hl [0, 1] rfl)
end
section
def MS.as0 (x : MS) (a b : Int64) (n : Nat) : MS := MS.s_isTable (MS.s_windows (MS.s_width (MS.s_windowsFrom (MS.s_faultPlace (MS.s_faultCode (MS.s_cod x 0) 0) 0) a) b) n) false
/-- the table kept -/
def MS.kpS (x : MS) : MS := MS.s_isShown (MS.s_shown (MS.s_rowLengths (MS.s_rowTexts (MS.s_shownWindows (MS.s_rows (MS.s_names (MS.s_isTable (MS.s_valueLength x (x.ktR (x.tableRows 0)).2.2) true) (x.tableNames 0)) (x.tableRows 0)) x.windows) (x.ktR (x.tableRows 0)).2.1) (x.ktR (x.tableRows 0)).1) (shG x.cells x.shown x.windows (x.tableRows 0))) (shG x.isCell x.isShown x.windows (x.tableRows 0))
def MS.as2 (m : Bool × MS) : Int32 × MS := if m.1 = true then (nI (m.2.tableRows 0), MS.s_length m.2.kpS 0) else (-1, MS.s_length m.2 0)
/-- a question asked: the answer, the state behind it -/
def MS.asF (x : MS) (a b : Int64) (n : Nat) : Int32 × MS := if ((x.as0 a b n).quF false).1 = true then MS.as2 (((x.as0 a b n).quF false).2.quF true) else (-1, MS.s_length ((x.as0 a b n).quF false).2 0)
/-- what asking wants -/
def MS.aW (x : MS) : Prop := x.length ≤ 65536 ∧ byteF x.tape ∧ x.nmG ∧ x.seriesCount ≤ 256 ∧ (∀ q : Nat, q < x.seriesCount → x.tOK q) ∧ x.points ≤ 12000 ∧ (∀ q : Nat, q < x.points → x.pointSeries q < 256) ∧ (∀ q : Nat, x.keySeries q < 256) ∧ byteF x.texts
theorem as_1 {x : MS} {a b : Int64} {n : Nat} (h : x.aW) : (x.as0 a b n).qW false := ⟨h.1, rfl, h.2.1, h.2.2.1, fun z => by cases z⟩
theorem as_2 {x v : MS} {a b : Int64} {n : Nat} (h : x.aW) (hb : 1 ≤ b) (hn : n ≤ 64) (hq : (x.as0 a b n).quF false = (true, v)) : v.qW true := by
  obtain ⟨d1, d2, -⟩ := qu_in (as_1 h) hq
  obtain ⟨h1, h2, h3, h4, h5, h6, h7, h8, h9⟩ := h
  have k1 : ((MS.s_works (x.as0 a b n) false).qkS v).length ≤ 65536 ∧ byteF ((MS.s_works (x.as0 a b n) false).qkS v).tape ∧ ((MS.s_works (x.as0 a b n) false).qkS v).seriesCount ≤ 256 ∧ (∀ q : Nat, q < ((MS.s_works (x.as0 a b n) false).qkS v).seriesCount → ((MS.s_works (x.as0 a b n) false).qkS v).tOK q) ∧ ((MS.s_works (x.as0 a b n) false).qkS v).points ≤ 12000 ∧ (∀ q : Nat, q < ((MS.s_works (x.as0 a b n) false).qkS v).points → ((MS.s_works (x.as0 a b n) false).qkS v).pointSeries q < 256) ∧ ((MS.s_works (x.as0 a b n) false).qkS v).windows ≤ 64 ∧ 1 ≤ ((MS.s_works (x.as0 a b n) false).qkS v).width := ⟨h1, h2, h4, h5, h6, h7, hn, hb⟩
  rw [← show v = (MS.s_works (x.as0 a b n) false).qkS v from d2] at k1
  obtain ⟨e1, e2, e3, e4, e5, e6, e7, e8⟩ := k1
  refine ⟨e1, d1.2.2.2, e2, d1.2.2.1, fun _ => ⟨e3, e4, e5, e6, e7, e8, ?_⟩⟩
  exact d1.2.2.1.2
theorem as_3 {x v : MS} (h : x.qW true) (hb : byteF x.texts) (hq : x.quF true = (true, v)) : v.tableNames 0 ≤ 6 ∧ v.tableRows 0 ≤ 256 ∧ v.windows ≤ 64 ∧ (∀ q : Nat, q < v.tableRows 0 → v.tableNames 0 = 0 ∨ v.tOK (v.rowSeries q)) ∧ (∀ k : Nat, k < v.tableNames 0 → v.nameFroms k + v.nameLengths k ≤ 65536) ∧ byteF v.texts := by
  obtain ⟨d1, d2, d3⟩ := qu_in h hq
  have w : v.works = true := qk_f d2 MS.works rfl
  have hI := d1.2.1 w
  have h5 := d1.1.2.2.2.2 w
  have h2 := d1.1.2.1
  rw [d3] at h2 h5
  have h2 : 0 = v.opn := h2
  have t0 := hI.2.2.2.2.2.2.2 0 (by omega)
  refine ⟨t0.2.1, t0.1, hI.2.2.2.2.1, fun q hq => ?_, fun k _ => d1.2.2.1.1 k, ?_⟩
  · have := t0.2.2 q hq
    rw [show 256 * 0 + q = q by omega] at this
    exact this
  · rw [qk_f d2 MS.texts rfl]
    exact hb
theorem d_M_ask_8 : decode prog_14_method_91_code 8 = .ok (.iconst 1, 1) := by decide +kernel
theorem d_M_ask_9 : decode prog_14_method_91_code 9 = .ok (.goto 49, 3) := by decide +kernel
set_option maxHeartbeats 4000000 in
set_option maxRecDepth 100000 in
theorem k_ask_1 (l : Launch) (D : va_G) (dA : Nat → ClassId) (sz : Nat) (h : Nat) (ad : Nat → Nat) (x : MS) (a : Int64) (b : Int64) (n : Int32) (ho : x.on = false) : Met l ⟨"SeriesVaultModel", "ask", "(JJI)I"⟩ [Cond.code ⟨"SeriesVaultModel", "ask", "(JJI)I"⟩ prog_14_method_91_code 7 (some FieldType.int)] { frames := 1, cells := 0, slots := 0, locals := 0 } (pC D dA [.ref h, .long a, .long b, .int n] (MW dA h ad x) sz) (va_Qi (fun (r9 : Int32) (u9 : Unit) => r9 = 0) (fun (u9 : Unit) t9 => bW D (va_A (MW dA h ad x) sz) (MW dA h ad (MS.s_cod x 1)) t9) (va_A (MW dA h ad x) sz)) 0 0 (va_A (MW dA h ad x) sz) := by
  refine mkC (y := ⟨"SeriesVaultModel", "ask", "(JJI)I"⟩) (cc := prog_14_method_91_code) (maxL := 7) (av := [.ref h, .long a, .long b, .int n]) (ws := MW dA h ad x) (sz := sz) (Qc := fun A => va_Qi (fun (r9 : Int32) (u9 : Unit) => r9 = 0) (fun (u9 : Unit) t9 => bW D A (MW dA h ad (MS.s_cod x 1)) t9) A) (by decide) (Nat.le_of_ble_eq_true rfl) ?_
  intro A p e s m below meth c ls hsz hB
  obtain ⟨hx, hb, hr, hml, hown, hin, hlk, hE, hK, hP, hD, hS, hA, hN, hl⟩ := hB
  have hown : s.vm.findClass "SeriesVaultModel" = some m.cls := hown
  have hl : lv_has ls 7 [(0, .ref h), (1, .long a), (3, .long b), (5, .int n)] := hl
  obtain ⟨H, hH⟩ : ∃ z, z = s.heap := ⟨_, rfl⟩
  have hP : va_P D vwCl (MW dA h ad x) H := by rw [hH]; exact hP
  have hS : va_S A s.heap H [] := by rw [hH]; exact hS
  rw [← hH]
  refine lv_aload_n hx hb d_M_ask_0 rfl (lv_at hl 0 rfl) ?_
  refine lv_aload_n hx hb d_M_ask_1 rfl (lv_at hl 0 rfl) ?_
  refine gF (v := .int (bI x.on)) hx hb hown hE hK hP 0 rfl rfl layM 7 (by decide) w324 rfl d_M_ask_2 ?_
  refine lv_if_ne hx hb d_M_ask_5 (tgt := 12) rfl (fun h9 => absurd (by rw [ho]; decide) h9) (fun _ => ?_)
  refine lv_iconst (v := 1) hx hb d_M_ask_8 (by decide) ?_
  refine lv_goto hx hb d_M_ask_9 (tgt := 58) rfl ?_
  refine pF (v := .int 1) hx hb hown hE hK hP hD hS 0 rfl rfl layM tyM tokM nmM 0 (by decide) w319 rfl rfl rfl (Nat.le_of_ble_eq_true rfl) d_M_ask_58 (fun H locs hP hD hS => ?_)
  have hP : va_P D vwCl (MW dA h ad (MS.s_cod x 1)) H := hP
  have hD : va_D A (MW dA h ad (MS.s_cod x 1)) := hD
  refine lv_aload_n hx hb d_M_ask_61 rfl (lv_at hl 0 rfl) ?_
  refine gF (v := .int 1) hx hb hown hE hK hP 0 rfl rfl layM 0 (by decide) w319 rfl d_M_ask_62 ?_
  refine lv_if_le hx hb d_M_ask_65 (tgt := 70) rfl (fun h9 => absurd h9 (by decide)) (fun _ => ?_)
  refine lv_iconst (v := 0) hx hb d_M_ask_68 (by decide) ?_
  exact rfI hx hb hr hlk hS () rfl hP hD (Nat.le_of_ble_eq_true rfl) (Nat.le_of_ble_eq_true rfl) d_M_ask_69
set_option maxHeartbeats 4000000 in
set_option maxRecDepth 100000 in
theorem k_ask_2 (l : Launch) (D : va_G) (dA : Nat → ClassId) (sz : Nat) (h : Nat) (ad : Nat → Nat) (x : MS) (a : Int64) (b : Int64) (n : Int32) (ho : x.on = true) (h0 : a < 0 ∨ 1099511627775 < a ∨ b < 1 ∨ 1099511627775 < b ∨ n < 1 ∨ 64 < n) : Met l ⟨"SeriesVaultModel", "ask", "(JJI)I"⟩ [Cond.code ⟨"SeriesVaultModel", "ask", "(JJI)I"⟩ prog_14_method_91_code 7 (some FieldType.int)] { frames := 1, cells := 0, slots := 0, locals := 0 } (pC D dA [.ref h, .long a, .long b, .int n] (MW dA h ad x) sz) (va_Qi (fun (r9 : Int32) (u9 : Unit) => r9 = 0) (fun (u9 : Unit) t9 => bW D (va_A (MW dA h ad x) sz) (MW dA h ad (MS.s_cod x 2)) t9) (va_A (MW dA h ad x) sz)) 0 0 (va_A (MW dA h ad x) sz) := by
  refine mkC (y := ⟨"SeriesVaultModel", "ask", "(JJI)I"⟩) (cc := prog_14_method_91_code) (maxL := 7) (av := [.ref h, .long a, .long b, .int n]) (ws := MW dA h ad x) (sz := sz) (Qc := fun A => va_Qi (fun (r9 : Int32) (u9 : Unit) => r9 = 0) (fun (u9 : Unit) t9 => bW D A (MW dA h ad (MS.s_cod x 2)) t9) A) (by decide) (Nat.le_of_ble_eq_true rfl) ?_
  intro A p e s m below meth c ls hsz hB
  obtain ⟨hx, hb, hr, hml, hown, hin, hlk, hE, hK, hP, hD, hS, hA, hN, hl⟩ := hB
  have hown : s.vm.findClass "SeriesVaultModel" = some m.cls := hown
  have hl : lv_has ls 7 [(0, .ref h), (1, .long a), (3, .long b), (5, .int n)] := hl
  obtain ⟨H, hH⟩ : ∃ z, z = s.heap := ⟨_, rfl⟩
  have hP : va_P D vwCl (MW dA h ad x) H := by rw [hH]; exact hP
  have hS : va_S A s.heap H [] := by rw [hH]; exact hS
  rw [← hH]
  refine lv_aload_n hx hb d_M_ask_0 rfl (lv_at hl 0 rfl) ?_
  refine lv_aload_n hx hb d_M_ask_1 rfl (lv_at hl 0 rfl) ?_
  refine gF (v := .int (bI x.on)) hx hb hown hE hK hP 0 rfl rfl layM 7 (by decide) w324 rfl d_M_ask_2 ?_
  refine lv_if_ne hx hb d_M_ask_5 (tgt := 12) rfl (fun _ => ?_) (fun h9 => absurd h9 (by rw [ho]; decide))
  refine lv_lload_n hx hb d_M_ask_12 rfl (lv_at hl 1 rfl) ?_
  refine lv_lconst (v := 0) hx hb d_M_ask_13 (by decide) ?_
  refine W.lcmp hx hb d_M_ask_14 ?_
  refine lv_if_lt hx hb d_M_ask_15 (tgt := 53) rfl (fun g1 => ?_) (fun g1 => ?_)
  · have g1 := (lg_cmp_lt _ _).mp g1
    refine lv_iconst (v := 2) hx hb d_M_ask_53 (by decide) ?_
    refine lv_goto hx hb d_M_ask_54 (tgt := 58) rfl ?_
    refine pF (v := .int 2) hx hb hown hE hK hP hD hS 0 rfl rfl layM tyM tokM nmM 0 (by decide) w319 rfl rfl rfl (Nat.le_of_ble_eq_true rfl) d_M_ask_58 (fun H locs hP hD hS => ?_)
    have hP : va_P D vwCl (MW dA h ad (MS.s_cod x 2)) H := hP
    have hD : va_D A (MW dA h ad (MS.s_cod x 2)) := hD
    refine lv_aload_n hx hb d_M_ask_61 rfl (lv_at hl 0 rfl) ?_
    refine gF (v := .int 2) hx hb hown hE hK hP 0 rfl rfl layM 0 (by decide) w319 rfl d_M_ask_62 ?_
    refine lv_if_le hx hb d_M_ask_65 (tgt := 70) rfl (fun h9 => absurd h9 (by decide)) (fun _ => ?_)
    refine lv_iconst (v := 0) hx hb d_M_ask_68 (by decide) ?_
    exact rfI hx hb hr hlk hS () rfl hP hD (Nat.le_of_ble_eq_true rfl) (Nat.le_of_ble_eq_true rfl) d_M_ask_69
  · have g1 := mt (lg_cmp_lt _ _).mpr g1
    refine lv_lload_n hx hb d_M_ask_18 rfl (lv_at hl 1 rfl) ?_
    refine lv_ldc2 (v := 1099511627775) hx hb hown (hE.t w450 rfl) d_M_ask_19 ?_
    refine W.lcmp hx hb d_M_ask_22 ?_
    refine lv_if_gt hx hb d_M_ask_23 (tgt := 53) rfl (fun g2 => ?_) (fun g2 => ?_)
    · have g2 := (lg_cmp_gt _ _).mp g2
      refine lv_iconst (v := 2) hx hb d_M_ask_53 (by decide) ?_
      refine lv_goto hx hb d_M_ask_54 (tgt := 58) rfl ?_
      refine pF (v := .int 2) hx hb hown hE hK hP hD hS 0 rfl rfl layM tyM tokM nmM 0 (by decide) w319 rfl rfl rfl (Nat.le_of_ble_eq_true rfl) d_M_ask_58 (fun H locs hP hD hS => ?_)
      have hP : va_P D vwCl (MW dA h ad (MS.s_cod x 2)) H := hP
      have hD : va_D A (MW dA h ad (MS.s_cod x 2)) := hD
      refine lv_aload_n hx hb d_M_ask_61 rfl (lv_at hl 0 rfl) ?_
      refine gF (v := .int 2) hx hb hown hE hK hP 0 rfl rfl layM 0 (by decide) w319 rfl d_M_ask_62 ?_
      refine lv_if_le hx hb d_M_ask_65 (tgt := 70) rfl (fun h9 => absurd h9 (by decide)) (fun _ => ?_)
      refine lv_iconst (v := 0) hx hb d_M_ask_68 (by decide) ?_
      exact rfI hx hb hr hlk hS () rfl hP hD (Nat.le_of_ble_eq_true rfl) (Nat.le_of_ble_eq_true rfl) d_M_ask_69
    · have g2 := mt (lg_cmp_gt _ _).mpr g2
      refine lv_lload_n hx hb d_M_ask_26 rfl (lv_at hl 2 rfl) ?_
      refine lv_lconst (v := 1) hx hb d_M_ask_27 (by decide) ?_
      refine W.lcmp hx hb d_M_ask_28 ?_
      refine lv_if_lt hx hb d_M_ask_29 (tgt := 53) rfl (fun g3 => ?_) (fun g3 => ?_)
      · have g3 := (lg_cmp_lt _ _).mp g3
        refine lv_iconst (v := 2) hx hb d_M_ask_53 (by decide) ?_
        refine lv_goto hx hb d_M_ask_54 (tgt := 58) rfl ?_
        refine pF (v := .int 2) hx hb hown hE hK hP hD hS 0 rfl rfl layM tyM tokM nmM 0 (by decide) w319 rfl rfl rfl (Nat.le_of_ble_eq_true rfl) d_M_ask_58 (fun H locs hP hD hS => ?_)
        have hP : va_P D vwCl (MW dA h ad (MS.s_cod x 2)) H := hP
        have hD : va_D A (MW dA h ad (MS.s_cod x 2)) := hD
        refine lv_aload_n hx hb d_M_ask_61 rfl (lv_at hl 0 rfl) ?_
        refine gF (v := .int 2) hx hb hown hE hK hP 0 rfl rfl layM 0 (by decide) w319 rfl d_M_ask_62 ?_
        refine lv_if_le hx hb d_M_ask_65 (tgt := 70) rfl (fun h9 => absurd h9 (by decide)) (fun _ => ?_)
        refine lv_iconst (v := 0) hx hb d_M_ask_68 (by decide) ?_
        exact rfI hx hb hr hlk hS () rfl hP hD (Nat.le_of_ble_eq_true rfl) (Nat.le_of_ble_eq_true rfl) d_M_ask_69
      · have g3 := mt (lg_cmp_lt _ _).mpr g3
        refine lv_lload_n hx hb d_M_ask_32 rfl (lv_at hl 2 rfl) ?_
        refine lv_ldc2 (v := 1099511627775) hx hb hown (hE.t w450 rfl) d_M_ask_33 ?_
        refine W.lcmp hx hb d_M_ask_36 ?_
        refine lv_if_gt hx hb d_M_ask_37 (tgt := 53) rfl (fun g4 => ?_) (fun g4 => ?_)
        · have g4 := (lg_cmp_gt _ _).mp g4
          refine lv_iconst (v := 2) hx hb d_M_ask_53 (by decide) ?_
          refine lv_goto hx hb d_M_ask_54 (tgt := 58) rfl ?_
          refine pF (v := .int 2) hx hb hown hE hK hP hD hS 0 rfl rfl layM tyM tokM nmM 0 (by decide) w319 rfl rfl rfl (Nat.le_of_ble_eq_true rfl) d_M_ask_58 (fun H locs hP hD hS => ?_)
          have hP : va_P D vwCl (MW dA h ad (MS.s_cod x 2)) H := hP
          have hD : va_D A (MW dA h ad (MS.s_cod x 2)) := hD
          refine lv_aload_n hx hb d_M_ask_61 rfl (lv_at hl 0 rfl) ?_
          refine gF (v := .int 2) hx hb hown hE hK hP 0 rfl rfl layM 0 (by decide) w319 rfl d_M_ask_62 ?_
          refine lv_if_le hx hb d_M_ask_65 (tgt := 70) rfl (fun h9 => absurd h9 (by decide)) (fun _ => ?_)
          refine lv_iconst (v := 0) hx hb d_M_ask_68 (by decide) ?_
          exact rfI hx hb hr hlk hS () rfl hP hD (Nat.le_of_ble_eq_true rfl) (Nat.le_of_ble_eq_true rfl) d_M_ask_69
        · have g4 := mt (lg_cmp_gt _ _).mpr g4
          refine lv_iload hx hb d_M_ask_40 (lv_at hl 3 rfl) ?_
          refine lv_iconst (v := 1) hx hb d_M_ask_42 (by decide) ?_
          refine lv_icmp_lt hx hb d_M_ask_43 (tgt := 53) rfl (fun g5 => ?_) (fun g5 => ?_)
          · have g5 := g5
            refine lv_iconst (v := 2) hx hb d_M_ask_53 (by decide) ?_
            refine lv_goto hx hb d_M_ask_54 (tgt := 58) rfl ?_
            refine pF (v := .int 2) hx hb hown hE hK hP hD hS 0 rfl rfl layM tyM tokM nmM 0 (by decide) w319 rfl rfl rfl (Nat.le_of_ble_eq_true rfl) d_M_ask_58 (fun H locs hP hD hS => ?_)
            have hP : va_P D vwCl (MW dA h ad (MS.s_cod x 2)) H := hP
            have hD : va_D A (MW dA h ad (MS.s_cod x 2)) := hD
            refine lv_aload_n hx hb d_M_ask_61 rfl (lv_at hl 0 rfl) ?_
            refine gF (v := .int 2) hx hb hown hE hK hP 0 rfl rfl layM 0 (by decide) w319 rfl d_M_ask_62 ?_
            refine lv_if_le hx hb d_M_ask_65 (tgt := 70) rfl (fun h9 => absurd h9 (by decide)) (fun _ => ?_)
            refine lv_iconst (v := 0) hx hb d_M_ask_68 (by decide) ?_
            exact rfI hx hb hr hlk hS () rfl hP hD (Nat.le_of_ble_eq_true rfl) (Nat.le_of_ble_eq_true rfl) d_M_ask_69
          · have g5 := g5
            refine lv_iload hx hb d_M_ask_46 (lv_at hl 3 rfl) ?_
            refine lv_bipush (v := 64) hx hb d_M_ask_48 (by decide) ?_
            refine lv_icmp_le hx hb d_M_ask_50 (tgt := 57) rfl (fun h9 => absurd h9 (Int32.not_le.mpr ((((((h0.resolve_left g1).resolve_left g2).resolve_left g3).resolve_left g4).resolve_left g5)))) (fun _ => ?_)
            refine lv_iconst (v := 2) hx hb d_M_ask_53 (by decide) ?_
            refine lv_goto hx hb d_M_ask_54 (tgt := 58) rfl ?_
            refine pF (v := .int 2) hx hb hown hE hK hP hD hS 0 rfl rfl layM tyM tokM nmM 0 (by decide) w319 rfl rfl rfl (Nat.le_of_ble_eq_true rfl) d_M_ask_58 (fun H locs hP hD hS => ?_)
            have hP : va_P D vwCl (MW dA h ad (MS.s_cod x 2)) H := hP
            have hD : va_D A (MW dA h ad (MS.s_cod x 2)) := hD
            refine lv_aload_n hx hb d_M_ask_61 rfl (lv_at hl 0 rfl) ?_
            refine gF (v := .int 2) hx hb hown hE hK hP 0 rfl rfl layM 0 (by decide) w319 rfl d_M_ask_62 ?_
            refine lv_if_le hx hb d_M_ask_65 (tgt := 70) rfl (fun h9 => absurd h9 (by decide)) (fun _ => ?_)
            refine lv_iconst (v := 0) hx hb d_M_ask_68 (by decide) ?_
            exact rfI hx hb hr hlk hS () rfl hP hD (Nat.le_of_ble_eq_true rfl) (Nat.le_of_ble_eq_true rfl) d_M_ask_69
theorem d_M_ask_109 : decode prog_14_method_91_code 109 = .ok (.aload_n 0, 1) := by decide +kernel
theorem d_M_ask_110 : decode prog_14_method_91_code 110 = .ok (.iconst 1, 1) := by decide +kernel
theorem d_M_ask_111 : decode prog_14_method_91_code 111 = .ok (.invokevirtual 504, 3) := by decide +kernel
theorem d_M_ask_114 : decode prog_14_method_91_code 114 = .ok (.ifCond .eq 7, 3) := by decide +kernel
theorem d_M_ask_117 : decode prog_14_method_91_code 117 = .ok (.iconst 1, 1) := by decide +kernel
theorem d_M_ask_118 : decode prog_14_method_91_code 118 = .ok (.goto 4, 3) := by decide +kernel
theorem d_M_ask_129 : decode prog_14_method_91_code 129 = .ok (.aload_n 0, 1) := by decide +kernel
theorem d_M_ask_130 : decode prog_14_method_91_code 130 = .ok (.invokevirtual 508, 3) := by decide +kernel
theorem d_M_ask_143 : decode prog_14_method_91_code 143 = .ok (.aload_n 0, 1) := by decide +kernel
theorem d_M_ask_144 : decode prog_14_method_91_code 144 = .ok (.getfield 498, 3) := by decide +kernel
theorem d_M_ask_147 : decode prog_14_method_91_code 147 = .ok (.goto 4, 3) := by decide +kernel
theorem w1077 : Cond.methodLink "SeriesVaultModel" 508 ⟨"SeriesVaultModel", "keepTable", "()V"⟩ ∈ aW := aw_of (tb_11 (List.mem_of_getElem? (i := 55) rfl)) rfl
theorem w1078 : Cond.code ⟨"SeriesVaultModel", "keepTable", "()V"⟩ prog_14_method_90_code 5 none ∈ aW := aw_of (tb_11 (List.mem_of_getElem? (i := 58) rfl)) rfl
theorem w1079 : Cond.instanceMethod ⟨"SeriesVaultModel", "keepTable", "()V"⟩ ∈ aW := aw_of (tb_11 (List.mem_of_getElem? (i := 57) rfl)) rfl
theorem w1080 : Cond.selects "SeriesVaultModel" ⟨"SeriesVaultModel", "keepTable", "()V"⟩ ⟨"SeriesVaultModel", "keepTable", "()V"⟩ ∈ aW := aw_pr (List.mem_map.mpr ⟨_, pv_8 (List.mem_of_getElem? (i := 14) rfl), rfl⟩) rfl
set_option maxHeartbeats 4000000 in
set_option maxRecDepth 100000 in
theorem k_ask (l : Launch) (D : va_G) (dA : Nat → ClassId) (sz : Nat) (h : Nat) (ad : Nat → Nat) (x : MS) (a : Int64) (b : Int64) (n : Nat) (ho : x.on = true) (ha0 : 0 ≤ a) (ha1 : a ≤ 1099511627775) (hb0 : 1 ≤ b) (hb1 : b ≤ 1099511627775) (hn1 : 1 ≤ n) (hn2 : n ≤ 64) (haw : x.aW) : Met l ⟨"SeriesVaultModel", "ask", "(JJI)I"⟩ [Cond.code ⟨"SeriesVaultModel", "ask", "(JJI)I"⟩ prog_14_method_91_code 7 (some FieldType.int)] { frames := 9, cells := 0, slots := 0, locals := 197 } (pC D dA [.ref h, .long a, .long b, .int (nI n)] (MW dA h ad x) sz) (va_Qi (fun (r9 : Int32) (u9 : MS) => r9 = (x.asF a b n).1 ∧ u9 = (x.asF a b n).2) (fun (u9 : MS) t9 => bW D (va_A (MW dA h ad x) sz) (MW dA h ad u9) t9) (va_A (MW dA h ad x) sz)) 0 0 (va_A (MW dA h ad x) sz) := by
  refine mkC (y := ⟨"SeriesVaultModel", "ask", "(JJI)I"⟩) (cc := prog_14_method_91_code) (maxL := 7) (av := [.ref h, .long a, .long b, .int (nI n)]) (ws := MW dA h ad x) (sz := sz) (Qc := fun A => va_Qi (fun (r9 : Int32) (u9 : MS) => r9 = (x.asF a b n).1 ∧ u9 = (x.asF a b n).2) (fun (u9 : MS) t9 => bW D A (MW dA h ad u9) t9) A) (by decide) (Nat.le_of_ble_eq_true rfl) ?_
  intro A p e s m below meth c ls hsz hB
  obtain ⟨hx, hb, hr, hml, hown, hin, hlk, hE, hK, hP, hD, hS, hA, hN, hl⟩ := hB
  have hown : s.vm.findClass "SeriesVaultModel" = some m.cls := hown
  have hl : lv_has ls 7 [(0, .ref h), (1, .long a), (3, .long b), (5, .int (nI n))] := hl
  obtain ⟨H, hH⟩ : ∃ z, z = s.heap := ⟨_, rfl⟩
  have hP : va_P D vwCl (MW dA h ad x) H := by rw [hH]; exact hP
  have hS : va_S A s.heap H [] := by rw [hH]; exact hS
  rw [← hH]
  refine lv_aload_n hx hb d_M_ask_0 rfl (lv_at hl 0 rfl) ?_
  refine lv_aload_n hx hb d_M_ask_1 rfl (lv_at hl 0 rfl) ?_
  refine gF (v := .int (bI x.on)) hx hb hown hE hK hP 0 rfl rfl layM 7 (by decide) w324 rfl d_M_ask_2 ?_
  refine lv_if_ne hx hb d_M_ask_5 (tgt := 12) rfl (fun _ => ?_) (fun h9 => absurd h9 (by rw [ho]; decide))
  refine lv_lload_n hx hb d_M_ask_12 rfl (lv_at hl 1 rfl) ?_
  refine lv_lconst (v := 0) hx hb d_M_ask_13 (by decide) ?_
  refine W.lcmp hx hb d_M_ask_14 ?_
  refine lv_if_lt hx hb d_M_ask_15 (tgt := 53) rfl (fun h9 => absurd h9 (mt (lg_cmp_lt _ _).mp (Int64.not_lt.mpr ha0))) (fun _ => ?_)
  refine lv_lload_n hx hb d_M_ask_18 rfl (lv_at hl 1 rfl) ?_
  refine lv_ldc2 (v := 1099511627775) hx hb hown (hE.t w450 rfl) d_M_ask_19 ?_
  refine W.lcmp hx hb d_M_ask_22 ?_
  refine lv_if_gt hx hb d_M_ask_23 (tgt := 53) rfl (fun h9 => absurd h9 (mt (lg_cmp_gt _ _).mp (Int64.not_lt.mpr ha1))) (fun _ => ?_)
  refine lv_lload_n hx hb d_M_ask_26 rfl (lv_at hl 2 rfl) ?_
  refine lv_lconst (v := 1) hx hb d_M_ask_27 (by decide) ?_
  refine W.lcmp hx hb d_M_ask_28 ?_
  refine lv_if_lt hx hb d_M_ask_29 (tgt := 53) rfl (fun h9 => absurd h9 (mt (lg_cmp_lt _ _).mp (Int64.not_lt.mpr hb0))) (fun _ => ?_)
  refine lv_lload_n hx hb d_M_ask_32 rfl (lv_at hl 2 rfl) ?_
  refine lv_ldc2 (v := 1099511627775) hx hb hown (hE.t w450 rfl) d_M_ask_33 ?_
  refine W.lcmp hx hb d_M_ask_36 ?_
  refine lv_if_gt hx hb d_M_ask_37 (tgt := 53) rfl (fun h9 => absurd h9 (mt (lg_cmp_gt _ _).mp (Int64.not_lt.mpr hb1))) (fun _ => ?_)
  refine lv_iload hx hb d_M_ask_40 (lv_at hl 3 rfl) ?_
  refine lv_iconst (v := 1) hx hb d_M_ask_42 (by decide) ?_
  refine lv_icmp_lt hx hb d_M_ask_43 (tgt := 53) rfl (fun h9 => absurd h9 (mt (nI_ltI (a := n) (b := 1) (by omega) (by omega)).mp (Nat.not_lt.mpr hn1))) (fun _ => ?_)
  refine lv_iload hx hb d_M_ask_46 (lv_at hl 3 rfl) ?_
  refine lv_bipush (v := 64) hx hb d_M_ask_48 (by decide) ?_
  refine lv_icmp_le hx hb d_M_ask_50 (tgt := 57) rfl (fun _ => ?_) (fun h9 => absurd ((nI_leI (a := n) (b := 64) (by omega) (by omega)).mpr hn2) h9)
  refine lv_iconst (v := 0) hx hb d_M_ask_57 (by decide) ?_
  refine pF (v := .int 0) hx hb hown hE hK hP hD hS 0 rfl rfl layM tyM tokM nmM 0 (by decide) w319 rfl rfl rfl (Nat.le_of_ble_eq_true rfl) d_M_ask_58 (fun H locs hP hD hS => ?_)
  have hP : va_P D vwCl (MW dA h ad (MS.s_cod x 0)) H := hP
  have hD : va_D A (MW dA h ad (MS.s_cod x 0)) := hD
  refine lv_aload_n hx hb d_M_ask_61 rfl (lv_at hl 0 rfl) ?_
  refine gF (v := .int 0) hx hb hown hE hK hP 0 rfl rfl layM 0 (by decide) w319 rfl d_M_ask_62 ?_
  refine lv_if_le hx hb d_M_ask_65 (tgt := 70) rfl (fun _ => ?_) (fun h9 => absurd (by decide) h9)
  refine lv_aload_n hx hb d_M_ask_70 rfl (lv_at hl 0 rfl) ?_
  refine lv_iconst (v := 0) hx hb d_M_ask_71 (by decide) ?_
  refine pF (v := .int 0) hx hb hown hE hK hP hD hS 0 rfl rfl layM tyM tokM nmM 3 (by decide) w321 rfl rfl rfl (Nat.le_of_ble_eq_true rfl) d_M_ask_72 (fun H locs hP hD hS => ?_)
  have hP : va_P D vwCl (MW dA h ad (MS.s_faultCode (MS.s_cod x 0) 0)) H := hP
  have hD : va_D A (MW dA h ad (MS.s_faultCode (MS.s_cod x 0) 0)) := hD
  refine lv_aload_n hx hb d_M_ask_75 rfl (lv_at hl 0 rfl) ?_
  refine lv_iconst (v := 0) hx hb d_M_ask_76 (by decide) ?_
  refine pF (v := .int 0) hx hb hown hE hK hP hD hS 0 rfl rfl layM tyM tokM nmM 4 (by decide) w322 rfl rfl rfl (Nat.le_of_ble_eq_true rfl) d_M_ask_77 (fun H locs hP hD hS => ?_)
  have hP : va_P D vwCl (MW dA h ad (MS.s_faultPlace (MS.s_faultCode (MS.s_cod x 0) 0) 0)) H := hP
  have hD : va_D A (MW dA h ad (MS.s_faultPlace (MS.s_faultCode (MS.s_cod x 0) 0) 0)) := hD
  refine lv_aload_n hx hb d_M_ask_80 rfl (lv_at hl 0 rfl) ?_
  refine lv_lload_n hx hb d_M_ask_81 rfl (lv_at hl 1 rfl) ?_
  refine pF (v := .long a) hx hb hown hE hK hP hD hS 0 rfl rfl layM tyM tokM nmM 57 (by decide) w487 rfl rfl rfl (Nat.le_of_ble_eq_true rfl) d_M_ask_82 (fun H locs hP hD hS => ?_)
  have hP : va_P D vwCl (MW dA h ad (MS.s_windowsFrom (MS.s_faultPlace (MS.s_faultCode (MS.s_cod x 0) 0) 0) a)) H := hP
  have hD : va_D A (MW dA h ad (MS.s_windowsFrom (MS.s_faultPlace (MS.s_faultCode (MS.s_cod x 0) 0) 0) a)) := hD
  refine lv_aload_n hx hb d_M_ask_85 rfl (lv_at hl 0 rfl) ?_
  refine lv_lload_n hx hb d_M_ask_86 rfl (lv_at hl 2 rfl) ?_
  refine pF (v := .long b) hx hb hown hE hK hP hD hS 0 rfl rfl layM tyM tokM nmM 58 (by decide) w488 rfl rfl rfl (Nat.le_of_ble_eq_true rfl) d_M_ask_87 (fun H locs hP hD hS => ?_)
  have hP : va_P D vwCl (MW dA h ad (MS.s_width (MS.s_windowsFrom (MS.s_faultPlace (MS.s_faultCode (MS.s_cod x 0) 0) 0) a) b)) H := hP
  have hD : va_D A (MW dA h ad (MS.s_width (MS.s_windowsFrom (MS.s_faultPlace (MS.s_faultCode (MS.s_cod x 0) 0) 0) a) b)) := hD
  refine lv_aload_n hx hb d_M_ask_90 rfl (lv_at hl 0 rfl) ?_
  refine lv_iload hx hb d_M_ask_91 (lv_at hl 3 rfl) ?_
  refine pF (v := .int (nI n)) hx hb hown hE hK hP hD hS 0 rfl rfl layM tyM tokM nmM 59 (by decide) w489 rfl rfl rfl (Nat.le_of_ble_eq_true rfl) d_M_ask_93 (fun H locs hP hD hS => ?_)
  have hP : va_P D vwCl (MW dA h ad (MS.s_windows (MS.s_width (MS.s_windowsFrom (MS.s_faultPlace (MS.s_faultCode (MS.s_cod x 0) 0) 0) a) b) n)) H := hP
  have hD : va_D A (MW dA h ad (MS.s_windows (MS.s_width (MS.s_windowsFrom (MS.s_faultPlace (MS.s_faultCode (MS.s_cod x 0) 0) 0) a) b) n)) := hD
  refine lv_aload_n hx hb d_M_ask_96 rfl (lv_at hl 0 rfl) ?_
  refine lv_iconst (v := 0) hx hb d_M_ask_97 (by decide) ?_
  refine pF (v := .int (bI false)) hx hb hown hE hK hP hD hS 0 rfl rfl layM tyM tokM nmM 71 (by decide) w326 rfl (bI_nar false) (bI_fit false) (Nat.le_of_ble_eq_true rfl) d_M_ask_98 (fun H locs hP hD hS => ?_)
  have hP : va_P D vwCl (MW dA h ad (MS.s_isTable (MS.s_windows (MS.s_width (MS.s_windowsFrom (MS.s_faultPlace (MS.s_faultCode (MS.s_cod x 0) 0) 0) a) b) n) false)) H := hP
  have hD : va_D A (MW dA h ad (MS.s_isTable (MS.s_windows (MS.s_width (MS.s_windowsFrom (MS.s_faultPlace (MS.s_faultCode (MS.s_cod x 0) 0) 0) a) b) n) false)) := hD
  refine lv_aload_n hx hb d_M_ask_101 rfl (lv_at hl 0 rfl) ?_
  refine lv_iconst (v := 0) hx hb d_M_ask_102 (by decide) ?_
  refine jfI (rnV (As := [.int 0]) (rest := []) hx hb hml hown hE hK (hN _ _ hS) hP hD (k_question l D dA H.size h ad (MS.s_isTable (MS.s_windows (MS.s_width (MS.s_windowsFrom (MS.s_faultPlace (MS.s_faultCode (MS.s_cod x 0) 0) 0) a) b) n) false) false (as_1 haw)) (q0 := 0) rfl rfl w491 w490 w492 w493 w328 rfl rfl ⟨⟨by decide, by decide⟩, rfl⟩ ⟨(Nat.le_of_ble_eq_true rfl), (Nat.le_of_ble_eq_true rfl)⟩ rfl hl.1 rfl (Nat.le_of_ble_eq_true rfl) d_M_ask_103 ⟨(Nat.le_of_ble_eq_true rfl), (Nat.le_of_ble_eq_true rfl)⟩) hP hD hS hA (fun r1 u2 H locs hp9 hP hD hS => ?_)
  obtain ⟨y3, h9u⟩ : ∃ z9, z9 = u2 := ⟨_, rfl⟩
  subst h9u
  have hP : va_P D vwCl (MW dA h ad y3) H := hP
  have hD : va_D A (MW dA h ad y3) := hD
  obtain ⟨hp9, f_e_4⟩ := hp9
  replace hp9 : bI ((MS.s_isTable (MS.s_windows (MS.s_width (MS.s_windowsFrom (MS.s_faultPlace (MS.s_faultCode (MS.s_cod x 0) 0) 0) a) b) n) false).quF false).1 = r1 := Eq.symm hp9
  subst hp9
  refine lv_if_eq hx hb d_M_ask_106 (tgt := 121) rfl (fun g5 => ?_) (fun g5 => ?_)
  · have g5 := bI_0 g5
    refine lv_iconst (v := 0) hx hb d_M_ask_121 (by decide) ?_
    refine lv_istore hx hb d_M_ask_122 hl (by decide) rfl (fun ls hl => ?_)
    have hl : lv_has ls 7 [(6, .int 0), (0, .ref h), (1, .long a), (3, .long b), (5, .int (nI n))] := hl
    refine lv_iload hx hb d_M_ask_124 (lv_at hl 0 rfl) ?_
    refine lv_if_eq hx hb d_M_ask_126 (tgt := 133) rfl (fun _ => ?_) (fun h9 => absurd (by decide) h9)
    refine lv_aload_n hx hb d_M_ask_133 rfl (lv_at hl 1 rfl) ?_
    refine lv_iconst (v := 0) hx hb d_M_ask_134 (by decide) ?_
    refine pF (v := .int (nI 0)) hx hb hown hE hK hP hD hS 0 rfl rfl layM tyM tokM nmM 2 (by decide) w320 rfl rfl rfl (Nat.le_of_ble_eq_true rfl) d_M_ask_135 (fun H locs hP hD hS => ?_)
    have hP : va_P D vwCl (MW dA h ad (MS.s_length y3 0)) H := hP
    have hD : va_D A (MW dA h ad (MS.s_length y3 0)) := hD
    refine lv_iload hx hb d_M_ask_138 (lv_at hl 0 rfl) ?_
    refine lv_if_eq hx hb d_M_ask_140 (tgt := 150) rfl (fun _ => ?_) (fun h9 => absurd (by decide) h9)
    refine lv_iconst (v := (-1)) hx hb d_M_ask_150 (by decide) ?_
    exact rfI hx hb hr hlk hS (MS.s_length y3 0) (by have e9 : x.asF a b n = (-1, MS.s_length ((x.as0 a b n).quF false).2 0) := if_neg (by rw [show ((x.as0 a b n).quF false).1 = false from g5]; decide); rw [e9]; exact ⟨rfl, by rw [f_e_4]; rfl⟩) hP hD (Nat.le_of_ble_eq_true rfl) (Nat.le_of_ble_eq_true rfl) d_M_ask_151
  · have g5 := bI_n0 g5
    have hq1 : (x.as0 a b n).quF false = (true, y3) := Prod.ext g5 f_e_4.symm
    have w2 := as_2 haw hb0 hn2 hq1
    have bt : byteF y3.texts := by rw [qk_f (qu_in (as_1 haw) hq1).2.1 MS.texts rfl]; exact haw.2.2.2.2.2.2.2.2
    refine lv_aload_n hx hb d_M_ask_109 rfl (lv_at hl 0 rfl) ?_
    refine lv_iconst (v := 1) hx hb d_M_ask_110 (by decide) ?_
    refine jfI (rnV (As := [.int 1]) (rest := []) hx hb hml hown hE hK (hN _ _ hS) hP hD (k_question l D dA H.size h ad y3 true w2) (q0 := 0) rfl rfl w491 w490 w492 w493 w328 rfl rfl ⟨⟨by decide, by decide⟩, rfl⟩ ⟨(Nat.le_of_ble_eq_true rfl), (Nat.le_of_ble_eq_true rfl)⟩ rfl hl.1 rfl (Nat.le_of_ble_eq_true rfl) d_M_ask_111 ⟨(Nat.le_of_ble_eq_true rfl), (Nat.le_of_ble_eq_true rfl)⟩) hP hD hS hA (fun r6 u7 H locs hp9 hP hD hS => ?_)
    obtain ⟨y8, h9u⟩ : ∃ z9, z9 = u7 := ⟨_, rfl⟩
    subst h9u
    have hP : va_P D vwCl (MW dA h ad y8) H := hP
    have hD : va_D A (MW dA h ad y8) := hD
    obtain ⟨hp9, f_e_9⟩ := hp9
    replace hp9 : bI (y3.quF true).1 = r6 := Eq.symm hp9
    subst hp9
    refine lv_if_eq hx hb d_M_ask_114 (tgt := 121) rfl (fun g10 => ?_) (fun g10 => ?_)
    · have g10 := bI_0 g10
      refine lv_iconst (v := 0) hx hb d_M_ask_121 (by decide) ?_
      refine lv_istore hx hb d_M_ask_122 hl (by decide) rfl (fun ls hl => ?_)
      have hl : lv_has ls 7 [(6, .int 0), (0, .ref h), (1, .long a), (3, .long b), (5, .int (nI n))] := hl
      refine lv_iload hx hb d_M_ask_124 (lv_at hl 0 rfl) ?_
      refine lv_if_eq hx hb d_M_ask_126 (tgt := 133) rfl (fun _ => ?_) (fun h9 => absurd (by decide) h9)
      refine lv_aload_n hx hb d_M_ask_133 rfl (lv_at hl 1 rfl) ?_
      refine lv_iconst (v := 0) hx hb d_M_ask_134 (by decide) ?_
      refine pF (v := .int (nI 0)) hx hb hown hE hK hP hD hS 0 rfl rfl layM tyM tokM nmM 2 (by decide) w320 rfl rfl rfl (Nat.le_of_ble_eq_true rfl) d_M_ask_135 (fun H locs hP hD hS => ?_)
      have hP : va_P D vwCl (MW dA h ad (MS.s_length y8 0)) H := hP
      have hD : va_D A (MW dA h ad (MS.s_length y8 0)) := hD
      refine lv_iload hx hb d_M_ask_138 (lv_at hl 0 rfl) ?_
      refine lv_if_eq hx hb d_M_ask_140 (tgt := 150) rfl (fun _ => ?_) (fun h9 => absurd (by decide) h9)
      refine lv_iconst (v := (-1)) hx hb d_M_ask_150 (by decide) ?_
      exact rfI hx hb hr hlk hS (MS.s_length y8 0) (by have e9 : x.asF a b n = MS.as2 (y3.quF true) := (if_pos g5).trans (by rw [show ((x.as0 a b n).quF false).2 = y3 from f_e_4.symm]); have e8 : MS.as2 (y3.quF true) = (-1, MS.s_length y8 0) := (if_neg (by rw [g10]; decide)).trans (by rw [← f_e_9]); rw [e9, e8]; exact ⟨rfl, rfl⟩) hP hD (Nat.le_of_ble_eq_true rfl) (Nat.le_of_ble_eq_true rfl) d_M_ask_151
    · have g10 := bI_n0 g10
      refine lv_iconst (v := 1) hx hb d_M_ask_117 (by decide) ?_
      refine lv_goto hx hb d_M_ask_118 (tgt := 122) rfl ?_
      refine lv_istore hx hb d_M_ask_122 hl (by decide) rfl (fun ls hl => ?_)
      have hl : lv_has ls 7 [(6, .int 1), (0, .ref h), (1, .long a), (3, .long b), (5, .int (nI n))] := hl
      refine lv_iload hx hb d_M_ask_124 (lv_at hl 0 rfl) ?_
      refine lv_if_eq hx hb d_M_ask_126 (tgt := 133) rfl (fun h9 => absurd h9 (by decide)) (fun _ => ?_)
      obtain ⟨t1, t2, t3, t4, t5, t6⟩ := as_3 w2 bt (show y3.quF true = (true, y8) from Prod.ext g10 f_e_9.symm)
      obtain ⟨rl9, rt9, v9, hkt⟩ : ∃ z1 z2 z3, y8.ktR (y8.tableRows 0) = (z1, z2, z3) := ⟨_, _, _, rfl⟩
      refine lv_aload_n hx hb d_M_ask_129 rfl (lv_at hl 1 rfl) ?_
      refine jfV (rnV (As := []) (rest := []) hx hb hml hown hE hK (hN _ _ hS) hP hD (k_keepTable l D dA H.size h ad y8 rl9 rt9 v9 t1 t2 t3 t4 t5 t6 hkt) (q0 := 0) rfl rfl w1078 w1077 w1079 w1080 w328 rfl rfl ⟨⟨by decide, by decide⟩, rfl⟩ ⟨(Nat.le_of_ble_eq_true rfl), (Nat.le_of_ble_eq_true rfl)⟩ rfl hl.1 rfl (Nat.le_of_ble_eq_true rfl) d_M_ask_130 ⟨(Nat.le_of_ble_eq_true rfl), (Nat.le_of_ble_eq_true rfl)⟩) hP hD hS hA (fun u12 H locs hp9 hP hD hS => ?_)
      have hP : va_P D vwCl (MW dA h ad (MS.s_isShown (MS.s_shown (MS.s_rowLengths (MS.s_rowTexts (MS.s_shownWindows (MS.s_rows (MS.s_names (MS.s_isTable (MS.s_valueLength y8 v9) true) (y8.tableNames 0)) (y8.tableRows 0)) y8.windows) rt9) rl9) (shG y8.cells y8.shown y8.windows (y8.tableRows 0))) (shG y8.isCell y8.isShown y8.windows (y8.tableRows 0)))) H := hP
      have hD : va_D A (MW dA h ad (MS.s_isShown (MS.s_shown (MS.s_rowLengths (MS.s_rowTexts (MS.s_shownWindows (MS.s_rows (MS.s_names (MS.s_isTable (MS.s_valueLength y8 v9) true) (y8.tableNames 0)) (y8.tableRows 0)) y8.windows) rt9) rl9) (shG y8.cells y8.shown y8.windows (y8.tableRows 0))) (shG y8.isCell y8.isShown y8.windows (y8.tableRows 0)))) := hD
      refine lv_aload_n hx hb d_M_ask_133 rfl (lv_at hl 1 rfl) ?_
      refine lv_iconst (v := 0) hx hb d_M_ask_134 (by decide) ?_
      refine pF (v := .int (nI 0)) hx hb hown hE hK hP hD hS 0 rfl rfl layM tyM tokM nmM 2 (by decide) w320 rfl rfl rfl (Nat.le_of_ble_eq_true rfl) d_M_ask_135 (fun H locs hP hD hS => ?_)
      have hP : va_P D vwCl (MW dA h ad (MS.s_isShown (MS.s_shown (MS.s_rowLengths (MS.s_rowTexts (MS.s_shownWindows (MS.s_rows (MS.s_names (MS.s_isTable (MS.s_valueLength (MS.s_length y8 0) v9) true) (y8.tableNames 0)) (y8.tableRows 0)) y8.windows) rt9) rl9) (shG y8.cells y8.shown y8.windows (y8.tableRows 0))) (shG y8.isCell y8.isShown y8.windows (y8.tableRows 0)))) H := hP
      have hD : va_D A (MW dA h ad (MS.s_isShown (MS.s_shown (MS.s_rowLengths (MS.s_rowTexts (MS.s_shownWindows (MS.s_rows (MS.s_names (MS.s_isTable (MS.s_valueLength (MS.s_length y8 0) v9) true) (y8.tableNames 0)) (y8.tableRows 0)) y8.windows) rt9) rl9) (shG y8.cells y8.shown y8.windows (y8.tableRows 0))) (shG y8.isCell y8.isShown y8.windows (y8.tableRows 0)))) := hD
      refine lv_iload hx hb d_M_ask_138 (lv_at hl 0 rfl) ?_
      refine lv_if_eq hx hb d_M_ask_140 (tgt := 150) rfl (fun h9 => absurd h9 (by decide)) (fun _ => ?_)
      refine lv_aload_n hx hb d_M_ask_143 rfl (lv_at hl 1 rfl) ?_
      refine gF (v := .int (nI (y8.tableRows 0))) hx hb hown hE hK hP 0 rfl rfl layM 73 (by decide) w951 rfl d_M_ask_144 ?_
      refine lv_goto hx hb d_M_ask_147 (tgt := 151) rfl ?_
      exact rfI hx hb hr hlk hS (MS.s_isShown (MS.s_shown (MS.s_rowLengths (MS.s_rowTexts (MS.s_shownWindows (MS.s_rows (MS.s_names (MS.s_isTable (MS.s_valueLength (MS.s_length y8 0) v9) true) (y8.tableNames 0)) (y8.tableRows 0)) y8.windows) rt9) rl9) (shG y8.cells y8.shown y8.windows (y8.tableRows 0))) (shG y8.isCell y8.isShown y8.windows (y8.tableRows 0))) (by have e9 : x.asF a b n = MS.as2 (y3.quF true) := (if_pos g5).trans (by rw [show ((x.as0 a b n).quF false).2 = y3 from f_e_4.symm]); have e8 : MS.as2 (y3.quF true) = (nI (y8.tableRows 0), MS.s_length y8.kpS 0) := (if_pos g10).trans (by rw [← f_e_9]); rw [e9, e8]; exact ⟨rfl, by unfold MS.kpS; rw [hkt]⟩) hP hD (Nat.le_of_ble_eq_true rfl) (Nat.le_of_ble_eq_true rfl) d_M_ask_151
end
section
abbrev VL0 : Type := Nat × Nat × (Nat → Int32) × Nat × Int32
abbrev VL1 : Type := Int32 × Nat × Bool × Int32 × Nat
abbrev VL2 : Type := Bool × (Nat → Nat) × Nat × (Nat → Nat) × (Nat → Nat)
abbrev VL3 : Type := (Nat → Nat) × (Nat → Nat) × (Nat → Int64) × (Nat → Int64) × Nat
abbrev VL4 : Type := Nat × Nat × Nat × Nat × Nat
abbrev VL5 : Type := Bool × (Nat → Nat) × Nat × (Nat → Nat) × (Nat → Int64)
abbrev VL6 : Type := (Nat → Int64) × Nat × (Nat → Nat) × Nat × (Nat → Nat)
abbrev VL7 : Type := (Nat → Int64) × (Nat → Int64) × Nat × (Nat → Option Nat) × Nat
abbrev VL8 : Type := (Nat → Nat) × (Nat → Int64) × (Nat → Int64) × (Nat → Nat) × Nat
abbrev VL9 : Type := Int64 × Nat × (Nat → Int64) × Nat × (Nat → Option Nat)
abbrev VL10 : Type := Nat × (Nat → Nat) × (Nat → Int64) × (Nat → Int64) × (Nat → Nat)
abbrev VL11 : Type := Nat × Int64 × Nat × (Nat → Int64) × Nat
abbrev VL12 : Type := (Nat → Option Nat) × (Nat → Nat) × (Nat → Nat) × (Nat → Nat) × Nat
abbrev VL13 : Type := Int32 × Int32 × Nat × Nat × Int32
abbrev VL14 : Type := Nat × Nat × Int64 × Int32 × Int32
abbrev VL15 : Type := Nat × (Nat → Int32) × (Nat → Bool) × (Nat → Int64) × (Nat → Nat)
abbrev VL16 : Type := Nat × (Nat → Int64) × (Nat → Nat) × Int64 × Int64
abbrev VL17 : Type := Nat × va_W × va_W
abbrev VM0 : Type := VL0 × VL1 × VL2 × VL3 × VL4
abbrev VM1 : Type := VL5 × VL6 × VL7 × VL8 × VL9
abbrev VM2 : Type := VL10 × VL11 × VL12 × VL13 × VL14
abbrev VM3 : Type := VL15 × VL16 × VL17
/-- the class: its fixed objects, its lists and tables, what never changes -/
abbrev VS : Type := VM0 × VM1 × VM2 × VM3
abbrev VS.tpA (x : VS) : Nat := x.1.1.1
abbrev VS.s_tpA (x : VS) (v : Nat) : VS := (((v, x.1.1.2), x.1.2), x.2)
abbrev VS.tpN (x : VS) : Nat := x.1.1.2.1
abbrev VS.s_tpN (x : VS) (v : Nat) : VS := (((x.1.1.1, v, x.1.1.2.2), x.1.2), x.2)
abbrev VS.tape (x : VS) : Nat → Int32 := x.1.1.2.2.1
abbrev VS.s_tape (x : VS) (v : Nat → Int32) : VS := (((x.1.1.1, x.1.1.2.1, v, x.1.1.2.2.2), x.1.2), x.2)
abbrev VS.tapeLength (x : VS) : Nat := x.1.1.2.2.2.1
abbrev VS.s_tapeLength (x : VS) (v : Nat) : VS := (((x.1.1.1, x.1.1.2.1, x.1.1.2.2.1, v, x.1.1.2.2.2.2), x.1.2), x.2)
abbrev VS.faultCode (x : VS) : Int32 := x.1.1.2.2.2.2
abbrev VS.s_faultCode (x : VS) (v : Int32) : VS := (((x.1.1.1, x.1.1.2.1, x.1.1.2.2.1, x.1.1.2.2.2.1, v), x.1.2), x.2)
abbrev VS.faultPlace (x : VS) : Int32 := x.1.2.1.1
abbrev VS.s_faultPlace (x : VS) (v : Int32) : VS := ((x.1.1, (v, x.1.2.1.2), x.1.2.2), x.2)
abbrev VS.diskBlocks (x : VS) : Nat := x.1.2.1.2.1
abbrev VS.s_diskBlocks (x : VS) (v : Nat) : VS := ((x.1.1, (x.1.2.1.1, v, x.1.2.1.2.2), x.1.2.2), x.2)
abbrev VS.powered (x : VS) : Bool := x.1.2.1.2.2.1
abbrev VS.s_powered (x : VS) (v : Bool) : VS := ((x.1.1, (x.1.2.1.1, x.1.2.1.2.1, v, x.1.2.1.2.2.2), x.1.2.2), x.2)
abbrev VS.cutLeft (x : VS) : Int32 := x.1.2.1.2.2.2.1
abbrev VS.s_cutLeft (x : VS) (v : Int32) : VS := ((x.1.1, (x.1.2.1.1, x.1.2.1.2.1, x.1.2.1.2.2.1, v, x.1.2.1.2.2.2.2), x.1.2.2), x.2)
abbrev VS.writes (x : VS) : Nat := x.1.2.1.2.2.2.2
abbrev VS.s_writes (x : VS) (v : Nat) : VS := ((x.1.1, (x.1.2.1.1, x.1.2.1.2.1, x.1.2.1.2.2.1, x.1.2.1.2.2.2.1, v), x.1.2.2), x.2)
abbrev VS.hasTable (x : VS) : Bool := x.1.2.2.1.1
abbrev VS.s_hasTable (x : VS) (v : Bool) : VS := ((x.1.1, x.1.2.1, (v, x.1.2.2.1.2), x.1.2.2.2), x.2)
abbrev VS.jA (x : VS) : Nat → Nat := x.1.2.2.1.2.1
abbrev VS.s_jA (x : VS) (v : Nat → Nat) : VS := ((x.1.1, x.1.2.1, (x.1.2.2.1.1, v, x.1.2.2.1.2.2), x.1.2.2.2), x.2)
abbrev VS.jN (x : VS) : Nat := x.1.2.2.1.2.2.1
abbrev VS.s_jN (x : VS) (v : Nat) : VS := ((x.1.1, x.1.2.1, (x.1.2.2.1.1, x.1.2.2.1.2.1, v, x.1.2.2.1.2.2.2), x.1.2.2.2), x.2)
abbrev VS.jK (x : VS) : Nat → Nat := x.1.2.2.1.2.2.2.1
abbrev VS.s_jK (x : VS) (v : Nat → Nat) : VS := ((x.1.1, x.1.2.1, (x.1.2.2.1.1, x.1.2.2.1.2.1, x.1.2.2.1.2.2.1, v, x.1.2.2.1.2.2.2.2), x.1.2.2.2), x.2)
abbrev VS.jO (x : VS) : Nat → Nat := x.1.2.2.1.2.2.2.2
abbrev VS.s_jO (x : VS) (v : Nat → Nat) : VS := ((x.1.1, x.1.2.1, (x.1.2.2.1.1, x.1.2.2.1.2.1, x.1.2.2.1.2.2.1, x.1.2.2.1.2.2.2.1, v), x.1.2.2.2), x.2)
abbrev VS.jU (x : VS) : Nat → Nat := x.1.2.2.2.1.1
abbrev VS.s_jU (x : VS) (v : Nat → Nat) : VS := ((x.1.1, x.1.2.1, x.1.2.2.1, (v, x.1.2.2.2.1.2), x.1.2.2.2.2), x.2)
abbrev VS.jB (x : VS) : Nat → Nat := x.1.2.2.2.1.2.1
abbrev VS.s_jB (x : VS) (v : Nat → Nat) : VS := ((x.1.1, x.1.2.1, x.1.2.2.1, (x.1.2.2.2.1.1, v, x.1.2.2.2.1.2.2), x.1.2.2.2.2), x.2)
abbrev VS.jF (x : VS) : Nat → Int64 := x.1.2.2.2.1.2.2.1
abbrev VS.s_jF (x : VS) (v : Nat → Int64) : VS := ((x.1.1, x.1.2.1, x.1.2.2.1, (x.1.2.2.2.1.1, x.1.2.2.2.1.2.1, v, x.1.2.2.2.1.2.2.2), x.1.2.2.2.2), x.2)
abbrev VS.jS (x : VS) : Nat → Int64 := x.1.2.2.2.1.2.2.2.1
abbrev VS.s_jS (x : VS) (v : Nat → Int64) : VS := ((x.1.1, x.1.2.1, x.1.2.2.1, (x.1.2.2.2.1.1, x.1.2.2.2.1.2.1, x.1.2.2.2.1.2.2.1, v, x.1.2.2.2.1.2.2.2.2), x.1.2.2.2.2), x.2)
abbrev VS.jsize (x : VS) : Nat := x.1.2.2.2.1.2.2.2.2
abbrev VS.s_jsize (x : VS) (v : Nat) : VS := ((x.1.1, x.1.2.1, x.1.2.2.1, (x.1.2.2.2.1.1, x.1.2.2.2.1.2.1, x.1.2.2.2.1.2.2.1, x.1.2.2.2.1.2.2.2.1, v), x.1.2.2.2.2), x.2)
abbrev VS.jkept (x : VS) : Nat := x.1.2.2.2.2.1
abbrev VS.s_jkept (x : VS) (v : Nat) : VS := ((x.1.1, x.1.2.1, x.1.2.2.1, x.1.2.2.2.1, (v, x.1.2.2.2.2.2)), x.2)
abbrev VS.junits (x : VS) : Nat := x.1.2.2.2.2.2.1
abbrev VS.s_junits (x : VS) (v : Nat) : VS := ((x.1.1, x.1.2.1, x.1.2.2.1, x.1.2.2.2.1, (x.1.2.2.2.2.1, v, x.1.2.2.2.2.2.2)), x.2)
abbrev VS.jlimit (x : VS) : Nat := x.1.2.2.2.2.2.2.1
abbrev VS.s_jlimit (x : VS) (v : Nat) : VS := ((x.1.1, x.1.2.1, x.1.2.2.1, x.1.2.2.2.1, (x.1.2.2.2.2.1, x.1.2.2.2.2.2.1, v, x.1.2.2.2.2.2.2.2)), x.2)
abbrev VS.jblock (x : VS) : Nat := x.1.2.2.2.2.2.2.2.1
abbrev VS.s_jblock (x : VS) (v : Nat) : VS := ((x.1.1, x.1.2.1, x.1.2.2.1, x.1.2.2.2.1, (x.1.2.2.2.2.1, x.1.2.2.2.2.2.1, x.1.2.2.2.2.2.2.1, v, x.1.2.2.2.2.2.2.2.2)), x.2)
abbrev VS.jfill (x : VS) : Nat := x.1.2.2.2.2.2.2.2.2
abbrev VS.s_jfill (x : VS) (v : Nat) : VS := ((x.1.1, x.1.2.1, x.1.2.2.1, x.1.2.2.2.1, (x.1.2.2.2.2.1, x.1.2.2.2.2.2.1, x.1.2.2.2.2.2.2.1, x.1.2.2.2.2.2.2.2.1, v)), x.2)
abbrev VS.jch (x : VS) : Bool := x.2.1.1.1
abbrev VS.s_jch (x : VS) (v : Bool) : VS := (x.1, ((v, x.2.1.1.2), x.2.1.2), x.2.2)
abbrev VS.hA (x : VS) : Nat → Nat := x.2.1.1.2.1
abbrev VS.s_hA (x : VS) (v : Nat → Nat) : VS := (x.1, ((x.2.1.1.1, v, x.2.1.1.2.2), x.2.1.2), x.2.2)
abbrev VS.hN (x : VS) : Nat := x.2.1.1.2.2.1
abbrev VS.s_hN (x : VS) (v : Nat) : VS := (x.1, ((x.2.1.1.1, x.2.1.1.2.1, v, x.2.1.1.2.2.2), x.2.1.2), x.2.2)
abbrev VS.hO (x : VS) : Nat → Nat := x.2.1.1.2.2.2.1
abbrev VS.s_hO (x : VS) (v : Nat → Nat) : VS := (x.1, ((x.2.1.1.1, x.2.1.1.2.1, x.2.1.1.2.2.1, v, x.2.1.1.2.2.2.2), x.2.1.2), x.2.2)
abbrev VS.hT (x : VS) : Nat → Int64 := x.2.1.1.2.2.2.2
abbrev VS.s_hT (x : VS) (v : Nat → Int64) : VS := (x.1, ((x.2.1.1.1, x.2.1.1.2.1, x.2.1.1.2.2.1, x.2.1.1.2.2.2.1, v), x.2.1.2), x.2.2)
abbrev VS.hV (x : VS) : Nat → Int64 := x.2.1.2.1.1
abbrev VS.s_hV (x : VS) (v : Nat → Int64) : VS := (x.1, (x.2.1.1, (v, x.2.1.2.1.2), x.2.1.2.2), x.2.2)
abbrev VS.hsize (x : VS) : Nat := x.2.1.2.1.2.1
abbrev VS.s_hsize (x : VS) (v : Nat) : VS := (x.1, (x.2.1.1, (x.2.1.2.1.1, v, x.2.1.2.1.2.2), x.2.1.2.2), x.2.2)
abbrev VS.gA (x : VS) : Nat → Nat := x.2.1.2.1.2.2.1
abbrev VS.s_gA (x : VS) (v : Nat → Nat) : VS := (x.1, (x.2.1.1, (x.2.1.2.1.1, x.2.1.2.1.2.1, v, x.2.1.2.1.2.2.2), x.2.1.2.2), x.2.2)
abbrev VS.gN (x : VS) : Nat := x.2.1.2.1.2.2.2.1
abbrev VS.s_gN (x : VS) (v : Nat) : VS := (x.1, (x.2.1.1, (x.2.1.2.1.1, x.2.1.2.1.2.1, x.2.1.2.1.2.2.1, v, x.2.1.2.1.2.2.2.2), x.2.1.2.2), x.2.2)
abbrev VS.gO (x : VS) : Nat → Nat := x.2.1.2.1.2.2.2.2
abbrev VS.s_gO (x : VS) (v : Nat → Nat) : VS := (x.1, (x.2.1.1, (x.2.1.2.1.1, x.2.1.2.1.2.1, x.2.1.2.1.2.2.1, x.2.1.2.1.2.2.2.1, v), x.2.1.2.2), x.2.2)
abbrev VS.gT (x : VS) : Nat → Int64 := x.2.1.2.2.1.1
abbrev VS.s_gT (x : VS) (v : Nat → Int64) : VS := (x.1, (x.2.1.1, x.2.1.2.1, (v, x.2.1.2.2.1.2), x.2.1.2.2.2), x.2.2)
abbrev VS.gV (x : VS) : Nat → Int64 := x.2.1.2.2.1.2.1
abbrev VS.s_gV (x : VS) (v : Nat → Int64) : VS := (x.1, (x.2.1.1, x.2.1.2.1, (x.2.1.2.2.1.1, v, x.2.1.2.2.1.2.2), x.2.1.2.2.2), x.2.2)
abbrev VS.gsize (x : VS) : Nat := x.2.1.2.2.1.2.2.1
abbrev VS.s_gsize (x : VS) (v : Nat) : VS := (x.1, (x.2.1.1, x.2.1.2.1, (x.2.1.2.2.1.1, x.2.1.2.2.1.2.1, v, x.2.1.2.2.1.2.2.2), x.2.1.2.2.2), x.2.2)
abbrev VS.nP (x : VS) : Nat → Option Nat := x.2.1.2.2.1.2.2.2.1
abbrev VS.s_nP (x : VS) (v : Nat → Option Nat) : VS := (x.1, (x.2.1.1, x.2.1.2.1, (x.2.1.2.2.1.1, x.2.1.2.2.1.2.1, x.2.1.2.2.1.2.2.1, v, x.2.1.2.2.1.2.2.2.2), x.2.1.2.2.2), x.2.2)
abbrev VS.npc (x : VS) : Nat := x.2.1.2.2.1.2.2.2.2
abbrev VS.s_npc (x : VS) (v : Nat) : VS := (x.1, (x.2.1.1, x.2.1.2.1, (x.2.1.2.2.1.1, x.2.1.2.2.1.2.1, x.2.1.2.2.1.2.2.1, x.2.1.2.2.1.2.2.2.1, v), x.2.1.2.2.2), x.2.2)
abbrev VS.nsO (x : VS) : Nat → Nat := x.2.1.2.2.2.1.1
abbrev VS.s_nsO (x : VS) (v : Nat → Nat) : VS := (x.1, (x.2.1.1, x.2.1.2.1, x.2.1.2.2.1, (v, x.2.1.2.2.2.1.2), x.2.1.2.2.2.2), x.2.2)
abbrev VS.nsF (x : VS) : Nat → Int64 := x.2.1.2.2.2.1.2.1
abbrev VS.s_nsF (x : VS) (v : Nat → Int64) : VS := (x.1, (x.2.1.1, x.2.1.2.1, x.2.1.2.2.1, (x.2.1.2.2.2.1.1, v, x.2.1.2.2.2.1.2.2), x.2.1.2.2.2.2), x.2.2)
abbrev VS.nsT (x : VS) : Nat → Int64 := x.2.1.2.2.2.1.2.2.1
abbrev VS.s_nsT (x : VS) (v : Nat → Int64) : VS := (x.1, (x.2.1.1, x.2.1.2.1, x.2.1.2.2.1, (x.2.1.2.2.2.1.1, x.2.1.2.2.2.1.2.1, v, x.2.1.2.2.2.1.2.2.2), x.2.1.2.2.2.2), x.2.2)
abbrev VS.nsP (x : VS) : Nat → Nat := x.2.1.2.2.2.1.2.2.2.1
abbrev VS.s_nsP (x : VS) (v : Nat → Nat) : VS := (x.1, (x.2.1.1, x.2.1.2.1, x.2.1.2.2.1, (x.2.1.2.2.2.1.1, x.2.1.2.2.2.1.2.1, x.2.1.2.2.2.1.2.2.1, v, x.2.1.2.2.2.1.2.2.2.2), x.2.1.2.2.2.2), x.2.2)
abbrev VS.nsc (x : VS) : Nat := x.2.1.2.2.2.1.2.2.2.2
abbrev VS.s_nsc (x : VS) (v : Nat) : VS := (x.1, (x.2.1.1, x.2.1.2.1, x.2.1.2.2.1, (x.2.1.2.2.2.1.1, x.2.1.2.2.2.1.2.1, x.2.1.2.2.2.1.2.2.1, x.2.1.2.2.2.1.2.2.2.1, v), x.2.1.2.2.2.2), x.2.2)
abbrev VS.nhor (x : VS) : Int64 := x.2.1.2.2.2.2.1
abbrev VS.s_nhor (x : VS) (v : Int64) : VS := (x.1, (x.2.1.1, x.2.1.2.1, x.2.1.2.2.1, x.2.1.2.2.2.1, (v, x.2.1.2.2.2.2.2)), x.2.2)
abbrev VS.nser (x : VS) : Nat := x.2.1.2.2.2.2.2.1
abbrev VS.s_nser (x : VS) (v : Nat) : VS := (x.1, (x.2.1.1, x.2.1.2.1, x.2.1.2.2.1, x.2.1.2.2.2.1, (x.2.1.2.2.2.2.1, v, x.2.1.2.2.2.2.2.2)), x.2.2)
abbrev VS.nlast (x : VS) : Nat → Int64 := x.2.1.2.2.2.2.2.2.1
abbrev VS.s_nlast (x : VS) (v : Nat → Int64) : VS := (x.1, (x.2.1.1, x.2.1.2.1, x.2.1.2.2.1, x.2.1.2.2.2.1, (x.2.1.2.2.2.2.1, x.2.1.2.2.2.2.2.1, v, x.2.1.2.2.2.2.2.2.2)), x.2.2)
abbrev VS.ncat (x : VS) : Nat := x.2.1.2.2.2.2.2.2.2.1
abbrev VS.s_ncat (x : VS) (v : Nat) : VS := (x.1, (x.2.1.1, x.2.1.2.1, x.2.1.2.2.1, x.2.1.2.2.2.1, (x.2.1.2.2.2.2.1, x.2.1.2.2.2.2.2.1, x.2.1.2.2.2.2.2.2.1, v, x.2.1.2.2.2.2.2.2.2.2)), x.2.2)
abbrev VS.sP (x : VS) : Nat → Option Nat := x.2.1.2.2.2.2.2.2.2.2
abbrev VS.s_sP (x : VS) (v : Nat → Option Nat) : VS := (x.1, (x.2.1.1, x.2.1.2.1, x.2.1.2.2.1, x.2.1.2.2.2.1, (x.2.1.2.2.2.2.1, x.2.1.2.2.2.2.2.1, x.2.1.2.2.2.2.2.2.1, x.2.1.2.2.2.2.2.2.2.1, v)), x.2.2)
abbrev VS.spc (x : VS) : Nat := x.2.2.1.1.1
abbrev VS.s_spc (x : VS) (v : Nat) : VS := (x.1, x.2.1, ((v, x.2.2.1.1.2), x.2.2.1.2), x.2.2.2)
abbrev VS.ssO (x : VS) : Nat → Nat := x.2.2.1.1.2.1
abbrev VS.s_ssO (x : VS) (v : Nat → Nat) : VS := (x.1, x.2.1, ((x.2.2.1.1.1, v, x.2.2.1.1.2.2), x.2.2.1.2), x.2.2.2)
abbrev VS.ssF (x : VS) : Nat → Int64 := x.2.2.1.1.2.2.1
abbrev VS.s_ssF (x : VS) (v : Nat → Int64) : VS := (x.1, x.2.1, ((x.2.2.1.1.1, x.2.2.1.1.2.1, v, x.2.2.1.1.2.2.2), x.2.2.1.2), x.2.2.2)
abbrev VS.ssT (x : VS) : Nat → Int64 := x.2.2.1.1.2.2.2.1
abbrev VS.s_ssT (x : VS) (v : Nat → Int64) : VS := (x.1, x.2.1, ((x.2.2.1.1.1, x.2.2.1.1.2.1, x.2.2.1.1.2.2.1, v, x.2.2.1.1.2.2.2.2), x.2.2.1.2), x.2.2.2)
abbrev VS.ssP (x : VS) : Nat → Nat := x.2.2.1.1.2.2.2.2
abbrev VS.s_ssP (x : VS) (v : Nat → Nat) : VS := (x.1, x.2.1, ((x.2.2.1.1.1, x.2.2.1.1.2.1, x.2.2.1.1.2.2.1, x.2.2.1.1.2.2.2.1, v), x.2.2.1.2), x.2.2.2)
abbrev VS.ssc (x : VS) : Nat := x.2.2.1.2.1.1
abbrev VS.s_ssc (x : VS) (v : Nat) : VS := (x.1, x.2.1, (x.2.2.1.1, (v, x.2.2.1.2.1.2), x.2.2.1.2.2), x.2.2.2)
abbrev VS.shor (x : VS) : Int64 := x.2.2.1.2.1.2.1
abbrev VS.s_shor (x : VS) (v : Int64) : VS := (x.1, x.2.1, (x.2.2.1.1, (x.2.2.1.2.1.1, v, x.2.2.1.2.1.2.2), x.2.2.1.2.2), x.2.2.2)
abbrev VS.sser (x : VS) : Nat := x.2.2.1.2.1.2.2.1
abbrev VS.s_sser (x : VS) (v : Nat) : VS := (x.1, x.2.1, (x.2.2.1.1, (x.2.2.1.2.1.1, x.2.2.1.2.1.2.1, v, x.2.2.1.2.1.2.2.2), x.2.2.1.2.2), x.2.2.2)
abbrev VS.slast (x : VS) : Nat → Int64 := x.2.2.1.2.1.2.2.2.1
abbrev VS.s_slast (x : VS) (v : Nat → Int64) : VS := (x.1, x.2.1, (x.2.2.1.1, (x.2.2.1.2.1.1, x.2.2.1.2.1.2.1, x.2.2.1.2.1.2.2.1, v, x.2.2.1.2.1.2.2.2.2), x.2.2.1.2.2), x.2.2.2)
abbrev VS.scat (x : VS) : Nat := x.2.2.1.2.1.2.2.2.2
abbrev VS.s_scat (x : VS) (v : Nat) : VS := (x.1, x.2.1, (x.2.2.1.1, (x.2.2.1.2.1.1, x.2.2.1.2.1.2.1, x.2.2.1.2.1.2.2.1, x.2.2.1.2.1.2.2.2.1, v), x.2.2.1.2.2), x.2.2.2)
abbrev VS.kn (x : VS) : Nat → Option Nat := x.2.2.1.2.2.1.1
abbrev VS.s_kn (x : VS) (v : Nat → Option Nat) : VS := (x.1, x.2.1, (x.2.2.1.1, x.2.2.1.2.1, (v, x.2.2.1.2.2.1.2), x.2.2.1.2.2.2), x.2.2.2)
abbrev VS.rS (x : VS) : Nat → Nat := x.2.2.1.2.2.1.2.1
abbrev VS.s_rS (x : VS) (v : Nat → Nat) : VS := (x.1, x.2.1, (x.2.2.1.1, x.2.2.1.2.1, (x.2.2.1.2.2.1.1, v, x.2.2.1.2.2.1.2.2), x.2.2.1.2.2.2), x.2.2.2)
abbrev VS.rE (x : VS) : Nat → Nat := x.2.2.1.2.2.1.2.2.1
abbrev VS.s_rE (x : VS) (v : Nat → Nat) : VS := (x.1, x.2.1, (x.2.2.1.1, x.2.2.1.2.1, (x.2.2.1.2.2.1.1, x.2.2.1.2.2.1.2.1, v, x.2.2.1.2.2.1.2.2.2), x.2.2.1.2.2.2), x.2.2.2)
abbrev VS.rV (x : VS) : Nat → Nat := x.2.2.1.2.2.1.2.2.2.1
abbrev VS.s_rV (x : VS) (v : Nat → Nat) : VS := (x.1, x.2.1, (x.2.2.1.1, x.2.2.1.2.1, (x.2.2.1.2.2.1.1, x.2.2.1.2.2.1.2.1, x.2.2.1.2.2.1.2.2.1, v, x.2.2.1.2.2.1.2.2.2.2), x.2.2.1.2.2.2), x.2.2.2)
abbrev VS.rlab (x : VS) : Nat := x.2.2.1.2.2.1.2.2.2.2
abbrev VS.s_rlab (x : VS) (v : Nat) : VS := (x.1, x.2.1, (x.2.2.1.1, x.2.2.1.2.1, (x.2.2.1.2.2.1.1, x.2.2.1.2.2.1.2.1, x.2.2.1.2.2.1.2.2.1, x.2.2.1.2.2.1.2.2.2.1, v), x.2.2.1.2.2.2), x.2.2.2)
abbrev VS.rcode (x : VS) : Int32 := x.2.2.1.2.2.2.1.1
abbrev VS.s_rcode (x : VS) (v : Int32) : VS := (x.1, x.2.1, (x.2.2.1.1, x.2.2.1.2.1, x.2.2.1.2.2.1, (v, x.2.2.1.2.2.2.1.2), x.2.2.1.2.2.2.2), x.2.2.2)
abbrev VS.rplace (x : VS) : Int32 := x.2.2.1.2.2.2.1.2.1
abbrev VS.s_rplace (x : VS) (v : Int32) : VS := (x.1, x.2.1, (x.2.2.1.1, x.2.2.1.2.1, x.2.2.1.2.2.1, (x.2.2.1.2.2.2.1.1, v, x.2.2.1.2.2.2.1.2.2), x.2.2.1.2.2.2.2), x.2.2.2)
abbrev VS.qtp (x : VS) : Nat := x.2.2.1.2.2.2.1.2.2.1
abbrev VS.s_qtp (x : VS) (v : Nat) : VS := (x.1, x.2.1, (x.2.2.1.1, x.2.2.1.2.1, x.2.2.1.2.2.1, (x.2.2.1.2.2.2.1.1, x.2.2.1.2.2.2.1.2.1, v, x.2.2.1.2.2.2.1.2.2.2), x.2.2.1.2.2.2.2), x.2.2.2)
abbrev VS.qlen (x : VS) : Nat := x.2.2.1.2.2.2.1.2.2.2.1
abbrev VS.s_qlen (x : VS) (v : Nat) : VS := (x.1, x.2.1, (x.2.2.1.1, x.2.2.1.2.1, x.2.2.1.2.2.1, (x.2.2.1.2.2.2.1.1, x.2.2.1.2.2.2.1.2.1, x.2.2.1.2.2.2.1.2.2.1, v, x.2.2.1.2.2.2.1.2.2.2.2), x.2.2.1.2.2.2.2), x.2.2.2)
abbrev VS.qk (x : VS) : Int32 := x.2.2.1.2.2.2.1.2.2.2.2
abbrev VS.s_qk (x : VS) (v : Int32) : VS := (x.1, x.2.1, (x.2.2.1.1, x.2.2.1.2.1, x.2.2.1.2.2.1, (x.2.2.1.2.2.2.1.1, x.2.2.1.2.2.2.1.2.1, x.2.2.1.2.2.2.1.2.2.1, x.2.2.1.2.2.2.1.2.2.2.1, v), x.2.2.1.2.2.2.2), x.2.2.2)
abbrev VS.qst (x : VS) : Nat := x.2.2.1.2.2.2.2.1
abbrev VS.s_qst (x : VS) (v : Nat) : VS := (x.1, x.2.1, (x.2.2.1.1, x.2.2.1.2.1, x.2.2.1.2.2.1, x.2.2.1.2.2.2.1, (v, x.2.2.1.2.2.2.2.2)), x.2.2.2)
abbrev VS.qen (x : VS) : Nat := x.2.2.1.2.2.2.2.2.1
abbrev VS.s_qen (x : VS) (v : Nat) : VS := (x.1, x.2.1, (x.2.2.1.1, x.2.2.1.2.1, x.2.2.1.2.2.1, x.2.2.1.2.2.2.1, (x.2.2.1.2.2.2.2.1, v, x.2.2.1.2.2.2.2.2.2)), x.2.2.2)
abbrev VS.qnum (x : VS) : Int64 := x.2.2.1.2.2.2.2.2.2.1
abbrev VS.s_qnum (x : VS) (v : Int64) : VS := (x.1, x.2.1, (x.2.2.1.1, x.2.2.1.2.1, x.2.2.1.2.2.1, x.2.2.1.2.2.2.1, (x.2.2.1.2.2.2.2.1, x.2.2.1.2.2.2.2.2.1, v, x.2.2.1.2.2.2.2.2.2.2)), x.2.2.2)
abbrev VS.qcode (x : VS) : Int32 := x.2.2.1.2.2.2.2.2.2.2.1
abbrev VS.s_qcode (x : VS) (v : Int32) : VS := (x.1, x.2.1, (x.2.2.1.1, x.2.2.1.2.1, x.2.2.1.2.2.1, x.2.2.1.2.2.2.1, (x.2.2.1.2.2.2.2.1, x.2.2.1.2.2.2.2.2.1, x.2.2.1.2.2.2.2.2.2.1, v, x.2.2.1.2.2.2.2.2.2.2.2)), x.2.2.2)
abbrev VS.qpl (x : VS) : Int32 := x.2.2.1.2.2.2.2.2.2.2.2
abbrev VS.s_qpl (x : VS) (v : Int32) : VS := (x.1, x.2.1, (x.2.2.1.1, x.2.2.1.2.1, x.2.2.1.2.2.1, x.2.2.1.2.2.2.1, (x.2.2.1.2.2.2.2.1, x.2.2.1.2.2.2.2.2.1, x.2.2.1.2.2.2.2.2.2.1, x.2.2.1.2.2.2.2.2.2.2.1, v)), x.2.2.2)
abbrev VS.adep (x : VS) : Nat := x.2.2.2.1.1
abbrev VS.s_adep (x : VS) (v : Nat) : VS := (x.1, x.2.1, x.2.2.1, ((v, x.2.2.2.1.2), x.2.2.2.2))
abbrev VS.aro (x : VS) : Nat → Int32 := x.2.2.2.1.2.1
abbrev VS.s_aro (x : VS) (v : Nat → Int32) : VS := (x.1, x.2.1, x.2.2.1, ((x.2.2.2.1.1, v, x.2.2.2.1.2.2), x.2.2.2.2))
abbrev VS.ahb (x : VS) : Nat → Bool := x.2.2.2.1.2.2.1
abbrev VS.s_ahb (x : VS) (v : Nat → Bool) : VS := (x.1, x.2.1, x.2.2.1, ((x.2.2.2.1.1, x.2.2.2.1.2.1, v, x.2.2.2.1.2.2.2), x.2.2.2.2))
abbrev VS.abf (x : VS) : Nat → Int64 := x.2.2.2.1.2.2.2.1
abbrev VS.s_abf (x : VS) (v : Nat → Int64) : VS := (x.1, x.2.1, x.2.2.1, ((x.2.2.2.1.1, x.2.2.2.1.2.1, x.2.2.2.1.2.2.1, v, x.2.2.2.1.2.2.2.2), x.2.2.2.2))
abbrev VS.bA (x : VS) : Nat → Nat := x.2.2.2.1.2.2.2.2
abbrev VS.s_bA (x : VS) (v : Nat → Nat) : VS := (x.1, x.2.1, x.2.2.1, ((x.2.2.2.1.1, x.2.2.2.1.2.1, x.2.2.2.1.2.2.1, x.2.2.2.1.2.2.2.1, v), x.2.2.2.2))
abbrev VS.bN (x : VS) : Nat := x.2.2.2.2.1.1
abbrev VS.s_bN (x : VS) (v : Nat) : VS := (x.1, x.2.1, x.2.2.1, (x.2.2.2.1, (v, x.2.2.2.2.1.2), x.2.2.2.2.2))
abbrev VS.bT (x : VS) : Nat → Int64 := x.2.2.2.2.1.2.1
abbrev VS.s_bT (x : VS) (v : Nat → Int64) : VS := (x.1, x.2.1, x.2.2.1, (x.2.2.2.1, (x.2.2.2.2.1.1, v, x.2.2.2.2.1.2.2), x.2.2.2.2.2))
abbrev VS.bO (x : VS) : Nat → Nat := x.2.2.2.2.1.2.2.1
abbrev VS.s_bO (x : VS) (v : Nat → Nat) : VS := (x.1, x.2.1, x.2.2.1, (x.2.2.2.1, (x.2.2.2.2.1.1, x.2.2.2.2.1.2.1, v, x.2.2.2.2.1.2.2.2), x.2.2.2.2.2))
abbrev VS.afr (x : VS) : Int64 := x.2.2.2.2.1.2.2.2.1
abbrev VS.s_afr (x : VS) (v : Int64) : VS := (x.1, x.2.1, x.2.2.1, (x.2.2.2.1, (x.2.2.2.2.1.1, x.2.2.2.2.1.2.1, x.2.2.2.2.1.2.2.1, v, x.2.2.2.2.1.2.2.2.2), x.2.2.2.2.2))
abbrev VS.awd (x : VS) : Int64 := x.2.2.2.2.1.2.2.2.2
abbrev VS.s_awd (x : VS) (v : Int64) : VS := (x.1, x.2.1, x.2.2.1, (x.2.2.2.1, (x.2.2.2.2.1.1, x.2.2.2.2.1.2.1, x.2.2.2.2.1.2.2.1, x.2.2.2.2.1.2.2.2.1, v), x.2.2.2.2.2))
abbrev VS.awi (x : VS) : Nat := x.2.2.2.2.2.1
abbrev VS.s_awi (x : VS) (v : Nat) : VS := (x.1, x.2.1, x.2.2.1, (x.2.2.2.1, x.2.2.2.2.1, (v, x.2.2.2.2.2.2)))
abbrev VS.ll (x : VS) : va_W := x.2.2.2.2.2.2.1
abbrev VS.s_ll (x : VS) (v : va_W) : VS := (x.1, x.2.1, x.2.2.1, (x.2.2.2.1, x.2.2.2.2.1, (x.2.2.2.2.2.1, v, x.2.2.2.2.2.2.2)))
abbrev VS.pl (x : VS) : va_W := x.2.2.2.2.2.2.2
abbrev VS.s_pl (x : VS) (v : va_W) : VS := (x.1, x.2.1, x.2.2.1, (x.2.2.2.1, x.2.2.2.2.1, (x.2.2.2.2.2.1, x.2.2.2.2.2.2.1, v)))
/-- the cells of x, the references of y -/
def VWf (dA : Nat → ClassId) (h : Nat) (ad : Nat → Nat) (x y : VS) : va_W := [(h, .inr (0, [.ref y.tpA, .int (nI x.tapeLength), .int x.faultCode, .int x.faultPlace, .int (nI x.diskBlocks), .int (bI x.powered), .int x.cutLeft, .int (nI x.writes), .ref (ad 0), .ref (ad 1), .ref (ad 2), .ref (ad 3), .ref (ad 10), .ref (ad 17), .ref (ad 18), .ref (ad 22), .ref (ad 24), .int (bI x.hasTable)])), (x.tpA, .inl (dA 0, x.tpN, .inl x.tape)), (ad 0, .inr (1, [.ref (y.jA 0), .ref (y.jA 1), .ref (y.jA 2), .ref (y.jA 3), .ref (y.jA 4), .ref (y.jA 5), .int (nI x.jsize), .int (nI x.jkept), .int (nI x.junits), .int (nI x.jlimit), .int (nI x.jblock), .int (nI x.jfill), .int (bI x.jch)])), (x.jA 0, .inl (dA 1, x.jN, .inl (fun z9 => nI (x.jK z9)))), (x.jA 1, .inl (dA 1, x.jN, .inl (fun z9 => nI (x.jO z9)))), (x.jA 2, .inl (dA 1, x.jN, .inl (fun z9 => nI (x.jU z9)))), (x.jA 3, .inl (dA 1, x.jN, .inl (fun z9 => nI (x.jB z9)))), (x.jA 4, .inl (dA 2, x.jN, .inr (.inl x.jF))), (x.jA 5, .inl (dA 2, x.jN, .inr (.inl x.jS))), (ad 1, .inr (2, [.ref (y.hA 0), .ref (y.hA 1), .ref (y.hA 2), .int (nI x.hsize)])), (x.hA 0, .inl (dA 1, x.hN, .inl (fun z9 => nI (x.hO z9)))), (x.hA 1, .inl (dA 2, x.hN, .inr (.inl x.hT))), (x.hA 2, .inl (dA 2, x.hN, .inr (.inl x.hV))), (ad 2, .inr (2, [.ref (y.gA 0), .ref (y.gA 1), .ref (y.gA 2), .int (nI x.gsize)])), (x.gA 0, .inl (dA 1, x.gN, .inl (fun z9 => nI (x.gO z9)))), (x.gA 1, .inl (dA 2, x.gN, .inr (.inl x.gT))), (x.gA 2, .inl (dA 2, x.gN, .inr (.inl x.gV))), (ad 3, .inr (3, [.ref (ad 4), .int (nI x.npc), .ref (ad 5), .ref (ad 6), .ref (ad 7), .ref (ad 8), .int (nI x.nsc), .long x.nhor, .int (nI x.nser), .ref (ad 9), .int (nI x.ncat)])), (ad 4, .inl (dA 4, 32, .inr (.inr (.inr (.inr x.nP))))), (ad 5, .inl (dA 1, 64, .inl (fun z9 => nI (x.nsO z9)))), (ad 6, .inl (dA 2, 64, .inr (.inl x.nsF))), (ad 7, .inl (dA 2, 64, .inr (.inl x.nsT))), (ad 8, .inl (dA 1, 64, .inl (fun z9 => nI (x.nsP z9)))), (ad 9, .inl (dA 2, 256, .inr (.inl x.nlast))), (ad 10, .inr (3, [.ref (ad 11), .int (nI x.spc), .ref (ad 12), .ref (ad 13), .ref (ad 14), .ref (ad 15), .int (nI x.ssc), .long x.shor, .int (nI x.sser), .ref (ad 16), .int (nI x.scat)])), (ad 11, .inl (dA 4, 32, .inr (.inr (.inr (.inr x.sP))))), (ad 12, .inl (dA 1, 64, .inl (fun z9 => nI (x.ssO z9)))), (ad 13, .inl (dA 2, 64, .inr (.inl x.ssF))), (ad 14, .inl (dA 2, 64, .inr (.inl x.ssT))), (ad 15, .inl (dA 1, 64, .inl (fun z9 => nI (x.ssP z9)))), (ad 16, .inl (dA 2, 256, .inr (.inl x.slast))), (ad 17, .inl (dA 5, 256, .inr (.inr (.inr (.inr x.kn))))), (ad 18, .inr (4, [.ref (ad 19), .ref (ad 20), .ref (ad 21), .int (nI x.rlab), .int x.rcode, .int x.rplace])), (ad 19, .inl (dA 1, 6, .inl (fun z9 => nI (x.rS z9)))), (ad 20, .inl (dA 1, 6, .inl (fun z9 => nI (x.rE z9)))), (ad 21, .inl (dA 1, 6, .inl (fun z9 => nI (x.rV z9)))), (ad 22, .inr (5, [.ref y.qtp, .int (nI x.qlen), .int x.qk, .int (nI x.qst), .int (nI x.qen), .long x.qnum, .int x.qcode, .int x.qpl, .ref (ad 23)])), (ad 24, .inr (7, [.ref (ad 25), .int (nI x.adep), .ref (ad 26), .ref (ad 27), .ref (ad 28), .ref (y.bA 0), .ref (y.bA 1), .long x.afr, .long x.awd, .int (nI x.awi)])), (ad 26, .inl (dA 1, 256, .inl x.aro)), (ad 27, .inl (dA 3, 256, .inl (fun z9 => bI (x.ahb z9)))), (ad 28, .inl (dA 2, 256, .inr (.inl x.abf))), (x.bA 0, .inl (dA 2, x.bN, .inr (.inl x.bT))), (x.bA 1, .inl (dA 1, x.bN, .inl (fun z9 => nI (x.bO z9))))] ++ (x.ll ++ x.pl)
def VW (dA : Nat → ClassId) (h : Nat) (ad : Nat → Nat) (x : VS) : va_W := VWf dA h ad x x
theorem cvPv {D : va_G} {dA : Nat → ClassId} {h : Nat} {ad : Nat → Nat} {H : Heap} {x y : VS} (e : x = y) (hP : va_P D vwCl (VW dA h ad x) H) : va_P D vwCl (VW dA h ad y) H := e ▸ hP
theorem cvDv {A : Nat → Prop} {dA : Nat → ClassId} {h : Nat} {ad : Nat → Nat} {x y : VS} (e : x = y) (hD : va_D A (VW dA h ad x)) : va_D A (VW dA h ad y) := e ▸ hD
theorem nd_of : ∀ {l : List Nat}, l.Nodup → va_nd l = true
  | [], _ => rfl
  | a :: l, h => by
    have h1 := List.nodup_cons.mp h
    show (decide (a ∉ l) && va_nd l) = true
    rw [nd_of h1.2, Bool.and_true]
    exact decide_eq_true h1.1
section JP
variable {p : Program} {l : Launch} {e : Env} {R : Room} {s : State} {m : MethodId} {args : Array Value} {below : List Frame} {meth : Method} {c : Code} {H : Heap} {locs : List Loc} {cells slots : Nat} {Q : State → Prop}
variable {D : va_G} {dA : Nat → ClassId} {A : Nat → Prop} {cc : ByteArray} {pc : Nat} {ls : Array Slot} {rest st0 : List Value} {ws : va_W} {a : Nat}
theorem jpV {mc ms : Nat} {S : Type} {post : S → Prop} {a : Array Value} (hr : va_Run p l e R s m args below meth c H locs cells slots mc ms (F0 m pc ls st0) rest (va_Qv post (fun _ t => bW D (va_A [] H.size) [] t) (va_A [] H.size) a) (va_A [] H.size))
    (hP : va_P D vwCl ws H) (hD : va_D A ws) (hS : va_S A s.heap H locs) (hA : ∀ q, s.heap.size ≤ q → A q)
    (kk : ∀ (u : S) (H1 : Heap) (locs1 : List Loc), post u → va_P D vwCl ws H1 → va_D A ws → va_S A s.heap H1 locs1 → W p l e R s m args below meth c H1 locs1 (cells + mc) (slots + ms) Q (F0 m (pc + 3) ls rest)) : W p l e R s m args below meth c H locs cells slots Q (F0 m pc ls st0) :=
  jnV (w1 := fun _ => []) hr hP hD hS hA [] (List.range ws.length) (wr := ws) rfl (rg_map ws) (nd_of List.nodup_range) (fun _ _ h => nomatch h) (fun u H1 l1 g1 g2 g3 g4 => kk u H1 l1 g1 (by rw [List.append_nil] at g2; exact g2) (by rw [List.append_nil] at g3; exact g3) g4)
theorem jpI {mc ms : Nat} {S : Type} {post : Int32 → S → Prop} {a : Array Value} (hr : va_Run p l e R s m args below meth c H locs cells slots mc ms (F0 m pc ls st0) rest (va_Qi post (fun _ t => bW D (va_A [] H.size) [] t) (va_A [] H.size) a) (va_A [] H.size))
    (hP : va_P D vwCl ws H) (hD : va_D A ws) (hS : va_S A s.heap H locs) (hA : ∀ q, s.heap.size ≤ q → A q)
    (kk : ∀ (r : Int32) (u : S) (H1 : Heap) (locs1 : List Loc), post r u → va_P D vwCl ws H1 → va_D A ws → va_S A s.heap H1 locs1 → W p l e R s m args below meth c H1 locs1 (cells + mc) (slots + ms) Q (F0 m (pc + 3) ls (.int r :: rest))) : W p l e R s m args below meth c H locs cells slots Q (F0 m pc ls st0) :=
  jnI (w1 := fun _ => []) hr hP hD hS hA [] (List.range ws.length) (wr := ws) rfl (rg_map ws) (nd_of List.nodup_range) (fun _ _ h => nomatch h) (fun r u H1 l1 g1 g2 g3 g4 => kk r u H1 l1 g1 (by rw [List.append_nil] at g2; exact g2) (by rw [List.append_nil] at g3; exact g3) g4)
theorem jpL {mc ms : Nat} {S : Type} {post : Int64 → S → Prop} {a : Array Value} (hr : va_Run p l e R s m args below meth c H locs cells slots mc ms (F0 m pc ls st0) rest (va_Ql post (fun _ t => bW D (va_A [] H.size) [] t) (va_A [] H.size) a) (va_A [] H.size))
    (hP : va_P D vwCl ws H) (hD : va_D A ws) (hS : va_S A s.heap H locs) (hA : ∀ q, s.heap.size ≤ q → A q)
    (kk : ∀ (r : Int64) (u : S) (H1 : Heap) (locs1 : List Loc), post r u → va_P D vwCl ws H1 → va_D A ws → va_S A s.heap H1 locs1 → W p l e R s m args below meth c H1 locs1 (cells + mc) (slots + ms) Q (F0 m (pc + 3) ls (.long r :: rest))) : W p l e R s m args below meth c H locs cells slots Q (F0 m pc ls st0) :=
  jnL (w1 := fun _ => []) hr hP hD hS hA [] (List.range ws.length) (wr := ws) rfl (rg_map ws) (nd_of List.nodup_range) (fun _ _ h => nomatch h) (fun r u H1 l1 g1 g2 g3 g4 => kk r u H1 l1 g1 (by rw [List.append_nil] at g2; exact g2) (by rw [List.append_nil] at g3; exact g3) g4)
end JP
theorem fm_range (ws : va_W) : (List.range ws.length).filterMap (fun i => ws[i]?) = ws := by
  have h := congrArg (List.filterMap id) (rg_map ws)
  rw [List.filterMap_map, List.filterMap_map] at h
  have h2 : List.filterMap (id ∘ some) ws = ws := by
    show List.filterMap some ws = ws
    exact List.filterMap_some
  rw [h2] at h
  exact h
section XV
variable {p : Program} {l : Launch} {e : Env} {R : Room} {s : State} {m : MethodId} {args : Array Value} {below : List Frame} {meth : Method} {c : Code} {H : Heap} {locs : List Loc} {cells slots : Nat} {Q : State → Prop}
variable {D : va_G} {dA : Nat → ClassId} {A : Nat → Prop} {cc : ByteArray} {pc : Nat} {ls : Array Slot} {rest st0 : List Value} {ws : va_W}
theorem xEndV (hP : va_P D vwCl ws H) (hD : va_D A ws) (hS : va_S A s.heap H locs) (t : State) (h1 : H.size ≤ t.heap.size) (h2 : ∀ q : Nat, q < H.size → t.heap[q]? = H[q]?) : va_F A s t ∧ bW D A ws t :=
  xEnd hP hD hS (List.range ws.length) (fm_range ws) (rg_map ws) (nd_of List.nodup_range) t h1 h2
theorem xfV {y : MethodName} {bytes : ByteArray} {maxL mc ms n index nL : Nat} {ret : Option FieldType} {rm : Room} {E : String} {w1 : va_W} {own C : String} {T : u_T} {N ci q0 : Nat} {fs : List Value} {b : Nat} {As : List Value}
    (hx : p.tables.exec = Jvm.exec) (hb : c.code = cc) (hml : c.maxLocals = nL) (hown : s.vm.findClass own = some m.cls) (hE : eV s) (hK : va_K D vwCl (arT dA) s) (hN : sK s.heap H)
    (hM : mX l y [Cond.code y bytes maxL ret] rm (pC D dA (.ref b :: As) ws H.size) E (fun st t => va_F (va_A ws H.size) st t ∧ bW D (va_A ws H.size) w1 t) mc ms (va_A ws H.size)) (he : ws[q0]? = some (b, .inr (ci, fs))) (hcl : vwCl[ci]? = some (C, T, N))
    (hc : Cond.code y bytes maxL ret ∈ aW) (hl : Cond.methodLink own index y ∈ aW) (hi : Cond.instanceMethod y ∈ aW) (hse : Cond.selects C y y ∈ aW) (hini : Cond.initialized y.cls ∈ aW) (hrc : rm.cells = mc) (hrs : rm.slots = ms)
    (hd : (y.cls ≠ "java/lang/invoke/MethodHandle" ∧ y.cls ≠ "java/lang/invoke/VarHandle") ∧ (parseMethodDescriptor y.desc).map (fun d => d.parameters.length) = some n) (hR : rm.frames + 1 ≤ R.frames ∧ 8 + (maxL + 11) + rm.locals ≤ R.locals)
    (hn : As.length = n) (hsize : ls.size = nL) (hst : st0 = As.reverse ++ .ref b :: rest) (hW : (rest.map fun v => v.category).sum ≤ 8) (hdg : decode cc pc = .ok (.invokevirtual index, 3)) (hf : cells + mc ≤ R.cells ∧ slots + ms ≤ R.slots)
    (hP : va_P D vwCl ws H) (hD : va_D A ws) (hS : va_S A s.heap H locs) (hA : ∀ q, s.heap.size ≤ q → A q)
    (kk : ∀ (x : Addr) (ce : Cell) (H1 : Heap) (locs1 : List Loc), va_P D vwCl w1 H1 → va_D A w1 → va_S A s.heap H1 locs1 → H1[x]? = some ce → ce.vm = .none → s.vm.findClass E = some ce.cls → wX p l e R s m args below meth c H1 locs1 (cells + mc) (slots + ms) Q (F0 m pc ls rest) x) :
    W p l e R s m args below meth c H locs cells slots Q (F0 m pc ls st0) :=
  xnV hx hb hml hown hE hK hN hP hD hM he hcl hc hl hi hse hini hrc hrs hd hR hn hsize hst hW hdg hf hP hD hS hA (List.range ws.length) [] (wr := []) (rg_map ws) rfl rfl (fun _ h => nomatch h) kk
end XV
end
section
def maxL (a b : Int64) : Int64 := if b < a then a else b
def minL (a b : Int64) : Int64 := if b < a then b else a
set_option maxHeartbeats 4000000 in
set_option maxRecDepth 100000 in
theorem v_written (l : Launch) (D : va_G) (dA : Nat → ClassId) (sz : Nat) (h : Nat) (ad : Nat → Nat) (x : VS) : Met l ⟨"SeriesVault", "written", "()I"⟩ [Cond.code ⟨"SeriesVault", "written", "()I"⟩ prog_1_method_10_code 1 (some FieldType.int)] { frames := 1, cells := 0, slots := 0, locals := 0 } (pC D dA [.ref h] (VW dA h ad x) sz) (va_Qi (fun (r9 : Int32) (u9 : Unit) => r9 = nI x.writes) (fun (u9 : Unit) t9 => bW D (va_A (VW dA h ad x) sz) (VW dA h ad x) t9) (va_A (VW dA h ad x) sz)) 0 0 (va_A (VW dA h ad x) sz) := by
  refine mkC (y := ⟨"SeriesVault", "written", "()I"⟩) (cc := prog_1_method_10_code) (maxL := 1) (av := [.ref h]) (ws := VW dA h ad x) (sz := sz) (Qc := fun A => va_Qi (fun (r9 : Int32) (u9 : Unit) => r9 = nI x.writes) (fun (u9 : Unit) t9 => bW D A (VW dA h ad x) t9) A) (by decide) (Nat.le_of_ble_eq_true rfl) ?_
  intro A p e s m below meth c ls hsz hB
  obtain ⟨hx, hb, hr, hml, hown, hin, hlk, hE, hK, hP, hD, hS, hA, hN, hl⟩ := hB
  have hown : s.vm.findClass "SeriesVault" = some m.cls := hown
  have hl : lv_has ls 1 [(0, .ref h)] := hl
  obtain ⟨H, hH⟩ : ∃ z, z = s.heap := ⟨_, rfl⟩
  have hP : va_P D vwCl (VW dA h ad x) H := by rw [hH]; exact hP
  have hS : va_S A s.heap H [] := by rw [hH]; exact hS
  rw [← hH]
  refine lv_aload_n hx hb d_V_written_0 rfl (lv_at hl 0 rfl) ?_
  refine gF (v := .int (nI x.writes)) hx hb hown hE hK hP 0 rfl rfl layV 7 (by decide) w209 rfl d_V_written_1 ?_
  exact rfI hx hb hr hlk hS () rfl hP hD (Nat.le_of_ble_eq_true rfl) (Nat.le_of_ble_eq_true rfl) d_V_written_4
set_option maxHeartbeats 4000000 in
set_option maxRecDepth 100000 in
theorem v_setFault (l : Launch) (D : va_G) (dA : Nat → ClassId) (sz : Nat) (h : Nat) (ad : Nat → Nat) (x : VS) (a : Int32) (b : Int32) : Met l ⟨"SeriesVault", "setFault", "(II)V"⟩ [Cond.code ⟨"SeriesVault", "setFault", "(II)V"⟩ prog_1_method_7_code 3 none] { frames := 1, cells := 0, slots := 0, locals := 0 } (pC D dA [.ref h, .int a, .int b] (VW dA h ad x) sz) (va_Qv (fun (u9 : Unit) => True) (fun (u9 : Unit) t9 => bW D (va_A (VW dA h ad x) sz) (VW dA h ad (VS.s_faultPlace (VS.s_faultCode x a) b)) t9) (va_A (VW dA h ad x) sz)) 0 0 (va_A (VW dA h ad x) sz) := by
  refine mkC (y := ⟨"SeriesVault", "setFault", "(II)V"⟩) (cc := prog_1_method_7_code) (maxL := 3) (av := [.ref h, .int a, .int b]) (ws := VW dA h ad x) (sz := sz) (Qc := fun A => va_Qv (fun (u9 : Unit) => True) (fun (u9 : Unit) t9 => bW D A (VW dA h ad (VS.s_faultPlace (VS.s_faultCode x a) b)) t9) A) (by decide) (Nat.le_of_ble_eq_true rfl) ?_
  intro A p e s m below meth c ls hsz hB
  obtain ⟨hx, hb, hr, hml, hown, hin, hlk, hE, hK, hP, hD, hS, hA, hN, hl⟩ := hB
  have hown : s.vm.findClass "SeriesVault" = some m.cls := hown
  have hl : lv_has ls 3 [(0, .ref h), (1, .int a), (2, .int b)] := hl
  obtain ⟨H, hH⟩ : ∃ z, z = s.heap := ⟨_, rfl⟩
  have hP : va_P D vwCl (VW dA h ad x) H := by rw [hH]; exact hP
  have hS : va_S A s.heap H [] := by rw [hH]; exact hS
  rw [← hH]
  refine lv_aload_n hx hb d_V_setFault_0 rfl (lv_at hl 0 rfl) ?_
  refine lv_iload_n hx hb d_V_setFault_1 rfl (lv_at hl 1 rfl) ?_
  refine pF (v := .int a) hx hb hown hE hK hP hD hS 0 rfl rfl layV tyV tokV nmV 2 (by decide) w211 rfl rfl rfl (Nat.le_of_ble_eq_true rfl) d_V_setFault_2 (fun H locs hP hD hS => ?_)
  have hP : va_P D vwCl (VW dA h ad (VS.s_faultCode x a)) H := hP
  have hD : va_D A (VW dA h ad (VS.s_faultCode x a)) := hD
  refine lv_aload_n hx hb d_V_setFault_5 rfl (lv_at hl 0 rfl) ?_
  refine lv_iload_n hx hb d_V_setFault_6 rfl (lv_at hl 2 rfl) ?_
  refine pF (v := .int b) hx hb hown hE hK hP hD hS 0 rfl rfl layV tyV tokV nmV 3 (by decide) w212 rfl rfl rfl (Nat.le_of_ble_eq_true rfl) d_V_setFault_7 (fun H locs hP hD hS => ?_)
  have hP : va_P D vwCl (VW dA h ad (VS.s_faultPlace (VS.s_faultCode x a) b)) H := hP
  have hD : va_D A (VW dA h ad (VS.s_faultPlace (VS.s_faultCode x a) b)) := hD
  exact rfV hx hb hr hlk hS () trivial hP hD (Nat.le_of_ble_eq_true rfl) (Nat.le_of_ble_eq_true rfl) d_V_setFault_10
def isTm (a : Int64) : Bool := !decide (a < 0) && !decide (1099511627775 < a)
set_option maxHeartbeats 4000000 in
set_option maxRecDepth 100000 in
theorem v_isTime (l : Launch) (D : va_G) (dA : Nat → ClassId) (sz : Nat) (a : Int64) : Met l ⟨"SeriesVault", "isTime", "(J)Z"⟩ [Cond.code ⟨"SeriesVault", "isTime", "(J)Z"⟩ prog_1_method_30_code 2 (some FieldType.boolean)] { frames := 1, cells := 0, slots := 0, locals := 0 } (pC D dA [.long a] ([]) sz) (va_Qi (fun (r9 : Int32) (u9 : Unit) => r9 = bI (isTm a)) (fun (u9 : Unit) t9 => bW D (va_A ([]) sz) ([]) t9) (va_A ([]) sz)) 0 0 (va_A ([]) sz) := by
  refine mkC (y := ⟨"SeriesVault", "isTime", "(J)Z"⟩) (cc := prog_1_method_30_code) (maxL := 2) (av := [.long a]) (ws := []) (sz := sz) (Qc := fun A => va_Qi (fun (r9 : Int32) (u9 : Unit) => r9 = bI (isTm a)) (fun (u9 : Unit) t9 => bW D A ([]) t9) A) (by decide) (Nat.le_of_ble_eq_true rfl) ?_
  intro A p e s m below meth c ls hsz hB
  obtain ⟨hx, hb, hr, hml, hown, hin, hlk, hE, hK, hP, hD, hS, hA, hN, hl⟩ := hB
  have hown : s.vm.findClass "SeriesVault" = some m.cls := hown
  have hl : lv_has ls 2 [(0, .long a)] := hl
  obtain ⟨H, hH⟩ : ∃ z, z = s.heap := ⟨_, rfl⟩
  have hP : va_P D vwCl ([]) H := by rw [hH]; exact hP
  have hS : va_S A s.heap H [] := by rw [hH]; exact hS
  rw [← hH]
  refine lv_lload_n hx hb d_V_isTime_0 rfl (lv_at hl 0 rfl) ?_
  refine lv_lconst (v := 0) hx hb d_V_isTime_1 (by decide) ?_
  refine W.lcmp hx hb d_V_isTime_2 ?_
  refine lv_if_lt hx hb d_V_isTime_3 (tgt := 18) rfl (fun g1 => ?_) (fun g1 => ?_)
  · have g1 := (lg_cmp_lt _ _).mp g1
    refine lv_iconst (v := 0) hx hb d_V_isTime_18 (by decide) ?_
    exact rfZ hx hb hr (bI_nar false) hlk hS () (by simp [isTm, bI, *]) hP hD (Nat.le_of_ble_eq_true rfl) (Nat.le_of_ble_eq_true rfl) d_V_isTime_19
  · have g1 := mt (lg_cmp_lt _ _).mpr g1
    refine lv_lload_n hx hb d_V_isTime_6 rfl (lv_at hl 0 rfl) ?_
    refine lv_ldc2 (v := 1099511627775) hx hb hown (hE.t w653 rfl) d_V_isTime_7 ?_
    refine W.lcmp hx hb d_V_isTime_10 ?_
    refine lv_if_gt hx hb d_V_isTime_11 (tgt := 18) rfl (fun g2 => ?_) (fun g2 => ?_)
    · have g2 := (lg_cmp_gt _ _).mp g2
      refine lv_iconst (v := 0) hx hb d_V_isTime_18 (by decide) ?_
      exact rfZ hx hb hr (bI_nar false) hlk hS () (by simp [isTm, bI, *]) hP hD (Nat.le_of_ble_eq_true rfl) (Nat.le_of_ble_eq_true rfl) d_V_isTime_19
    · have g2 := mt (lg_cmp_gt _ _).mpr g2
      refine lv_iconst (v := 1) hx hb d_V_isTime_14 (by decide) ?_
      refine lv_goto hx hb d_V_isTime_15 (tgt := 19) rfl ?_
      exact rfZ hx hb hr (bI_nar true) hlk hS () (by simp [isTm, bI, *]) hP hD (Nat.le_of_ble_eq_true rfl) (Nat.le_of_ble_eq_true rfl) d_V_isTime_19
set_option maxHeartbeats 4000000 in
set_option maxRecDepth 100000 in
theorem v_fault_0 (l : Launch) (D : va_G) (dA : Nat → ClassId) (sz : Nat) (h : Nat) (ad : Nat → Nat) (x : VS) : Met l ⟨"SeriesVault", "fault", "(I)I"⟩ [Cond.code ⟨"SeriesVault", "fault", "(I)I"⟩ prog_1_method_6_code 2 (some FieldType.int)] { frames := 1, cells := 0, slots := 0, locals := 0 } (pC D dA [.ref h, .int 0] (VW dA h ad x) sz) (va_Qi (fun (r9 : Int32) (u9 : Unit) => r9 = x.faultCode) (fun (u9 : Unit) t9 => bW D (va_A (VW dA h ad x) sz) (VW dA h ad x) t9) (va_A (VW dA h ad x) sz)) 0 0 (va_A (VW dA h ad x) sz) := by
  refine mkC (y := ⟨"SeriesVault", "fault", "(I)I"⟩) (cc := prog_1_method_6_code) (maxL := 2) (av := [.ref h, .int 0]) (ws := VW dA h ad x) (sz := sz) (Qc := fun A => va_Qi (fun (r9 : Int32) (u9 : Unit) => r9 = x.faultCode) (fun (u9 : Unit) t9 => bW D A (VW dA h ad x) t9) A) (by decide) (Nat.le_of_ble_eq_true rfl) ?_
  intro A p e s m below meth c ls hsz hB
  obtain ⟨hx, hb, hr, hml, hown, hin, hlk, hE, hK, hP, hD, hS, hA, hN, hl⟩ := hB
  have hown : s.vm.findClass "SeriesVault" = some m.cls := hown
  have hl : lv_has ls 2 [(0, .ref h), (1, .int 0)] := hl
  obtain ⟨H, hH⟩ : ∃ z, z = s.heap := ⟨_, rfl⟩
  have hP : va_P D vwCl (VW dA h ad x) H := by rw [hH]; exact hP
  have hS : va_S A s.heap H [] := by rw [hH]; exact hS
  rw [← hH]
  refine lv_iload_n hx hb d_V_fault_0 rfl (lv_at hl 1 rfl) ?_
  refine lv_if_lt hx hb d_V_fault_1 (tgt := 9) rfl (fun h9 => absurd h9 (by decide)) (fun _ => ?_)
  refine lv_iload_n hx hb d_V_fault_4 rfl (lv_at hl 1 rfl) ?_
  refine lv_iconst (v := 1) hx hb d_V_fault_5 (by decide) ?_
  refine lv_icmp_le hx hb d_V_fault_6 (tgt := 17) rfl (fun _ => ?_) (fun h9 => absurd (by decide) h9)
  refine lv_iload_n hx hb d_V_fault_17 rfl (lv_at hl 1 rfl) ?_
  refine lv_if_ne hx hb d_V_fault_18 (tgt := 28) rfl (fun h9 => absurd (by decide) h9) (fun _ => ?_)
  refine lv_aload_n hx hb d_V_fault_21 rfl (lv_at hl 0 rfl) ?_
  refine gF (v := .int x.faultCode) hx hb hown hE hK hP 0 rfl rfl layV 2 (by decide) w211 rfl d_V_fault_22 ?_
  refine lv_goto hx hb d_V_fault_25 (tgt := 32) rfl ?_
  exact rfI hx hb hr hlk hS () rfl hP hD (Nat.le_of_ble_eq_true rfl) (Nat.le_of_ble_eq_true rfl) d_V_fault_32
set_option maxHeartbeats 4000000 in
set_option maxRecDepth 100000 in
theorem v_fault_1 (l : Launch) (D : va_G) (dA : Nat → ClassId) (sz : Nat) (h : Nat) (ad : Nat → Nat) (x : VS) : Met l ⟨"SeriesVault", "fault", "(I)I"⟩ [Cond.code ⟨"SeriesVault", "fault", "(I)I"⟩ prog_1_method_6_code 2 (some FieldType.int)] { frames := 1, cells := 0, slots := 0, locals := 0 } (pC D dA [.ref h, .int 1] (VW dA h ad x) sz) (va_Qi (fun (r9 : Int32) (u9 : Unit) => r9 = x.faultPlace) (fun (u9 : Unit) t9 => bW D (va_A (VW dA h ad x) sz) (VW dA h ad x) t9) (va_A (VW dA h ad x) sz)) 0 0 (va_A (VW dA h ad x) sz) := by
  refine mkC (y := ⟨"SeriesVault", "fault", "(I)I"⟩) (cc := prog_1_method_6_code) (maxL := 2) (av := [.ref h, .int 1]) (ws := VW dA h ad x) (sz := sz) (Qc := fun A => va_Qi (fun (r9 : Int32) (u9 : Unit) => r9 = x.faultPlace) (fun (u9 : Unit) t9 => bW D A (VW dA h ad x) t9) A) (by decide) (Nat.le_of_ble_eq_true rfl) ?_
  intro A p e s m below meth c ls hsz hB
  obtain ⟨hx, hb, hr, hml, hown, hin, hlk, hE, hK, hP, hD, hS, hA, hN, hl⟩ := hB
  have hown : s.vm.findClass "SeriesVault" = some m.cls := hown
  have hl : lv_has ls 2 [(0, .ref h), (1, .int 1)] := hl
  obtain ⟨H, hH⟩ : ∃ z, z = s.heap := ⟨_, rfl⟩
  have hP : va_P D vwCl (VW dA h ad x) H := by rw [hH]; exact hP
  have hS : va_S A s.heap H [] := by rw [hH]; exact hS
  rw [← hH]
  refine lv_iload_n hx hb d_V_fault_0 rfl (lv_at hl 1 rfl) ?_
  refine lv_if_lt hx hb d_V_fault_1 (tgt := 9) rfl (fun h9 => absurd h9 (by decide)) (fun _ => ?_)
  refine lv_iload_n hx hb d_V_fault_4 rfl (lv_at hl 1 rfl) ?_
  refine lv_iconst (v := 1) hx hb d_V_fault_5 (by decide) ?_
  refine lv_icmp_le hx hb d_V_fault_6 (tgt := 17) rfl (fun _ => ?_) (fun h9 => absurd (by decide) h9)
  refine lv_iload_n hx hb d_V_fault_17 rfl (lv_at hl 1 rfl) ?_
  refine lv_if_ne hx hb d_V_fault_18 (tgt := 28) rfl (fun _ => ?_) (fun h9 => absurd h9 (by decide))
  refine lv_aload_n hx hb d_V_fault_28 rfl (lv_at hl 0 rfl) ?_
  refine gF (v := .int x.faultPlace) hx hb hown hE hK hP 0 rfl rfl layV 3 (by decide) w212 rfl d_V_fault_29 ?_
  exact rfI hx hb hr hlk hS () rfl hP hD (Nat.le_of_ble_eq_true rfl) (Nat.le_of_ble_eq_true rfl) d_V_fault_32
set_option maxHeartbeats 4000000 in
set_option maxRecDepth 100000 in
theorem v_end (l : Launch) (D : va_G) (dA : Nat → ClassId) (sz : Nat) (h : Nat) (ad : Nat → Nat) (x : VS) (j : Nat) (h1 : j ≤ x.tapeLength) (h2 : x.tapeLength ≤ 65536) : Met l ⟨"SeriesVault", "end", "(I)V"⟩ [Cond.code ⟨"SeriesVault", "end", "(I)V"⟩ prog_1_method_4_code 2 none] { frames := 1, cells := 0, slots := 0, locals := 0 } (pC D dA [.ref h, .int (nI j)] (VW dA h ad x) sz) (va_Qv (fun (u9 : Unit) => True) (fun (u9 : Unit) t9 => bW D (va_A (VW dA h ad x) sz) (VW dA h ad (VS.s_tapeLength x j)) t9) (va_A (VW dA h ad x) sz)) 0 0 (va_A (VW dA h ad x) sz) := by
  refine mkC (y := ⟨"SeriesVault", "end", "(I)V"⟩) (cc := prog_1_method_4_code) (maxL := 2) (av := [.ref h, .int (nI j)]) (ws := VW dA h ad x) (sz := sz) (Qc := fun A => va_Qv (fun (u9 : Unit) => True) (fun (u9 : Unit) t9 => bW D A (VW dA h ad (VS.s_tapeLength x j)) t9) A) (by decide) (Nat.le_of_ble_eq_true rfl) ?_
  intro A p e s m below meth c ls hsz hB
  obtain ⟨hx, hb, hr, hml, hown, hin, hlk, hE, hK, hP, hD, hS, hA, hN, hl⟩ := hB
  have hown : s.vm.findClass "SeriesVault" = some m.cls := hown
  have hl : lv_has ls 2 [(0, .ref h), (1, .int (nI j))] := hl
  obtain ⟨H, hH⟩ : ∃ z, z = s.heap := ⟨_, rfl⟩
  have hP : va_P D vwCl (VW dA h ad x) H := by rw [hH]; exact hP
  have hS : va_S A s.heap H [] := by rw [hH]; exact hS
  rw [← hH]
  refine lv_iload_n hx hb d_V_end_0 rfl (lv_at hl 1 rfl) ?_
  refine lv_if_lt hx hb d_V_end_1 (tgt := 12) rfl (fun h9 => absurd h9 (nI_pos (n := j) (by omega))) (fun _ => ?_)
  refine lv_iload_n hx hb d_V_end_4 rfl (lv_at hl 1 rfl) ?_
  refine lv_aload_n hx hb d_V_end_5 rfl (lv_at hl 0 rfl) ?_
  refine gF (v := .int (nI x.tapeLength)) hx hb hown hE hK hP 0 rfl rfl layV 1 (by decide) w259 rfl d_V_end_6 ?_
  refine lv_icmp_le hx hb d_V_end_9 (tgt := 20) rfl (fun _ => ?_) (fun h9 => absurd ((nI_leI (a := j) (b := x.tapeLength) (by omega) (by omega)).mpr h1) h9)
  refine lv_aload_n hx hb d_V_end_20 rfl (lv_at hl 0 rfl) ?_
  refine lv_iload_n hx hb d_V_end_21 rfl (lv_at hl 1 rfl) ?_
  refine pF (v := .int (nI j)) hx hb hown hE hK hP hD hS 0 rfl rfl layV tyV tokV nmV 1 (by decide) w259 rfl rfl rfl (Nat.le_of_ble_eq_true rfl) d_V_end_22 (fun H locs hP hD hS => ?_)
  have hP : va_P D vwCl (VW dA h ad (VS.s_tapeLength x j)) H := hP
  have hD : va_D A (VW dA h ad (VS.s_tapeLength x j)) := hD
  exact rfV hx hb hr hlk hS () trivial hP hD (Nat.le_of_ble_eq_true rfl) (Nat.le_of_ble_eq_true rfl) d_V_end_25
/-- a number laid on the tape -/
def ptT (a : Int32) (f : Nat → Int32) (n : Nat) : Nat → Int32 := va_up (va_up (va_up (va_up f n (a >>> (24 &&& 31)).toInt8.toInt32) (n + 1) (a >>> (16 &&& 31)).toInt8.toInt32) (n + 1 + 1) (a >>> (8 &&& 31)).toInt8.toInt32) (n + 1 + 1 + 1) (a >>> (0 &&& 31)).toInt8.toInt32
set_option maxHeartbeats 4000000 in
set_option maxRecDepth 100000 in
theorem v_putOnTape (l : Launch) (D : va_G) (dA : Nat → ClassId) (sz : Nat) (h : Nat) (ad : Nat → Nat) (x : VS) (a : Int32) (h1 : x.tapeLength + 4 ≤ x.tpN) (h2 : x.tpN ≤ 131072) : Met l ⟨"SeriesVault", "putOnTape", "(I)V"⟩ [Cond.code ⟨"SeriesVault", "putOnTape", "(I)V"⟩ prog_1_method_3_code 3 none] { frames := 1, cells := 0, slots := 0, locals := 0 } (pC D dA [.ref h, .int a] (VW dA h ad x) sz) (va_Qv (fun (u9 : Unit) => True) (fun (u9 : Unit) t9 => bW D (va_A (VW dA h ad x) sz) (VW dA h ad (VS.s_tapeLength (VS.s_tape x (ptT a x.tape x.tapeLength)) (x.tapeLength + 1 + 1 + 1 + 1))) t9) (va_A (VW dA h ad x) sz)) 0 0 (va_A (VW dA h ad x) sz) := by
  refine mkC (y := ⟨"SeriesVault", "putOnTape", "(I)V"⟩) (cc := prog_1_method_3_code) (maxL := 3) (av := [.ref h, .int a]) (ws := VW dA h ad x) (sz := sz) (Qc := fun A => va_Qv (fun (u9 : Unit) => True) (fun (u9 : Unit) t9 => bW D A (VW dA h ad (VS.s_tapeLength (VS.s_tape x (ptT a x.tape x.tapeLength)) (x.tapeLength + 1 + 1 + 1 + 1))) t9) A) (by decide) (Nat.le_of_ble_eq_true rfl) ?_
  intro A p e s m below meth c ls hsz hB
  obtain ⟨hx, hb, hr, hml, hown, hin, hlk, hE, hK, hP, hD, hS, hA, hN, hl⟩ := hB
  have hown : s.vm.findClass "SeriesVault" = some m.cls := hown
  have hl : lv_has ls 3 [(0, .ref h), (1, .int a)] := hl
  obtain ⟨H, hH⟩ : ∃ z, z = s.heap := ⟨_, rfl⟩
  have hP : va_P D vwCl (VW dA h ad x) H := by rw [hH]; exact hP
  have hS : va_S A s.heap H [] := by rw [hH]; exact hS
  rw [← hH]
  refine lv_bipush (v := 24) hx hb d_V_putOnTape_0 (by decide) ?_
  refine lv_istore_n hx hb d_V_putOnTape_2 rfl hl (by decide) rfl (fun ls hl => ?_)
  have hl : lv_has ls 3 [(2, .int 24), (0, .ref h), (1, .int a)] := hl
  refine lv_iload_n hx hb d_V_putOnTape_3 rfl (lv_at hl 0 rfl) ?_
  refine lv_if_lt hx hb d_V_putOnTape_4 (tgt := 36) rfl (fun h9 => absurd h9 (by decide)) (fun _ => ?_)
  refine lv_aload_n hx hb d_V_putOnTape_7 rfl (lv_at hl 1 rfl) ?_
  refine gF (v := .ref x.tpA) hx hb hown hE hK hP 0 rfl rfl layV 0 (by decide) w539 rfl d_V_putOnTape_8 ?_
  refine lv_aload_n hx hb d_V_putOnTape_11 rfl (lv_at hl 1 rfl) ?_
  refine gF (v := .int (nI x.tapeLength)) hx hb hown hE hK hP 0 rfl rfl layV 1 (by decide) w259 rfl d_V_putOnTape_12 ?_
  refine lv_iload_n hx hb d_V_putOnTape_15 rfl (lv_at hl 2 rfl) ?_
  refine lv_iload_n hx hb d_V_putOnTape_16 rfl (lv_at hl 0 rfl) ?_
  refine lv_ishr hx hb d_V_putOnTape_17 ?_
  refine lv_i2b hx hb d_V_putOnTape_18 rfl ?_
  refine nbst (n := x.tpN) hx hb hK hP hD hS 1 0 rfl rfl (x.tapeLength) (by omega) (by omega) ((a >>> (24 &&& 31)).toInt8.toInt32) (pk_vb _) d_V_putOnTape_19 (fun H locs hP hD hS => ?_)
  have hP : va_P D vwCl (VW dA h ad (VS.s_tape x (va_up x.tape x.tapeLength ((a >>> (24 &&& 31)).toInt8.toInt32)))) H := hP
  have hD : va_D A (VW dA h ad (VS.s_tape x (va_up x.tape x.tapeLength ((a >>> (24 &&& 31)).toInt8.toInt32)))) := hD
  refine lv_aload_n hx hb d_V_putOnTape_20 rfl (lv_at hl 1 rfl) ?_
  refine lv_dup hx hb d_V_putOnTape_21 rfl ?_
  refine gF (v := .int (nI x.tapeLength)) hx hb hown hE hK hP 0 rfl rfl layV 1 (by decide) w259 rfl d_V_putOnTape_22 ?_
  refine lv_iconst (v := 1) hx hb d_V_putOnTape_25 (by decide) ?_
  refine lv_iadd hx hb d_V_putOnTape_26 (tpi (y := nI (x.tapeLength + 1)) (nI_add (x.tapeLength) (1)) ?_)
  refine pF (v := .int (nI (x.tapeLength + 1))) hx hb hown hE hK hP hD hS 0 rfl rfl layV tyV tokV nmV 1 (by decide) w259 rfl rfl rfl (Nat.le_of_ble_eq_true rfl) d_V_putOnTape_27 (fun H locs hP hD hS => ?_)
  have hP : va_P D vwCl (VW dA h ad (VS.s_tapeLength (VS.s_tape x (va_up x.tape x.tapeLength ((a >>> (24 &&& 31)).toInt8.toInt32))) (x.tapeLength + 1))) H := hP
  have hD : va_D A (VW dA h ad (VS.s_tapeLength (VS.s_tape x (va_up x.tape x.tapeLength ((a >>> (24 &&& 31)).toInt8.toInt32))) (x.tapeLength + 1))) := hD
  refine lv_iinc (k := 0) (v := 16) hx hb d_V_putOnTape_30 hl rfl (by decide) (by decide) rfl (fun ls hl => ?_)
  have hl : lv_has ls 3 [(2, .int 16), (0, .ref h), (1, .int a)] := hl
  refine lv_goto hx hb d_V_putOnTape_33 (tgt := 3) rfl ?_
  refine lv_iload_n hx hb d_V_putOnTape_3 rfl (lv_at hl 0 rfl) ?_
  refine lv_if_lt hx hb d_V_putOnTape_4 (tgt := 36) rfl (fun h9 => absurd h9 (by decide)) (fun _ => ?_)
  refine lv_aload_n hx hb d_V_putOnTape_7 rfl (lv_at hl 1 rfl) ?_
  refine gF (v := .ref x.tpA) hx hb hown hE hK hP 0 rfl rfl layV 0 (by decide) w539 rfl d_V_putOnTape_8 ?_
  refine lv_aload_n hx hb d_V_putOnTape_11 rfl (lv_at hl 1 rfl) ?_
  refine gF (v := .int (nI (x.tapeLength + 1))) hx hb hown hE hK hP 0 rfl rfl layV 1 (by decide) w259 rfl d_V_putOnTape_12 ?_
  refine lv_iload_n hx hb d_V_putOnTape_15 rfl (lv_at hl 2 rfl) ?_
  refine lv_iload_n hx hb d_V_putOnTape_16 rfl (lv_at hl 0 rfl) ?_
  refine lv_ishr hx hb d_V_putOnTape_17 ?_
  refine lv_i2b hx hb d_V_putOnTape_18 rfl ?_
  refine nbst (n := x.tpN) hx hb hK hP hD hS 1 0 rfl rfl (x.tapeLength + 1) (by omega) (by omega) ((a >>> (16 &&& 31)).toInt8.toInt32) (pk_vb _) d_V_putOnTape_19 (fun H locs hP hD hS => ?_)
  have hP : va_P D vwCl (VW dA h ad (VS.s_tapeLength (VS.s_tape x (va_up (va_up x.tape x.tapeLength ((a >>> (24 &&& 31)).toInt8.toInt32)) (x.tapeLength + 1) ((a >>> (16 &&& 31)).toInt8.toInt32))) (x.tapeLength + 1))) H := hP
  have hD : va_D A (VW dA h ad (VS.s_tapeLength (VS.s_tape x (va_up (va_up x.tape x.tapeLength ((a >>> (24 &&& 31)).toInt8.toInt32)) (x.tapeLength + 1) ((a >>> (16 &&& 31)).toInt8.toInt32))) (x.tapeLength + 1))) := hD
  refine lv_aload_n hx hb d_V_putOnTape_20 rfl (lv_at hl 1 rfl) ?_
  refine lv_dup hx hb d_V_putOnTape_21 rfl ?_
  refine gF (v := .int (nI (x.tapeLength + 1))) hx hb hown hE hK hP 0 rfl rfl layV 1 (by decide) w259 rfl d_V_putOnTape_22 ?_
  refine lv_iconst (v := 1) hx hb d_V_putOnTape_25 (by decide) ?_
  refine lv_iadd hx hb d_V_putOnTape_26 (tpi (y := nI (x.tapeLength + 1 + 1)) (nI_add (x.tapeLength + 1) (1)) ?_)
  refine pF (v := .int (nI (x.tapeLength + 1 + 1))) hx hb hown hE hK hP hD hS 0 rfl rfl layV tyV tokV nmV 1 (by decide) w259 rfl rfl rfl (Nat.le_of_ble_eq_true rfl) d_V_putOnTape_27 (fun H locs hP hD hS => ?_)
  have hP : va_P D vwCl (VW dA h ad (VS.s_tapeLength (VS.s_tape x (va_up (va_up x.tape x.tapeLength ((a >>> (24 &&& 31)).toInt8.toInt32)) (x.tapeLength + 1) ((a >>> (16 &&& 31)).toInt8.toInt32))) (x.tapeLength + 1 + 1))) H := hP
  have hD : va_D A (VW dA h ad (VS.s_tapeLength (VS.s_tape x (va_up (va_up x.tape x.tapeLength ((a >>> (24 &&& 31)).toInt8.toInt32)) (x.tapeLength + 1) ((a >>> (16 &&& 31)).toInt8.toInt32))) (x.tapeLength + 1 + 1))) := hD
  refine lv_iinc (k := 0) (v := 8) hx hb d_V_putOnTape_30 hl rfl (by decide) (by decide) rfl (fun ls hl => ?_)
  have hl : lv_has ls 3 [(2, .int 8), (0, .ref h), (1, .int a)] := hl
  refine lv_goto hx hb d_V_putOnTape_33 (tgt := 3) rfl ?_
  refine lv_iload_n hx hb d_V_putOnTape_3 rfl (lv_at hl 0 rfl) ?_
  refine lv_if_lt hx hb d_V_putOnTape_4 (tgt := 36) rfl (fun h9 => absurd h9 (by decide)) (fun _ => ?_)
  refine lv_aload_n hx hb d_V_putOnTape_7 rfl (lv_at hl 1 rfl) ?_
  refine gF (v := .ref x.tpA) hx hb hown hE hK hP 0 rfl rfl layV 0 (by decide) w539 rfl d_V_putOnTape_8 ?_
  refine lv_aload_n hx hb d_V_putOnTape_11 rfl (lv_at hl 1 rfl) ?_
  refine gF (v := .int (nI (x.tapeLength + 1 + 1))) hx hb hown hE hK hP 0 rfl rfl layV 1 (by decide) w259 rfl d_V_putOnTape_12 ?_
  refine lv_iload_n hx hb d_V_putOnTape_15 rfl (lv_at hl 2 rfl) ?_
  refine lv_iload_n hx hb d_V_putOnTape_16 rfl (lv_at hl 0 rfl) ?_
  refine lv_ishr hx hb d_V_putOnTape_17 ?_
  refine lv_i2b hx hb d_V_putOnTape_18 rfl ?_
  refine nbst (n := x.tpN) hx hb hK hP hD hS 1 0 rfl rfl (x.tapeLength + 1 + 1) (by omega) (by omega) ((a >>> (8 &&& 31)).toInt8.toInt32) (pk_vb _) d_V_putOnTape_19 (fun H locs hP hD hS => ?_)
  have hP : va_P D vwCl (VW dA h ad (VS.s_tapeLength (VS.s_tape x (va_up (va_up (va_up x.tape x.tapeLength ((a >>> (24 &&& 31)).toInt8.toInt32)) (x.tapeLength + 1) ((a >>> (16 &&& 31)).toInt8.toInt32)) (x.tapeLength + 1 + 1) ((a >>> (8 &&& 31)).toInt8.toInt32))) (x.tapeLength + 1 + 1))) H := hP
  have hD : va_D A (VW dA h ad (VS.s_tapeLength (VS.s_tape x (va_up (va_up (va_up x.tape x.tapeLength ((a >>> (24 &&& 31)).toInt8.toInt32)) (x.tapeLength + 1) ((a >>> (16 &&& 31)).toInt8.toInt32)) (x.tapeLength + 1 + 1) ((a >>> (8 &&& 31)).toInt8.toInt32))) (x.tapeLength + 1 + 1))) := hD
  refine lv_aload_n hx hb d_V_putOnTape_20 rfl (lv_at hl 1 rfl) ?_
  refine lv_dup hx hb d_V_putOnTape_21 rfl ?_
  refine gF (v := .int (nI (x.tapeLength + 1 + 1))) hx hb hown hE hK hP 0 rfl rfl layV 1 (by decide) w259 rfl d_V_putOnTape_22 ?_
  refine lv_iconst (v := 1) hx hb d_V_putOnTape_25 (by decide) ?_
  refine lv_iadd hx hb d_V_putOnTape_26 (tpi (y := nI (x.tapeLength + 1 + 1 + 1)) (nI_add (x.tapeLength + 1 + 1) (1)) ?_)
  refine pF (v := .int (nI (x.tapeLength + 1 + 1 + 1))) hx hb hown hE hK hP hD hS 0 rfl rfl layV tyV tokV nmV 1 (by decide) w259 rfl rfl rfl (Nat.le_of_ble_eq_true rfl) d_V_putOnTape_27 (fun H locs hP hD hS => ?_)
  have hP : va_P D vwCl (VW dA h ad (VS.s_tapeLength (VS.s_tape x (va_up (va_up (va_up x.tape x.tapeLength ((a >>> (24 &&& 31)).toInt8.toInt32)) (x.tapeLength + 1) ((a >>> (16 &&& 31)).toInt8.toInt32)) (x.tapeLength + 1 + 1) ((a >>> (8 &&& 31)).toInt8.toInt32))) (x.tapeLength + 1 + 1 + 1))) H := hP
  have hD : va_D A (VW dA h ad (VS.s_tapeLength (VS.s_tape x (va_up (va_up (va_up x.tape x.tapeLength ((a >>> (24 &&& 31)).toInt8.toInt32)) (x.tapeLength + 1) ((a >>> (16 &&& 31)).toInt8.toInt32)) (x.tapeLength + 1 + 1) ((a >>> (8 &&& 31)).toInt8.toInt32))) (x.tapeLength + 1 + 1 + 1))) := hD
  refine lv_iinc (k := 0) (v := 0) hx hb d_V_putOnTape_30 hl rfl (by decide) (by decide) rfl (fun ls hl => ?_)
  have hl : lv_has ls 3 [(2, .int 0), (0, .ref h), (1, .int a)] := hl
  refine lv_goto hx hb d_V_putOnTape_33 (tgt := 3) rfl ?_
  refine lv_iload_n hx hb d_V_putOnTape_3 rfl (lv_at hl 0 rfl) ?_
  refine lv_if_lt hx hb d_V_putOnTape_4 (tgt := 36) rfl (fun h9 => absurd h9 (by decide)) (fun _ => ?_)
  refine lv_aload_n hx hb d_V_putOnTape_7 rfl (lv_at hl 1 rfl) ?_
  refine gF (v := .ref x.tpA) hx hb hown hE hK hP 0 rfl rfl layV 0 (by decide) w539 rfl d_V_putOnTape_8 ?_
  refine lv_aload_n hx hb d_V_putOnTape_11 rfl (lv_at hl 1 rfl) ?_
  refine gF (v := .int (nI (x.tapeLength + 1 + 1 + 1))) hx hb hown hE hK hP 0 rfl rfl layV 1 (by decide) w259 rfl d_V_putOnTape_12 ?_
  refine lv_iload_n hx hb d_V_putOnTape_15 rfl (lv_at hl 2 rfl) ?_
  refine lv_iload_n hx hb d_V_putOnTape_16 rfl (lv_at hl 0 rfl) ?_
  refine lv_ishr hx hb d_V_putOnTape_17 ?_
  refine lv_i2b hx hb d_V_putOnTape_18 rfl ?_
  refine nbst (n := x.tpN) hx hb hK hP hD hS 1 0 rfl rfl (x.tapeLength + 1 + 1 + 1) (by omega) (by omega) ((a >>> (0 &&& 31)).toInt8.toInt32) (pk_vb _) d_V_putOnTape_19 (fun H locs hP hD hS => ?_)
  have hP : va_P D vwCl (VW dA h ad (VS.s_tapeLength (VS.s_tape x (va_up (va_up (va_up (va_up x.tape x.tapeLength ((a >>> (24 &&& 31)).toInt8.toInt32)) (x.tapeLength + 1) ((a >>> (16 &&& 31)).toInt8.toInt32)) (x.tapeLength + 1 + 1) ((a >>> (8 &&& 31)).toInt8.toInt32)) (x.tapeLength + 1 + 1 + 1) ((a >>> (0 &&& 31)).toInt8.toInt32))) (x.tapeLength + 1 + 1 + 1))) H := hP
  have hD : va_D A (VW dA h ad (VS.s_tapeLength (VS.s_tape x (va_up (va_up (va_up (va_up x.tape x.tapeLength ((a >>> (24 &&& 31)).toInt8.toInt32)) (x.tapeLength + 1) ((a >>> (16 &&& 31)).toInt8.toInt32)) (x.tapeLength + 1 + 1) ((a >>> (8 &&& 31)).toInt8.toInt32)) (x.tapeLength + 1 + 1 + 1) ((a >>> (0 &&& 31)).toInt8.toInt32))) (x.tapeLength + 1 + 1 + 1))) := hD
  refine lv_aload_n hx hb d_V_putOnTape_20 rfl (lv_at hl 1 rfl) ?_
  refine lv_dup hx hb d_V_putOnTape_21 rfl ?_
  refine gF (v := .int (nI (x.tapeLength + 1 + 1 + 1))) hx hb hown hE hK hP 0 rfl rfl layV 1 (by decide) w259 rfl d_V_putOnTape_22 ?_
  refine lv_iconst (v := 1) hx hb d_V_putOnTape_25 (by decide) ?_
  refine lv_iadd hx hb d_V_putOnTape_26 (tpi (y := nI (x.tapeLength + 1 + 1 + 1 + 1)) (nI_add (x.tapeLength + 1 + 1 + 1) (1)) ?_)
  refine pF (v := .int (nI (x.tapeLength + 1 + 1 + 1 + 1))) hx hb hown hE hK hP hD hS 0 rfl rfl layV tyV tokV nmV 1 (by decide) w259 rfl rfl rfl (Nat.le_of_ble_eq_true rfl) d_V_putOnTape_27 (fun H locs hP hD hS => ?_)
  have hP : va_P D vwCl (VW dA h ad (VS.s_tapeLength (VS.s_tape x (va_up (va_up (va_up (va_up x.tape x.tapeLength ((a >>> (24 &&& 31)).toInt8.toInt32)) (x.tapeLength + 1) ((a >>> (16 &&& 31)).toInt8.toInt32)) (x.tapeLength + 1 + 1) ((a >>> (8 &&& 31)).toInt8.toInt32)) (x.tapeLength + 1 + 1 + 1) ((a >>> (0 &&& 31)).toInt8.toInt32))) (x.tapeLength + 1 + 1 + 1 + 1))) H := hP
  have hD : va_D A (VW dA h ad (VS.s_tapeLength (VS.s_tape x (va_up (va_up (va_up (va_up x.tape x.tapeLength ((a >>> (24 &&& 31)).toInt8.toInt32)) (x.tapeLength + 1) ((a >>> (16 &&& 31)).toInt8.toInt32)) (x.tapeLength + 1 + 1) ((a >>> (8 &&& 31)).toInt8.toInt32)) (x.tapeLength + 1 + 1 + 1) ((a >>> (0 &&& 31)).toInt8.toInt32))) (x.tapeLength + 1 + 1 + 1 + 1))) := hD
  refine lv_iinc (k := 0) (v := (-8)) hx hb d_V_putOnTape_30 hl rfl (by decide) (by decide) rfl (fun ls hl => ?_)
  have hl : lv_has ls 3 [(2, .int (-8)), (0, .ref h), (1, .int a)] := hl
  refine lv_goto hx hb d_V_putOnTape_33 (tgt := 3) rfl ?_
  refine lv_iload_n hx hb d_V_putOnTape_3 rfl (lv_at hl 0 rfl) ?_
  refine lv_if_lt hx hb d_V_putOnTape_4 (tgt := 36) rfl (fun _ => ?_) (fun h9 => absurd (by decide) h9)
  have e9 : (VS.s_tapeLength (VS.s_tape x (va_up (va_up (va_up (va_up x.tape x.tapeLength ((a >>> (24 &&& 31)).toInt8.toInt32)) (x.tapeLength + 1) ((a >>> (16 &&& 31)).toInt8.toInt32)) (x.tapeLength + 1 + 1) ((a >>> (8 &&& 31)).toInt8.toInt32)) (x.tapeLength + 1 + 1 + 1) ((a >>> (0 &&& 31)).toInt8.toInt32))) (x.tapeLength + 1 + 1 + 1 + 1) : VS) = VS.s_tapeLength (VS.s_tape x (ptT a x.tape x.tapeLength)) (x.tapeLength + 1 + 1 + 1 + 1) := by rw [show (ptT a x.tape x.tapeLength) = (va_up (va_up (va_up (va_up x.tape x.tapeLength ((a >>> (24 &&& 31)).toInt8.toInt32)) (x.tapeLength + 1) ((a >>> (16 &&& 31)).toInt8.toInt32)) (x.tapeLength + 1 + 1) ((a >>> (8 &&& 31)).toInt8.toInt32)) (x.tapeLength + 1 + 1 + 1) ((a >>> (0 &&& 31)).toInt8.toInt32)) from by rfl] <;> rfl
  exact rfV hx hb hr hlk hS () trivial (cvPv e9 hP) (cvDv e9 hD) (Nat.le_of_ble_eq_true rfl) (Nat.le_of_ble_eq_true rfl) d_V_putOnTape_36
theorem d_V_longOnTape_0 : decode prog_1_method_5_code 0 = .ok (.lconst 0, 1) := by decide +kernel
theorem d_V_longOnTape_1 : decode prog_1_method_5_code 1 = .ok (.lstore_n 2, 1) := by decide +kernel
theorem d_V_longOnTape_2 : decode prog_1_method_5_code 2 = .ok (.iconst 0, 1) := by decide +kernel
theorem d_V_longOnTape_3 : decode prog_1_method_5_code 3 = .ok (.istore 4, 2) := by decide +kernel
theorem d_V_longOnTape_5 : decode prog_1_method_5_code 5 = .ok (.iload 4, 2) := by decide +kernel
theorem d_V_longOnTape_7 : decode prog_1_method_5_code 7 = .ok (.bipush 8, 2) := by decide +kernel
theorem d_V_longOnTape_9 : decode prog_1_method_5_code 9 = .ok (.if_icmp .ge 29, 3) := by decide +kernel
theorem d_V_longOnTape_38 : decode prog_1_method_5_code 38 = .ok (.lload_n 2, 1) := by decide +kernel
theorem d_V_longOnTape_39 : decode prog_1_method_5_code 39 = .ok (.lreturn, 1) := by decide +kernel
theorem d_V_longOnTape_12 : decode prog_1_method_5_code 12 = .ok (.lload_n 2, 1) := by decide +kernel
theorem d_V_longOnTape_13 : decode prog_1_method_5_code 13 = .ok (.bipush 8, 2) := by decide +kernel
theorem d_V_longOnTape_15 : decode prog_1_method_5_code 15 = .ok (.lshl, 1) := by decide +kernel
theorem d_V_longOnTape_16 : decode prog_1_method_5_code 16 = .ok (.aload_n 0, 1) := by decide +kernel
theorem d_V_longOnTape_17 : decode prog_1_method_5_code 17 = .ok (.getfield 7, 3) := by decide +kernel
theorem d_V_longOnTape_20 : decode prog_1_method_5_code 20 = .ok (.iload_n 1, 1) := by decide +kernel
theorem d_V_longOnTape_21 : decode prog_1_method_5_code 21 = .ok (.iload 4, 2) := by decide +kernel
theorem d_V_longOnTape_23 : decode prog_1_method_5_code 23 = .ok (.iadd, 1) := by decide +kernel
theorem d_V_longOnTape_24 : decode prog_1_method_5_code 24 = .ok (.baload, 1) := by decide +kernel
theorem d_V_longOnTape_25 : decode prog_1_method_5_code 25 = .ok (.sipush 255, 3) := by decide +kernel
theorem d_V_longOnTape_28 : decode prog_1_method_5_code 28 = .ok (.iand, 1) := by decide +kernel
theorem d_V_longOnTape_29 : decode prog_1_method_5_code 29 = .ok (.i2l, 1) := by decide +kernel
theorem d_V_longOnTape_30 : decode prog_1_method_5_code 30 = .ok (.lor, 1) := by decide +kernel
theorem d_V_longOnTape_31 : decode prog_1_method_5_code 31 = .ok (.lstore_n 2, 1) := by decide +kernel
theorem d_V_longOnTape_32 : decode prog_1_method_5_code 32 = .ok (.iinc 4 1, 3) := by decide +kernel
theorem d_V_longOnTape_35 : decode prog_1_method_5_code 35 = .ok (.goto (-30), 3) := by decide +kernel
set_option maxHeartbeats 4000000 in
set_option maxRecDepth 100000 in
theorem v_longOnTape (l : Launch) (D : va_G) (dA : Nat → ClassId) (sz : Nat) (h : Nat) (ad : Nat → Nat) (x : VS) (q : Nat) (hq : q + 8 ≤ x.tpN) (h2 : x.tpN ≤ 131072) : Met l ⟨"SeriesVault", "longOnTape", "(I)J"⟩ [Cond.code ⟨"SeriesVault", "longOnTape", "(I)J"⟩ prog_1_method_5_code 5 (some FieldType.long)] { frames := 1, cells := 0, slots := 0, locals := 0 } (pC D dA [.ref h, .int (nI q)] (VW dA h ad x) sz) (va_Ql (fun (r9 : Int64) (u9 : Unit) => r9 = numB x.tape q 8) (fun (u9 : Unit) t9 => bW D (va_A (VW dA h ad x) sz) (VW dA h ad x) t9) (va_A (VW dA h ad x) sz)) 0 0 (va_A (VW dA h ad x) sz) := by
  refine mkC (y := ⟨"SeriesVault", "longOnTape", "(I)J"⟩) (cc := prog_1_method_5_code) (maxL := 5) (av := [.ref h, .int (nI q)]) (ws := VW dA h ad x) (sz := sz) (Qc := fun A => va_Ql (fun (r9 : Int64) (u9 : Unit) => r9 = numB x.tape q 8) (fun (u9 : Unit) t9 => bW D A (VW dA h ad x) t9) A) (by decide) (Nat.le_of_ble_eq_true rfl) ?_
  intro A p e s m below meth c ls hsz hB
  obtain ⟨hx, hb, hr, hml, hown, hin, hlk, hE, hK, hP, hD, hS, hA, hN, hl⟩ := hB
  have hown : s.vm.findClass "SeriesVault" = some m.cls := hown
  have hl : lv_has ls 5 [(0, .ref h), (1, .int (nI q))] := hl
  obtain ⟨H, hH⟩ : ∃ z, z = s.heap := ⟨_, rfl⟩
  have hP : va_P D vwCl (VW dA h ad x) H := by rw [hH]; exact hP
  have hS : va_S A s.heap H [] := by rw [hH]; exact hS
  rw [← hH]
  refine lv_lconst (v := 0) hx hb d_V_longOnTape_0 (by decide) ?_
  refine lv_lstore_n hx hb d_V_longOnTape_1 rfl hl (by decide) rfl (fun ls hl => ?_)
  have hl : lv_has ls 5 [(2, .long 0), (0, .ref h), (1, .int (nI q))] := hl
  refine lv_iconst (v := 0) hx hb d_V_longOnTape_2 (by decide) ?_
  refine lv_istore hx hb d_V_longOnTape_3 hl (by decide) rfl (fun ls hl => ?_)
  have hl : lv_has ls 5 [(4, .int 0), (2, .long 0), (0, .ref h), (1, .int (nI q))] := hl
  have L5 : ∀ (k9 : Nat) (k : Nat) (i1 : k ≤ 8) (hk9 : 8 - k = k9), ∀ (H : Heap) (locs : List Loc) (ls : Array Slot) (hP : va_P D vwCl (VW dA h ad x) H) (hD : va_D A (VW dA h ad x)) (hS : va_S A s.heap H locs) (hl : lv_has ls 5 [(4, .int (nI k)), (2, .long (numB x.tape q k)), (1, .int (nI q)), (0, .ref h)]), W p l e ({ frames := 1, cells := 0, slots := 0, locals := 0 } : Room) s m ([.ref h, .int (nI q)] : List Value).toArray below meth c H locs 0 0 (MQ below (va_Ql (fun (r9 : Int64) (u9 : Unit) => r9 = numB x.tape q 8) (fun (u9 : Unit) t9 => bW D A (VW dA h ad x) t9) A) ([.ref h, .int (nI q)] : List Value).toArray s 0 0 A) (F0 m 5 ls []) := by
    intro k9
    induction k9 using Nat.strongRecOn with
    | ind k9 ih5 =>
      intro k i1 hk9 H locs ls hP hD hS hl
      refine lv_iload hx hb d_V_longOnTape_5 (lv_at hl 0 rfl) ?_
      refine lv_bipush (v := 8) hx hb d_V_longOnTape_7 (by decide) ?_
      refine lv_icmp_ge hx hb d_V_longOnTape_9 (tgt := 38) rfl (fun g1 => ?_) (fun g1 => ?_)
      · have g1 := (nI_leI (a := 8) (b := k) (by omega) (by omega)).mp g1
        refine lv_lload_n hx hb d_V_longOnTape_38 rfl (lv_at hl 1 rfl) ?_
        exact rfL hx hb hr hlk hS () (by rw [show k = 8 by omega]) hP hD (Nat.le_of_ble_eq_true rfl) (Nat.le_of_ble_eq_true rfl) d_V_longOnTape_39
      · have g1 := mt (nI_leI (a := 8) (b := k) (by omega) (by omega)).mpr g1
        refine lv_lload_n hx hb d_V_longOnTape_12 rfl (lv_at hl 1 rfl) ?_
        refine lv_bipush (v := 8) hx hb d_V_longOnTape_13 (by decide) ?_
        refine lv_lshl hx hb d_V_longOnTape_15 rfl ?_
        refine lv_aload_n hx hb d_V_longOnTape_16 rfl (lv_at hl 3 rfl) ?_
        refine gF (v := .ref x.tpA) hx hb hown hE hK hP 0 rfl rfl layV 0 (by decide) w539 rfl d_V_longOnTape_17 ?_
        refine lv_iload_n hx hb d_V_longOnTape_20 rfl (lv_at hl 2 rfl) ?_
        refine lv_iload hx hb d_V_longOnTape_21 (lv_at hl 0 rfl) ?_
        refine lv_iadd hx hb d_V_longOnTape_23 (tpi (y := nI (q + k)) (nI_add (q) (k)) ?_)
        refine nbld (f := x.tape) (n := x.tpN) hx hb hK hP 1 0 rfl rfl (q + k) (by omega) (by omega) d_V_longOnTape_24 ?_
        refine lv_sipush (v := 255) hx hb d_V_longOnTape_25 (by decide) ?_
        refine lv_iand hx hb d_V_longOnTape_28 ?_
        refine lv_i2l hx hb d_V_longOnTape_29 rfl ?_
        refine lv_lor hx hb d_V_longOnTape_30 ?_
        refine lv_lstore_n hx hb d_V_longOnTape_31 rfl hl (by decide) rfl (fun ls hl => ?_)
        have hl : lv_has ls 5 [(2, .long (((numB x.tape q k) <<< ((8 : Int32).toInt64 &&& 63)) ||| (((x.tape (q + k)) &&& 255).toInt64))), (4, .int (nI k)), (1, .int (nI q)), (0, .ref h)] := hl
        refine lv_iinc (k := 1) (v := nI (k + 1)) hx hb d_V_longOnTape_32 hl rfl (iincN (k) 1 1 (by decide)) (by decide) rfl (fun ls hl => ?_)
        have hl : lv_has ls 5 [(4, .int (nI (k + 1))), (2, .long (((numB x.tape q k) <<< ((8 : Int32).toInt64 &&& 63)) ||| (((x.tape (q + k)) &&& 255).toInt64))), (1, .int (nI q)), (0, .ref h)] := hl
        refine lv_goto hx hb d_V_longOnTape_35 (tgt := 5) rfl ?_
        exact ih5 _ (by omega) (k + 1) (by omega) rfl H _ ls hP hD hS (lv_sub hl [0, 1, 2, 3] rfl)
  exact L5 _ 0 (by omega) rfl H _ ls hP hD hS (lv_sub hl [0, 1, 3, 2] rfl)
set_option maxHeartbeats 4000000 in
set_option maxRecDepth 100000 in
theorem v_checkPower (l : Launch) (D : va_G) (dA : Nat → ClassId) (sz : Nat) (h : Nat) (ad : Nat → Nat) (x : VS) (ho : x.powered = true) : Met l ⟨"SeriesVault", "checkPower", "()V"⟩ [Cond.code ⟨"SeriesVault", "checkPower", "()V"⟩ prog_1_method_13_code 1 none] { frames := 1, cells := 0, slots := 0, locals := 0 } (pC D dA [.ref h] (VW dA h ad x) sz) (va_Qv (fun (u9 : Unit) => True) (fun (u9 : Unit) t9 => bW D (va_A (VW dA h ad x) sz) (VW dA h ad x) t9) (va_A (VW dA h ad x) sz)) 0 0 (va_A (VW dA h ad x) sz) := by
  refine mkC (y := ⟨"SeriesVault", "checkPower", "()V"⟩) (cc := prog_1_method_13_code) (maxL := 1) (av := [.ref h]) (ws := VW dA h ad x) (sz := sz) (Qc := fun A => va_Qv (fun (u9 : Unit) => True) (fun (u9 : Unit) t9 => bW D A (VW dA h ad x) t9) A) (by decide) (Nat.le_of_ble_eq_true rfl) ?_
  intro A p e s m below meth c ls hsz hB
  obtain ⟨hx, hb, hr, hml, hown, hin, hlk, hE, hK, hP, hD, hS, hA, hN, hl⟩ := hB
  have hown : s.vm.findClass "SeriesVault" = some m.cls := hown
  have hl : lv_has ls 1 [(0, .ref h)] := hl
  obtain ⟨H, hH⟩ : ∃ z, z = s.heap := ⟨_, rfl⟩
  have hP : va_P D vwCl (VW dA h ad x) H := by rw [hH]; exact hP
  have hS : va_S A s.heap H [] := by rw [hH]; exact hS
  rw [← hH]
  refine lv_aload_n hx hb d_V_checkPower_0 rfl (lv_at hl 0 rfl) ?_
  refine gF (v := .int (bI x.powered)) hx hb hown hE hK hP 0 rfl rfl layV 5 (by decide) w275 rfl d_V_checkPower_1 ?_
  refine lv_if_ne hx hb d_V_checkPower_4 (tgt := 15) rfl (fun _ => ?_) (fun h9 => absurd h9 (by rw [ho]; decide))
  exact rfV hx hb hr hlk hS () trivial hP hD (Nat.le_of_ble_eq_true rfl) (Nat.le_of_ble_eq_true rfl) d_V_checkPower_15
theorem d_V_checkSeries_23 : decode prog_1_method_14_code 23 = .ok (.return_, 1) := by decide +kernel
set_option maxHeartbeats 4000000 in
set_option maxRecDepth 100000 in
theorem v_checkSeries (l : Launch) (D : va_G) (dA : Nat → ClassId) (sz : Nat) (h : Nat) (ad : Nat → Nat) (x : VS) (w : Nat) (hw : w < x.nser) (h2 : x.nser ≤ 256) : Met l ⟨"SeriesVault", "checkSeries", "(I)V"⟩ [Cond.code ⟨"SeriesVault", "checkSeries", "(I)V"⟩ prog_1_method_14_code 2 none] { frames := 1, cells := 0, slots := 0, locals := 0 } (pC D dA [.ref h, .int (nI w)] (VW dA h ad x) sz) (va_Qv (fun (u9 : Unit) => True) (fun (u9 : Unit) t9 => bW D (va_A (VW dA h ad x) sz) (VW dA h ad x) t9) (va_A (VW dA h ad x) sz)) 0 0 (va_A (VW dA h ad x) sz) := by
  refine mkC (y := ⟨"SeriesVault", "checkSeries", "(I)V"⟩) (cc := prog_1_method_14_code) (maxL := 2) (av := [.ref h, .int (nI w)]) (ws := VW dA h ad x) (sz := sz) (Qc := fun A => va_Qv (fun (u9 : Unit) => True) (fun (u9 : Unit) t9 => bW D A (VW dA h ad x) t9) A) (by decide) (Nat.le_of_ble_eq_true rfl) ?_
  intro A p e s m below meth c ls hsz hB
  obtain ⟨hx, hb, hr, hml, hown, hin, hlk, hE, hK, hP, hD, hS, hA, hN, hl⟩ := hB
  have hown : s.vm.findClass "SeriesVault" = some m.cls := hown
  have hl : lv_has ls 2 [(0, .ref h), (1, .int (nI w))] := hl
  obtain ⟨H, hH⟩ : ∃ z, z = s.heap := ⟨_, rfl⟩
  have hP : va_P D vwCl (VW dA h ad x) H := by rw [hH]; exact hP
  have hS : va_S A s.heap H [] := by rw [hH]; exact hS
  rw [← hH]
  refine lv_iload_n hx hb d_V_checkSeries_0 rfl (lv_at hl 1 rfl) ?_
  refine lv_if_lt hx hb d_V_checkSeries_1 (tgt := 15) rfl (fun h9 => absurd h9 (nI_pos (n := w) (by omega))) (fun _ => ?_)
  refine lv_iload_n hx hb d_V_checkSeries_4 rfl (lv_at hl 1 rfl) ?_
  refine lv_aload_n hx hb d_V_checkSeries_5 rfl (lv_at hl 0 rfl) ?_
  refine gF (v := .ref (ad 3)) hx hb hown hE hK hP 0 rfl rfl layV 11 (by decide) w297 rfl d_V_checkSeries_6 ?_
  refine gFN (v := .int (nI x.nser)) hx hb hown hE hK hP 17 rfl rfl layH 8 (by decide) w298 rfl d_V_checkSeries_9 ?_
  refine lv_icmp_lt hx hb d_V_checkSeries_12 (tgt := 23) rfl (fun _ => ?_) (fun h9 => absurd ((nI_ltI (a := w) (b := x.nser) (by omega) (by omega)).mpr hw) h9)
  exact rfV hx hb hr hlk hS () trivial hP hD (Nat.le_of_ble_eq_true rfl) (Nat.le_of_ble_eq_true rfl) d_V_checkSeries_23
theorem d_V_writeBlock_32 : decode prog_1_method_15_code 32 = .ok (.aload_n 0, 1) := by decide +kernel
theorem d_V_writeBlock_33 : decode prog_1_method_15_code 33 = .ok (.dup, 1) := by decide +kernel
theorem d_V_writeBlock_34 : decode prog_1_method_15_code 34 = .ok (.getfield 108, 3) := by decide +kernel
theorem d_V_writeBlock_37 : decode prog_1_method_15_code 37 = .ok (.iconst 1, 1) := by decide +kernel
theorem d_V_writeBlock_38 : decode prog_1_method_15_code 38 = .ok (.isub, 1) := by decide +kernel
theorem d_V_writeBlock_39 : decode prog_1_method_15_code 39 = .ok (.putfield 108, 3) := by decide +kernel
set_option maxHeartbeats 4000000 in
set_option maxRecDepth 100000 in
theorem v_writeBlock (l : Launch) (D : va_G) (dA : Nat → ClassId) (sz : Nat) (h : Nat) (ad : Nat → Nat) (x : VS) (hc : ¬ x.cutLeft = 0) : Met l ⟨"SeriesVault", "writeBlock", "()V"⟩ [Cond.code ⟨"SeriesVault", "writeBlock", "()V"⟩ prog_1_method_15_code 1 none] { frames := 1, cells := 0, slots := 0, locals := 0 } (pC D dA [.ref h] (VW dA h ad x) sz) (va_Qv (fun (u9 : Unit) => True) (fun (u9 : Unit) t9 => bW D (va_A (VW dA h ad x) sz) (VW dA h ad (VS.s_writes (VS.s_cutLeft x (cutF x.cutLeft)) (x.writes + 1))) t9) (va_A (VW dA h ad x) sz)) 0 0 (va_A (VW dA h ad x) sz) := by
  refine mkC (y := ⟨"SeriesVault", "writeBlock", "()V"⟩) (cc := prog_1_method_15_code) (maxL := 1) (av := [.ref h]) (ws := VW dA h ad x) (sz := sz) (Qc := fun A => va_Qv (fun (u9 : Unit) => True) (fun (u9 : Unit) t9 => bW D A (VW dA h ad (VS.s_writes (VS.s_cutLeft x (cutF x.cutLeft)) (x.writes + 1))) t9) A) (by decide) (Nat.le_of_ble_eq_true rfl) ?_
  intro A p e s m below meth c ls hsz hB
  obtain ⟨hx, hb, hr, hml, hown, hin, hlk, hE, hK, hP, hD, hS, hA, hN, hl⟩ := hB
  have hown : s.vm.findClass "SeriesVault" = some m.cls := hown
  have hl : lv_has ls 1 [(0, .ref h)] := hl
  obtain ⟨H, hH⟩ : ∃ z, z = s.heap := ⟨_, rfl⟩
  have hP : va_P D vwCl (VW dA h ad x) H := by rw [hH]; exact hP
  have hS : va_S A s.heap H [] := by rw [hH]; exact hS
  rw [← hH]
  refine lv_aload_n hx hb d_V_writeBlock_0 rfl (lv_at hl 0 rfl) ?_
  refine gF (v := .int x.cutLeft) hx hb hown hE hK hP 0 rfl rfl layV 6 (by decide) w281 rfl d_V_writeBlock_1 ?_
  refine lv_if_ne hx hb d_V_writeBlock_4 (tgt := 25) rfl (fun _ => ?_) (fun h9 => absurd h9 hc)
  refine lv_aload_n hx hb d_V_writeBlock_25 rfl (lv_at hl 0 rfl) ?_
  refine gF (v := .int x.cutLeft) hx hb hown hE hK hP 0 rfl rfl layV 6 (by decide) w281 rfl d_V_writeBlock_26 ?_
  refine lv_if_le hx hb d_V_writeBlock_29 (tgt := 42) rfl (fun g1 => ?_) (fun g1 => ?_)
  · have g1 := g1
    refine lv_aload_n hx hb d_V_writeBlock_42 rfl (lv_at hl 0 rfl) ?_
    refine lv_dup hx hb d_V_writeBlock_43 rfl ?_
    refine gF (v := .int (nI x.writes)) hx hb hown hE hK hP 0 rfl rfl layV 7 (by decide) w209 rfl d_V_writeBlock_44 ?_
    refine lv_iconst (v := 1) hx hb d_V_writeBlock_47 (by decide) ?_
    refine lv_iadd hx hb d_V_writeBlock_48 (tpi (y := nI (x.writes + 1)) (nI_add (x.writes) (1)) ?_)
    refine pF (v := .int (nI (x.writes + 1))) hx hb hown hE hK hP hD hS 0 rfl rfl layV tyV tokV nmV 7 (by decide) w209 rfl rfl rfl (Nat.le_of_ble_eq_true rfl) d_V_writeBlock_49 (fun H locs hP hD hS => ?_)
    have hP : va_P D vwCl (VW dA h ad (VS.s_writes x (x.writes + 1))) H := hP
    have hD : va_D A (VW dA h ad (VS.s_writes x (x.writes + 1))) := hD
    have e9 : (VS.s_writes x (x.writes + 1) : VS) = VS.s_writes (VS.s_cutLeft x (cutF x.cutLeft)) (x.writes + 1) := by rw [show (cutF x.cutLeft) = x.cutLeft from by simp [cutF, *]] <;> rfl
    exact rfV hx hb hr hlk hS () trivial (cvPv e9 hP) (cvDv e9 hD) (Nat.le_of_ble_eq_true rfl) (Nat.le_of_ble_eq_true rfl) d_V_writeBlock_52
  · have g1 := g1
    refine lv_aload_n hx hb d_V_writeBlock_32 rfl (lv_at hl 0 rfl) ?_
    refine lv_dup hx hb d_V_writeBlock_33 rfl ?_
    refine gF (v := .int x.cutLeft) hx hb hown hE hK hP 0 rfl rfl layV 6 (by decide) w281 rfl d_V_writeBlock_34 ?_
    refine lv_iconst (v := 1) hx hb d_V_writeBlock_37 (by decide) ?_
    refine lv_isub hx hb d_V_writeBlock_38 ?_
    refine pF (v := .int (x.cutLeft - 1)) hx hb hown hE hK hP hD hS 0 rfl rfl layV tyV tokV nmV 6 (by decide) w281 rfl rfl rfl (Nat.le_of_ble_eq_true rfl) d_V_writeBlock_39 (fun H locs hP hD hS => ?_)
    have hP : va_P D vwCl (VW dA h ad (VS.s_cutLeft x (x.cutLeft - 1))) H := hP
    have hD : va_D A (VW dA h ad (VS.s_cutLeft x (x.cutLeft - 1))) := hD
    refine lv_aload_n hx hb d_V_writeBlock_42 rfl (lv_at hl 0 rfl) ?_
    refine lv_dup hx hb d_V_writeBlock_43 rfl ?_
    refine gF (v := .int (nI x.writes)) hx hb hown hE hK hP 0 rfl rfl layV 7 (by decide) w209 rfl d_V_writeBlock_44 ?_
    refine lv_iconst (v := 1) hx hb d_V_writeBlock_47 (by decide) ?_
    refine lv_iadd hx hb d_V_writeBlock_48 (tpi (y := nI (x.writes + 1)) (nI_add (x.writes) (1)) ?_)
    refine pF (v := .int (nI (x.writes + 1))) hx hb hown hE hK hP hD hS 0 rfl rfl layV tyV tokV nmV 7 (by decide) w209 rfl rfl rfl (Nat.le_of_ble_eq_true rfl) d_V_writeBlock_49 (fun H locs hP hD hS => ?_)
    have hP : va_P D vwCl (VW dA h ad (VS.s_writes (VS.s_cutLeft x (x.cutLeft - 1)) (x.writes + 1))) H := hP
    have hD : va_D A (VW dA h ad (VS.s_writes (VS.s_cutLeft x (x.cutLeft - 1)) (x.writes + 1))) := hD
    have e9 : (VS.s_writes (VS.s_cutLeft x (x.cutLeft - 1)) (x.writes + 1) : VS) = VS.s_writes (VS.s_cutLeft x (cutF x.cutLeft)) (x.writes + 1) := by rw [show (cutF x.cutLeft) = (x.cutLeft - 1) from by simp [cutF, *]] <;> rfl
    exact rfV hx hb hr hlk hS () trivial (cvPv e9 hP) (cvDv e9 hD) (Nat.le_of_ble_eq_true rfl) (Nat.le_of_ble_eq_true rfl) d_V_writeBlock_52
theorem d_V_writeBlocks_0 : decode prog_1_method_16_code 0 = .ok (.iconst 0, 1) := by decide +kernel
theorem d_V_writeBlocks_1 : decode prog_1_method_16_code 1 = .ok (.istore_n 2, 1) := by decide +kernel
theorem d_V_writeBlocks_2 : decode prog_1_method_16_code 2 = .ok (.iload_n 2, 1) := by decide +kernel
theorem d_V_writeBlocks_3 : decode prog_1_method_16_code 3 = .ok (.iload_n 1, 1) := by decide +kernel
theorem d_V_writeBlocks_4 : decode prog_1_method_16_code 4 = .ok (.if_icmp .ge 13, 3) := by decide +kernel
theorem d_V_writeBlocks_17 : decode prog_1_method_16_code 17 = .ok (.return_, 1) := by decide +kernel
theorem d_V_writeBlocks_7 : decode prog_1_method_16_code 7 = .ok (.aload_n 0, 1) := by decide +kernel
theorem d_V_writeBlocks_8 : decode prog_1_method_16_code 8 = .ok (.invokevirtual 133, 3) := by decide +kernel
theorem d_V_writeBlocks_11 : decode prog_1_method_16_code 11 = .ok (.iinc 2 1, 3) := by decide +kernel
theorem d_V_writeBlocks_14 : decode prog_1_method_16_code 14 = .ok (.goto (-12), 3) := by decide +kernel
set_option maxHeartbeats 4000000 in
set_option maxRecDepth 100000 in
theorem v_writeBlocks (l : Launch) (D : va_G) (dA : Nat → ClassId) (sz : Nat) (h : Nat) (ad : Nat → Nat) (x : VS) (n : Nat) (hn : n < 2 ^ 31) (hz : ∀ j : Nat, j < n → ¬ cutN x.cutLeft j = 0) : Met l ⟨"SeriesVault", "writeBlocks", "(I)V"⟩ [Cond.code ⟨"SeriesVault", "writeBlocks", "(I)V"⟩ prog_1_method_16_code 3 none] { frames := 2, cells := 0, slots := 0, locals := 20 } (pC D dA [.ref h, .int (nI n)] (VW dA h ad x) sz) (va_Qv (fun (u9 : Unit) => True) (fun (u9 : Unit) t9 => bW D (va_A (VW dA h ad x) sz) (VW dA h ad (VS.s_writes (VS.s_cutLeft x (cutN x.cutLeft n)) (x.writes + n))) t9) (va_A (VW dA h ad x) sz)) 0 0 (va_A (VW dA h ad x) sz) := by
  refine mkC (y := ⟨"SeriesVault", "writeBlocks", "(I)V"⟩) (cc := prog_1_method_16_code) (maxL := 3) (av := [.ref h, .int (nI n)]) (ws := VW dA h ad x) (sz := sz) (Qc := fun A => va_Qv (fun (u9 : Unit) => True) (fun (u9 : Unit) t9 => bW D A (VW dA h ad (VS.s_writes (VS.s_cutLeft x (cutN x.cutLeft n)) (x.writes + n))) t9) A) (by decide) (Nat.le_of_ble_eq_true rfl) ?_
  intro A p e s m below meth c ls hsz hB
  obtain ⟨hx, hb, hr, hml, hown, hin, hlk, hE, hK, hP, hD, hS, hA, hN, hl⟩ := hB
  have hown : s.vm.findClass "SeriesVault" = some m.cls := hown
  have hl : lv_has ls 3 [(0, .ref h), (1, .int (nI n))] := hl
  obtain ⟨H, hH⟩ : ∃ z, z = s.heap := ⟨_, rfl⟩
  have hP : va_P D vwCl (VW dA h ad x) H := by rw [hH]; exact hP
  have hS : va_S A s.heap H [] := by rw [hH]; exact hS
  rw [← hH]
  refine lv_iconst (v := 0) hx hb d_V_writeBlocks_0 (by decide) ?_
  refine lv_istore_n hx hb d_V_writeBlocks_1 rfl hl (by decide) rfl (fun ls hl => ?_)
  have hl : lv_has ls 3 [(2, .int 0), (0, .ref h), (1, .int (nI n))] := hl
  have L2 : ∀ (k9 : Nat) (k : Nat) (i1 : k ≤ n) (hk9 : n - k = k9), ∀ (H : Heap) (locs : List Loc) (ls : Array Slot) (hP : va_P D vwCl (VW dA h ad (VS.s_writes (VS.s_cutLeft x (cutN x.cutLeft k)) (x.writes + k))) H) (hD : va_D A (VW dA h ad (VS.s_writes (VS.s_cutLeft x (cutN x.cutLeft k)) (x.writes + k)))) (hS : va_S A s.heap H locs) (hl : lv_has ls 3 [(2, .int (nI k)), (1, .int (nI n)), (0, .ref h)]), W p l e ({ frames := 2, cells := 0, slots := 0, locals := 20 } : Room) s m ([.ref h, .int (nI n)] : List Value).toArray below meth c H locs 0 0 (MQ below (va_Qv (fun (u9 : Unit) => True) (fun (u9 : Unit) t9 => bW D A (VW dA h ad (VS.s_writes (VS.s_cutLeft x (cutN x.cutLeft n)) (x.writes + n))) t9) A) ([.ref h, .int (nI n)] : List Value).toArray s 0 0 A) (F0 m 2 ls []) := by
    intro k9
    induction k9 using Nat.strongRecOn with
    | ind k9 ih2 =>
      intro k i1 hk9 H locs ls hP hD hS hl
      refine lv_iload_n hx hb d_V_writeBlocks_2 rfl (lv_at hl 0 rfl) ?_
      refine lv_iload_n hx hb d_V_writeBlocks_3 rfl (lv_at hl 1 rfl) ?_
      refine lv_icmp_ge hx hb d_V_writeBlocks_4 (tgt := 17) rfl (fun g1 => ?_) (fun g1 => ?_)
      · have g1 := (nI_leI (a := n) (b := k) (by omega) (by omega)).mp g1
        have e9 : (VS.s_writes (VS.s_cutLeft x (cutN x.cutLeft k)) (x.writes + k) : VS) = VS.s_writes (VS.s_cutLeft x (cutN x.cutLeft n)) (x.writes + n) := by rw [show (cutN x.cutLeft n) = (cutN x.cutLeft k) from by (rw [show k = n by omega]), show (x.writes + n) = (x.writes + k) from by (rw [show k = n by omega])] <;> rfl
        exact rfV hx hb hr hlk hS () trivial (cvPv e9 hP) (cvDv e9 hD) (Nat.le_of_ble_eq_true rfl) (Nat.le_of_ble_eq_true rfl) d_V_writeBlocks_17
      · have g1 := mt (nI_leI (a := n) (b := k) (by omega) (by omega)).mpr g1
        refine lv_aload_n hx hb d_V_writeBlocks_7 rfl (lv_at hl 2 rfl) ?_
        refine jfV (rnV (As := []) (rest := []) hx hb hml hown hE hK (hN _ _ hS) hP hD (v_writeBlock l D dA H.size h ad (VS.s_writes (VS.s_cutLeft x (cutN x.cutLeft k)) (x.writes + k)) (hz k (by omega))) (q0 := 0) rfl rfl w737 w736 w738 w739 w277 rfl rfl ⟨⟨by decide, by decide⟩, rfl⟩ ⟨(Nat.le_of_ble_eq_true rfl), (Nat.le_of_ble_eq_true rfl)⟩ rfl hl.1 rfl (Nat.le_of_ble_eq_true rfl) d_V_writeBlocks_8 ⟨(Nat.le_of_ble_eq_true rfl), (Nat.le_of_ble_eq_true rfl)⟩) hP hD hS hA (fun u3 H locs hp9 hP hD hS => ?_)
        have hP : va_P D vwCl (VW dA h ad (VS.s_writes (VS.s_cutLeft x (cutF (cutN x.cutLeft k))) ((x.writes + k) + 1))) H := hP
        have hD : va_D A (VW dA h ad (VS.s_writes (VS.s_cutLeft x (cutF (cutN x.cutLeft k))) ((x.writes + k) + 1))) := hD
        refine lv_iinc (k := 0) (v := nI (k + 1)) hx hb d_V_writeBlocks_11 hl rfl (iincN (k) 1 1 (by decide)) (by decide) rfl (fun ls hl => ?_)
        have hl : lv_has ls 3 [(2, .int (nI (k + 1))), (1, .int (nI n)), (0, .ref h)] := hl
        refine lv_goto hx hb d_V_writeBlocks_14 (tgt := 2) rfl ?_
        exact ih2 _ (by omega) (k + 1) (by omega) rfl H _ ls hP hD hS (lv_sub hl [0, 1, 2] rfl)
  exact L2 _ 0 (by omega) rfl H _ ls hP hD hS (lv_sub hl [0, 2, 1] rfl)
end
section
theorem d_J_fitsInBlock_0 : decode prog_3_method_4_code 0 = .ok (.aload_n 0, 1) := by decide +kernel
theorem d_J_fitsInBlock_1 : decode prog_3_method_4_code 1 = .ok (.getfield 44, 3) := by decide +kernel
theorem d_J_fitsInBlock_4 : decode prog_3_method_4_code 4 = .ok (.iload_n 1, 1) := by decide +kernel
theorem d_J_fitsInBlock_5 : decode prog_3_method_4_code 5 = .ok (.iadd, 1) := by decide +kernel
theorem d_J_fitsInBlock_6 : decode prog_3_method_4_code 6 = .ok (.bipush 126, 2) := by decide +kernel
theorem d_J_fitsInBlock_8 : decode prog_3_method_4_code 8 = .ok (.if_icmp .gt 7, 3) := by decide +kernel
theorem d_J_fitsInBlock_15 : decode prog_3_method_4_code 15 = .ok (.iconst 0, 1) := by decide +kernel
theorem d_J_fitsInBlock_16 : decode prog_3_method_4_code 16 = .ok (.ireturn, 1) := by decide +kernel
theorem d_J_fitsInBlock_11 : decode prog_3_method_4_code 11 = .ok (.iconst 1, 1) := by decide +kernel
theorem d_J_fitsInBlock_12 : decode prog_3_method_4_code 12 = .ok (.goto 4, 3) := by decide +kernel
set_option maxHeartbeats 4000000 in
set_option maxRecDepth 100000 in
theorem v_fitsInBlock (l : Launch) (D : va_G) (dA : Nat → ClassId) (sz : Nat) (h : Nat) (ad : Nat → Nat) (x : VS) (n : Nat) (h1 : x.jfill + n < 2 ^ 31) : Met l ⟨"SeriesVault$Journal", "fitsInBlock", "(I)Z"⟩ [Cond.code ⟨"SeriesVault$Journal", "fitsInBlock", "(I)Z"⟩ prog_3_method_4_code 2 (some FieldType.boolean)] { frames := 1, cells := 0, slots := 0, locals := 0 } (pC D dA [.ref (ad 0), .int (nI n)] (VW dA h ad x) sz) (va_Qi (fun (r9 : Int32) (u9 : Unit) => r9 = bI (decide (x.jfill + n ≤ 126))) (fun (u9 : Unit) t9 => bW D (va_A (VW dA h ad x) sz) (VW dA h ad x) t9) (va_A (VW dA h ad x) sz)) 0 0 (va_A (VW dA h ad x) sz) := by
  refine mkC (y := ⟨"SeriesVault$Journal", "fitsInBlock", "(I)Z"⟩) (cc := prog_3_method_4_code) (maxL := 2) (av := [.ref (ad 0), .int (nI n)]) (ws := VW dA h ad x) (sz := sz) (Qc := fun A => va_Qi (fun (r9 : Int32) (u9 : Unit) => r9 = bI (decide (x.jfill + n ≤ 126))) (fun (u9 : Unit) t9 => bW D A (VW dA h ad x) t9) A) (by decide) (Nat.le_of_ble_eq_true rfl) ?_
  intro A p e s m below meth c ls hsz hB
  obtain ⟨hx, hb, hr, hml, hown, hin, hlk, hE, hK, hP, hD, hS, hA, hN, hl⟩ := hB
  have hown : s.vm.findClass "SeriesVault$Journal" = some m.cls := hown
  have hl : lv_has ls 2 [(0, .ref (ad 0)), (1, .int (nI n))] := hl
  obtain ⟨H, hH⟩ : ∃ z, z = s.heap := ⟨_, rfl⟩
  have hP : va_P D vwCl (VW dA h ad x) H := by rw [hH]; exact hP
  have hS : va_S A s.heap H [] := by rw [hH]; exact hS
  rw [← hH]
  refine lv_aload_n hx hb d_J_fitsInBlock_0 rfl (lv_at hl 0 rfl) ?_
  refine gF (v := .int (nI x.jfill)) hx hb hown hE hK hP 2 rfl rfl layJ 11 (by decide) w554 rfl d_J_fitsInBlock_1 ?_
  refine lv_iload_n hx hb d_J_fitsInBlock_4 rfl (lv_at hl 1 rfl) ?_
  refine lv_iadd hx hb d_J_fitsInBlock_5 (tpi (y := nI (x.jfill + n)) (nI_add (x.jfill) (n)) ?_)
  refine lv_bipush (v := 126) hx hb d_J_fitsInBlock_6 (by decide) ?_
  refine lv_icmp_gt hx hb d_J_fitsInBlock_8 (tgt := 15) rfl (fun g1 => ?_) (fun g1 => ?_)
  · have g1 := (nI_ltI (a := 126) (b := x.jfill + n) (by omega) (by omega)).mp g1
    refine lv_iconst (v := 0) hx hb d_J_fitsInBlock_15 (by decide) ?_
    exact rfZ hx hb hr (bI_nar false) hlk hS () (by rw [decide_eq_false (by omega)]; rfl) hP hD (Nat.le_of_ble_eq_true rfl) (Nat.le_of_ble_eq_true rfl) d_J_fitsInBlock_16
  · have g1 := mt (nI_ltI (a := 126) (b := x.jfill + n) (by omega) (by omega)).mpr g1
    refine lv_iconst (v := 1) hx hb d_J_fitsInBlock_11 (by decide) ?_
    refine lv_goto hx hb d_J_fitsInBlock_12 (tgt := 16) rfl ?_
    exact rfZ hx hb hr (bI_nar true) hlk hS () (by rw [decide_eq_true (by omega)]; rfl) hP hD (Nat.le_of_ble_eq_true rfl) (Nat.le_of_ble_eq_true rfl) d_J_fitsInBlock_16
def VS.room (x : VS) (n : Nat) : Bool := decide (x.jfill + n ≤ 126) || decide (x.jblock + 1 < x.jlimit)
theorem d_J_hasRoom_0 : decode prog_3_method_5_code 0 = .ok (.aload_n 0, 1) := by decide +kernel
theorem d_J_hasRoom_1 : decode prog_3_method_5_code 1 = .ok (.iload_n 1, 1) := by decide +kernel
theorem d_J_hasRoom_2 : decode prog_3_method_5_code 2 = .ok (.invokevirtual 47, 3) := by decide +kernel
theorem d_J_hasRoom_5 : decode prog_3_method_5_code 5 = .ok (.ifCond .ne 16, 3) := by decide +kernel
theorem d_J_hasRoom_21 : decode prog_3_method_5_code 21 = .ok (.iconst 1, 1) := by decide +kernel
theorem d_J_hasRoom_22 : decode prog_3_method_5_code 22 = .ok (.goto 4, 3) := by decide +kernel
theorem d_J_hasRoom_26 : decode prog_3_method_5_code 26 = .ok (.ireturn, 1) := by decide +kernel
theorem d_J_hasRoom_8 : decode prog_3_method_5_code 8 = .ok (.aload_n 0, 1) := by decide +kernel
theorem d_J_hasRoom_9 : decode prog_3_method_5_code 9 = .ok (.getfield 51, 3) := by decide +kernel
theorem d_J_hasRoom_12 : decode prog_3_method_5_code 12 = .ok (.iconst 1, 1) := by decide +kernel
theorem d_J_hasRoom_13 : decode prog_3_method_5_code 13 = .ok (.iadd, 1) := by decide +kernel
theorem d_J_hasRoom_14 : decode prog_3_method_5_code 14 = .ok (.aload_n 0, 1) := by decide +kernel
theorem d_J_hasRoom_15 : decode prog_3_method_5_code 15 = .ok (.getfield 31, 3) := by decide +kernel
theorem d_J_hasRoom_18 : decode prog_3_method_5_code 18 = .ok (.if_icmp .ge 7, 3) := by decide +kernel
theorem d_J_hasRoom_25 : decode prog_3_method_5_code 25 = .ok (.iconst 0, 1) := by decide +kernel
theorem w1081 : Cond.methodLink "SeriesVault$Journal" 47 ⟨"SeriesVault$Journal", "fitsInBlock", "(I)Z"⟩ ∈ aW := aw_of (tb_5 (List.mem_of_getElem? (i := 38) rfl)) rfl
theorem w1082 : Cond.code ⟨"SeriesVault$Journal", "fitsInBlock", "(I)Z"⟩ prog_3_method_4_code 2 (some FieldType.boolean) ∈ aW := aw_of (tb_5 (List.mem_of_getElem? (i := 41) rfl)) rfl
theorem w1083 : Cond.instanceMethod ⟨"SeriesVault$Journal", "fitsInBlock", "(I)Z"⟩ ∈ aW := aw_of (tb_5 (List.mem_of_getElem? (i := 39) rfl)) rfl
theorem w1084 : Cond.selects "SeriesVault$Journal" ⟨"SeriesVault$Journal", "fitsInBlock", "(I)Z"⟩ ⟨"SeriesVault$Journal", "fitsInBlock", "(I)Z"⟩ ∈ aW := aw_of (tb_5 (List.mem_of_getElem? (i := 40) rfl)) rfl
set_option maxHeartbeats 4000000 in
set_option maxRecDepth 100000 in
theorem v_jhasRoom (l : Launch) (D : va_G) (dA : Nat → ClassId) (sz : Nat) (h : Nat) (ad : Nat → Nat) (x : VS) (n : Nat) (h1 : x.jfill + n < 2 ^ 31) (h2 : x.jblock + 1 < 2 ^ 31) (h3 : x.jlimit < 2 ^ 31) : Met l ⟨"SeriesVault$Journal", "hasRoom", "(I)Z"⟩ [Cond.code ⟨"SeriesVault$Journal", "hasRoom", "(I)Z"⟩ prog_3_method_5_code 2 (some FieldType.boolean)] { frames := 2, cells := 0, slots := 0, locals := 21 } (pC D dA [.ref (ad 0), .int (nI n)] (VW dA h ad x) sz) (va_Qi (fun (r9 : Int32) (u9 : Unit) => r9 = bI (x.room n)) (fun (u9 : Unit) t9 => bW D (va_A (VW dA h ad x) sz) (VW dA h ad x) t9) (va_A (VW dA h ad x) sz)) 0 0 (va_A (VW dA h ad x) sz) := by
  refine mkC (y := ⟨"SeriesVault$Journal", "hasRoom", "(I)Z"⟩) (cc := prog_3_method_5_code) (maxL := 2) (av := [.ref (ad 0), .int (nI n)]) (ws := VW dA h ad x) (sz := sz) (Qc := fun A => va_Qi (fun (r9 : Int32) (u9 : Unit) => r9 = bI (x.room n)) (fun (u9 : Unit) t9 => bW D A (VW dA h ad x) t9) A) (by decide) (Nat.le_of_ble_eq_true rfl) ?_
  intro A p e s m below meth c ls hsz hB
  obtain ⟨hx, hb, hr, hml, hown, hin, hlk, hE, hK, hP, hD, hS, hA, hN, hl⟩ := hB
  have hown : s.vm.findClass "SeriesVault$Journal" = some m.cls := hown
  have hl : lv_has ls 2 [(0, .ref (ad 0)), (1, .int (nI n))] := hl
  obtain ⟨H, hH⟩ : ∃ z, z = s.heap := ⟨_, rfl⟩
  have hP : va_P D vwCl (VW dA h ad x) H := by rw [hH]; exact hP
  have hS : va_S A s.heap H [] := by rw [hH]; exact hS
  rw [← hH]
  refine lv_aload_n hx hb d_J_hasRoom_0 rfl (lv_at hl 0 rfl) ?_
  refine lv_iload_n hx hb d_J_hasRoom_1 rfl (lv_at hl 1 rfl) ?_
  refine jfI (rnV (As := [.int (nI n)]) (rest := []) hx hb hml hown hE hK (hN _ _ hS) hP hD (v_fitsInBlock l D dA H.size h ad x n (show x.jfill + n < 2 ^ 31 from by omega)) (q0 := 2) rfl rfl w1082 w1081 w1083 w1084 w556 rfl rfl ⟨⟨by decide, by decide⟩, rfl⟩ ⟨(Nat.le_of_ble_eq_true rfl), (Nat.le_of_ble_eq_true rfl)⟩ rfl hl.1 rfl (Nat.le_of_ble_eq_true rfl) d_J_hasRoom_2 ⟨(Nat.le_of_ble_eq_true rfl), (Nat.le_of_ble_eq_true rfl)⟩) hP hD hS hA (fun r1 u2 H locs hp9 hP hD hS => ?_)
  have hP : va_P D vwCl (VW dA h ad x) H := hP
  have hD : va_D A (VW dA h ad x) := hD
  replace hp9 : bI (decide (x.jfill + n ≤ 126)) = r1 := Eq.symm hp9
  subst hp9
  refine lv_if_ne hx hb d_J_hasRoom_5 (tgt := 21) rfl (fun g3 => ?_) (fun g3 => ?_)
  · have g3 := bI_n0 g3
    refine lv_iconst (v := 1) hx hb d_J_hasRoom_21 (by decide) ?_
    refine lv_goto hx hb d_J_hasRoom_22 (tgt := 26) rfl ?_
    exact rfZ hx hb hr (bI_nar true) hlk hS () (by unfold VS.room; simp [bI, *]) hP hD (Nat.le_of_ble_eq_true rfl) (Nat.le_of_ble_eq_true rfl) d_J_hasRoom_26
  · have g3 := bI_0 g3
    refine lv_aload_n hx hb d_J_hasRoom_8 rfl (lv_at hl 0 rfl) ?_
    refine gF (v := .int (nI x.jblock)) hx hb hown hE hK hP 2 rfl rfl layJ 10 (by decide) w553 rfl d_J_hasRoom_9 ?_
    refine lv_iconst (v := 1) hx hb d_J_hasRoom_12 (by decide) ?_
    refine lv_iadd hx hb d_J_hasRoom_13 (tpi (y := nI (x.jblock + 1)) (nI_add (x.jblock) (1)) ?_)
    refine lv_aload_n hx hb d_J_hasRoom_14 rfl (lv_at hl 0 rfl) ?_
    refine gF (v := .int (nI x.jlimit)) hx hb hown hE hK hP 2 rfl rfl layJ 9 (by decide) w560 rfl d_J_hasRoom_15 ?_
    refine lv_icmp_ge hx hb d_J_hasRoom_18 (tgt := 25) rfl (fun g4 => ?_) (fun g4 => ?_)
    · have g4 := (nI_leI (a := x.jlimit) (b := x.jblock + 1) (by omega) (by omega)).mp g4
      refine lv_iconst (v := 0) hx hb d_J_hasRoom_25 (by decide) ?_
      exact rfZ hx hb hr (bI_nar false) hlk hS () (by unfold VS.room; simp [bI, *]) hP hD (Nat.le_of_ble_eq_true rfl) (Nat.le_of_ble_eq_true rfl) d_J_hasRoom_26
    · have g4 := mt (nI_leI (a := x.jlimit) (b := x.jblock + 1) (by omega) (by omega)).mpr g4
      refine lv_iconst (v := 1) hx hb d_J_hasRoom_21 (by decide) ?_
      refine lv_goto hx hb d_J_hasRoom_22 (tgt := 26) rfl ?_
      exact rfZ hx hb hr (bI_nar true) hlk hS () (by unfold VS.room; simp [bI, *]) hP hD (Nat.le_of_ble_eq_true rfl) (Nat.le_of_ble_eq_true rfl) d_J_hasRoom_26
theorem d_J_beginNextBlock_0 : decode prog_3_method_6_code 0 = .ok (.aload_n 0, 1) := by decide +kernel
theorem d_J_beginNextBlock_1 : decode prog_3_method_6_code 1 = .ok (.dup, 1) := by decide +kernel
theorem d_J_beginNextBlock_2 : decode prog_3_method_6_code 2 = .ok (.getfield 51, 3) := by decide +kernel
theorem d_J_beginNextBlock_5 : decode prog_3_method_6_code 5 = .ok (.iconst 1, 1) := by decide +kernel
theorem d_J_beginNextBlock_6 : decode prog_3_method_6_code 6 = .ok (.iadd, 1) := by decide +kernel
theorem d_J_beginNextBlock_7 : decode prog_3_method_6_code 7 = .ok (.putfield 51, 3) := by decide +kernel
theorem d_J_beginNextBlock_10 : decode prog_3_method_6_code 10 = .ok (.aload_n 0, 1) := by decide +kernel
theorem d_J_beginNextBlock_11 : decode prog_3_method_6_code 11 = .ok (.iconst 0, 1) := by decide +kernel
theorem d_J_beginNextBlock_12 : decode prog_3_method_6_code 12 = .ok (.putfield 44, 3) := by decide +kernel
theorem d_J_beginNextBlock_15 : decode prog_3_method_6_code 15 = .ok (.return_, 1) := by decide +kernel
set_option maxHeartbeats 4000000 in
set_option maxRecDepth 100000 in
theorem v_beginNextBlock (l : Launch) (D : va_G) (dA : Nat → ClassId) (sz : Nat) (h : Nat) (ad : Nat → Nat) (x : VS) : Met l ⟨"SeriesVault$Journal", "beginNextBlock", "()V"⟩ [Cond.code ⟨"SeriesVault$Journal", "beginNextBlock", "()V"⟩ prog_3_method_6_code 1 none] { frames := 1, cells := 0, slots := 0, locals := 0 } (pC D dA [.ref (ad 0)] (VW dA h ad x) sz) (va_Qv (fun (u9 : Unit) => True) (fun (u9 : Unit) t9 => bW D (va_A (VW dA h ad x) sz) (VW dA h ad (VS.s_jfill (VS.s_jblock x (x.jblock + 1)) 0)) t9) (va_A (VW dA h ad x) sz)) 0 0 (va_A (VW dA h ad x) sz) := by
  refine mkC (y := ⟨"SeriesVault$Journal", "beginNextBlock", "()V"⟩) (cc := prog_3_method_6_code) (maxL := 1) (av := [.ref (ad 0)]) (ws := VW dA h ad x) (sz := sz) (Qc := fun A => va_Qv (fun (u9 : Unit) => True) (fun (u9 : Unit) t9 => bW D A (VW dA h ad (VS.s_jfill (VS.s_jblock x (x.jblock + 1)) 0)) t9) A) (by decide) (Nat.le_of_ble_eq_true rfl) ?_
  intro A p e s m below meth c ls hsz hB
  obtain ⟨hx, hb, hr, hml, hown, hin, hlk, hE, hK, hP, hD, hS, hA, hN, hl⟩ := hB
  have hown : s.vm.findClass "SeriesVault$Journal" = some m.cls := hown
  have hl : lv_has ls 1 [(0, .ref (ad 0))] := hl
  obtain ⟨H, hH⟩ : ∃ z, z = s.heap := ⟨_, rfl⟩
  have hP : va_P D vwCl (VW dA h ad x) H := by rw [hH]; exact hP
  have hS : va_S A s.heap H [] := by rw [hH]; exact hS
  rw [← hH]
  refine lv_aload_n hx hb d_J_beginNextBlock_0 rfl (lv_at hl 0 rfl) ?_
  refine lv_dup hx hb d_J_beginNextBlock_1 rfl ?_
  refine gF (v := .int (nI x.jblock)) hx hb hown hE hK hP 2 rfl rfl layJ 10 (by decide) w553 rfl d_J_beginNextBlock_2 ?_
  refine lv_iconst (v := 1) hx hb d_J_beginNextBlock_5 (by decide) ?_
  refine lv_iadd hx hb d_J_beginNextBlock_6 (tpi (y := nI (x.jblock + 1)) (nI_add (x.jblock) (1)) ?_)
  refine pF (v := .int (nI (x.jblock + 1))) hx hb hown hE hK hP hD hS 2 rfl rfl layJ tyJ tokJ nmJ 10 (by decide) w553 rfl rfl rfl (Nat.le_of_ble_eq_true rfl) d_J_beginNextBlock_7 (fun H locs hP hD hS => ?_)
  have hP : va_P D vwCl (VW dA h ad (VS.s_jblock x (x.jblock + 1))) H := hP
  have hD : va_D A (VW dA h ad (VS.s_jblock x (x.jblock + 1))) := hD
  refine lv_aload_n hx hb d_J_beginNextBlock_10 rfl (lv_at hl 0 rfl) ?_
  refine lv_iconst (v := 0) hx hb d_J_beginNextBlock_11 (by decide) ?_
  refine pF (v := .int (nI 0)) hx hb hown hE hK hP hD hS 2 rfl rfl layJ tyJ tokJ nmJ 11 (by decide) w554 rfl rfl rfl (Nat.le_of_ble_eq_true rfl) d_J_beginNextBlock_12 (fun H locs hP hD hS => ?_)
  have hP : va_P D vwCl (VW dA h ad (VS.s_jfill (VS.s_jblock x (x.jblock + 1)) 0)) H := hP
  have hD : va_D A (VW dA h ad (VS.s_jfill (VS.s_jblock x (x.jblock + 1)) 0)) := hD
  exact rfV hx hb hr hlk hS () trivial hP hD (Nat.le_of_ble_eq_true rfl) (Nat.le_of_ble_eq_true rfl) d_J_beginNextBlock_15
theorem d_J_keepAll_0 : decode prog_3_method_9_code 0 = .ok (.aload_n 0, 1) := by decide +kernel
theorem d_J_keepAll_1 : decode prog_3_method_9_code 1 = .ok (.aload_n 0, 1) := by decide +kernel
theorem d_J_keepAll_2 : decode prog_3_method_9_code 2 = .ok (.getfield 38, 3) := by decide +kernel
theorem d_J_keepAll_5 : decode prog_3_method_9_code 5 = .ok (.putfield 73, 3) := by decide +kernel
theorem d_J_keepAll_8 : decode prog_3_method_9_code 8 = .ok (.aload_n 0, 1) := by decide +kernel
theorem d_J_keepAll_9 : decode prog_3_method_9_code 9 = .ok (.iconst 0, 1) := by decide +kernel
theorem d_J_keepAll_10 : decode prog_3_method_9_code 10 = .ok (.putfield 60, 3) := by decide +kernel
theorem d_J_keepAll_13 : decode prog_3_method_9_code 13 = .ok (.return_, 1) := by decide +kernel
set_option maxHeartbeats 4000000 in
set_option maxRecDepth 100000 in
theorem v_keepAll (l : Launch) (D : va_G) (dA : Nat → ClassId) (sz : Nat) (h : Nat) (ad : Nat → Nat) (x : VS) : Met l ⟨"SeriesVault$Journal", "keepAll", "()V"⟩ [Cond.code ⟨"SeriesVault$Journal", "keepAll", "()V"⟩ prog_3_method_9_code 1 none] { frames := 1, cells := 0, slots := 0, locals := 0 } (pC D dA [.ref (ad 0)] (VW dA h ad x) sz) (va_Qv (fun (u9 : Unit) => True) (fun (u9 : Unit) t9 => bW D (va_A (VW dA h ad x) sz) (VW dA h ad (VS.s_jch (VS.s_jkept x x.jsize) false)) t9) (va_A (VW dA h ad x) sz)) 0 0 (va_A (VW dA h ad x) sz) := by
  refine mkC (y := ⟨"SeriesVault$Journal", "keepAll", "()V"⟩) (cc := prog_3_method_9_code) (maxL := 1) (av := [.ref (ad 0)]) (ws := VW dA h ad x) (sz := sz) (Qc := fun A => va_Qv (fun (u9 : Unit) => True) (fun (u9 : Unit) t9 => bW D A (VW dA h ad (VS.s_jch (VS.s_jkept x x.jsize) false)) t9) A) (by decide) (Nat.le_of_ble_eq_true rfl) ?_
  intro A p e s m below meth c ls hsz hB
  obtain ⟨hx, hb, hr, hml, hown, hin, hlk, hE, hK, hP, hD, hS, hA, hN, hl⟩ := hB
  have hown : s.vm.findClass "SeriesVault$Journal" = some m.cls := hown
  have hl : lv_has ls 1 [(0, .ref (ad 0))] := hl
  obtain ⟨H, hH⟩ : ∃ z, z = s.heap := ⟨_, rfl⟩
  have hP : va_P D vwCl (VW dA h ad x) H := by rw [hH]; exact hP
  have hS : va_S A s.heap H [] := by rw [hH]; exact hS
  rw [← hH]
  refine lv_aload_n hx hb d_J_keepAll_0 rfl (lv_at hl 0 rfl) ?_
  refine lv_aload_n hx hb d_J_keepAll_1 rfl (lv_at hl 0 rfl) ?_
  refine gF (v := .int (nI x.jsize)) hx hb hown hE hK hP 2 rfl rfl layJ 6 (by decide) w545 rfl d_J_keepAll_2 ?_
  refine pF (v := .int (nI x.jsize)) hx hb hown hE hK hP hD hS 2 rfl rfl layJ tyJ tokJ nmJ 7 (by decide) w546 rfl rfl rfl (Nat.le_of_ble_eq_true rfl) d_J_keepAll_5 (fun H locs hP hD hS => ?_)
  have hP : va_P D vwCl (VW dA h ad (VS.s_jkept x x.jsize)) H := hP
  have hD : va_D A (VW dA h ad (VS.s_jkept x x.jsize)) := hD
  refine lv_aload_n hx hb d_J_keepAll_8 rfl (lv_at hl 0 rfl) ?_
  refine lv_iconst (v := 0) hx hb d_J_keepAll_9 (by decide) ?_
  refine pF (v := .int (bI false)) hx hb hown hE hK hP hD hS 2 rfl rfl layJ tyJ tokJ nmJ 12 (by decide) w551 rfl (bI_nar false) (bI_fit false) (Nat.le_of_ble_eq_true rfl) d_J_keepAll_10 (fun H locs hP hD hS => ?_)
  have hP : va_P D vwCl (VW dA h ad (VS.s_jch (VS.s_jkept x x.jsize) false)) H := hP
  have hD : va_D A (VW dA h ad (VS.s_jch (VS.s_jkept x x.jsize) false)) := hD
  exact rfV hx hb hr hlk hS () trivial hP hD (Nat.le_of_ble_eq_true rfl) (Nat.le_of_ble_eq_true rfl) d_J_keepAll_13
theorem d_J_add_0 : decode prog_3_method_7_code 0 = .ok (.aload_n 0, 1) := by decide +kernel
theorem d_J_add_1 : decode prog_3_method_7_code 1 = .ok (.getfield 38, 3) := by decide +kernel
theorem d_J_add_4 : decode prog_3_method_7_code 4 = .ok (.aload_n 0, 1) := by decide +kernel
theorem d_J_add_5 : decode prog_3_method_7_code 5 = .ok (.getfield 9, 3) := by decide +kernel
theorem d_J_add_8 : decode prog_3_method_7_code 8 = .ok (.arraylength, 1) := by decide +kernel
theorem d_J_add_9 : decode prog_3_method_7_code 9 = .ok (.if_icmp .ne 7, 3) := by decide +kernel
theorem d_J_add_16 : decode prog_3_method_7_code 16 = .ok (.aload_n 0, 1) := by decide +kernel
theorem d_J_add_17 : decode prog_3_method_7_code 17 = .ok (.getfield 9, 3) := by decide +kernel
theorem d_J_add_20 : decode prog_3_method_7_code 20 = .ok (.aload_n 0, 1) := by decide +kernel
theorem d_J_add_21 : decode prog_3_method_7_code 21 = .ok (.getfield 38, 3) := by decide +kernel
theorem d_J_add_24 : decode prog_3_method_7_code 24 = .ok (.iload_n 1, 1) := by decide +kernel
theorem d_J_add_25 : decode prog_3_method_7_code 25 = .ok (.iastore, 1) := by decide +kernel
theorem d_J_add_26 : decode prog_3_method_7_code 26 = .ok (.aload_n 0, 1) := by decide +kernel
theorem d_J_add_27 : decode prog_3_method_7_code 27 = .ok (.getfield 15, 3) := by decide +kernel
theorem d_J_add_30 : decode prog_3_method_7_code 30 = .ok (.aload_n 0, 1) := by decide +kernel
theorem d_J_add_31 : decode prog_3_method_7_code 31 = .ok (.getfield 38, 3) := by decide +kernel
theorem d_J_add_34 : decode prog_3_method_7_code 34 = .ok (.iload_n 2, 1) := by decide +kernel
theorem d_J_add_35 : decode prog_3_method_7_code 35 = .ok (.iastore, 1) := by decide +kernel
theorem d_J_add_36 : decode prog_3_method_7_code 36 = .ok (.aload_n 0, 1) := by decide +kernel
theorem d_J_add_37 : decode prog_3_method_7_code 37 = .ok (.getfield 18, 3) := by decide +kernel
theorem d_J_add_40 : decode prog_3_method_7_code 40 = .ok (.aload_n 0, 1) := by decide +kernel
theorem d_J_add_41 : decode prog_3_method_7_code 41 = .ok (.getfield 38, 3) := by decide +kernel
theorem d_J_add_44 : decode prog_3_method_7_code 44 = .ok (.iload_n 3, 1) := by decide +kernel
theorem d_J_add_45 : decode prog_3_method_7_code 45 = .ok (.iastore, 1) := by decide +kernel
theorem d_J_add_46 : decode prog_3_method_7_code 46 = .ok (.aload_n 0, 1) := by decide +kernel
theorem d_J_add_47 : decode prog_3_method_7_code 47 = .ok (.getfield 21, 3) := by decide +kernel
theorem d_J_add_50 : decode prog_3_method_7_code 50 = .ok (.aload_n 0, 1) := by decide +kernel
theorem d_J_add_51 : decode prog_3_method_7_code 51 = .ok (.getfield 38, 3) := by decide +kernel
theorem d_J_add_54 : decode prog_3_method_7_code 54 = .ok (.aload_n 0, 1) := by decide +kernel
theorem d_J_add_55 : decode prog_3_method_7_code 55 = .ok (.getfield 51, 3) := by decide +kernel
theorem d_J_add_58 : decode prog_3_method_7_code 58 = .ok (.iastore, 1) := by decide +kernel
theorem d_J_add_59 : decode prog_3_method_7_code 59 = .ok (.aload_n 0, 1) := by decide +kernel
theorem d_J_add_60 : decode prog_3_method_7_code 60 = .ok (.getfield 24, 3) := by decide +kernel
theorem d_J_add_63 : decode prog_3_method_7_code 63 = .ok (.aload_n 0, 1) := by decide +kernel
theorem d_J_add_64 : decode prog_3_method_7_code 64 = .ok (.getfield 38, 3) := by decide +kernel
theorem d_J_add_67 : decode prog_3_method_7_code 67 = .ok (.lload 4, 2) := by decide +kernel
theorem d_J_add_69 : decode prog_3_method_7_code 69 = .ok (.lastore, 1) := by decide +kernel
theorem d_J_add_70 : decode prog_3_method_7_code 70 = .ok (.aload_n 0, 1) := by decide +kernel
theorem d_J_add_71 : decode prog_3_method_7_code 71 = .ok (.getfield 28, 3) := by decide +kernel
theorem d_J_add_74 : decode prog_3_method_7_code 74 = .ok (.aload_n 0, 1) := by decide +kernel
theorem d_J_add_75 : decode prog_3_method_7_code 75 = .ok (.getfield 38, 3) := by decide +kernel
theorem d_J_add_78 : decode prog_3_method_7_code 78 = .ok (.lload 6, 2) := by decide +kernel
theorem d_J_add_80 : decode prog_3_method_7_code 80 = .ok (.lastore, 1) := by decide +kernel
theorem d_J_add_81 : decode prog_3_method_7_code 81 = .ok (.aload_n 0, 1) := by decide +kernel
theorem d_J_add_82 : decode prog_3_method_7_code 82 = .ok (.dup, 1) := by decide +kernel
theorem d_J_add_83 : decode prog_3_method_7_code 83 = .ok (.getfield 38, 3) := by decide +kernel
theorem d_J_add_86 : decode prog_3_method_7_code 86 = .ok (.iconst 1, 1) := by decide +kernel
theorem d_J_add_87 : decode prog_3_method_7_code 87 = .ok (.iadd, 1) := by decide +kernel
theorem d_J_add_88 : decode prog_3_method_7_code 88 = .ok (.putfield 38, 3) := by decide +kernel
theorem d_J_add_91 : decode prog_3_method_7_code 91 = .ok (.aload_n 0, 1) := by decide +kernel
theorem d_J_add_92 : decode prog_3_method_7_code 92 = .ok (.dup, 1) := by decide +kernel
theorem d_J_add_93 : decode prog_3_method_7_code 93 = .ok (.getfield 57, 3) := by decide +kernel
theorem d_J_add_96 : decode prog_3_method_7_code 96 = .ok (.iload_n 3, 1) := by decide +kernel
theorem d_J_add_97 : decode prog_3_method_7_code 97 = .ok (.iadd, 1) := by decide +kernel
theorem d_J_add_98 : decode prog_3_method_7_code 98 = .ok (.putfield 57, 3) := by decide +kernel
theorem d_J_add_101 : decode prog_3_method_7_code 101 = .ok (.aload_n 0, 1) := by decide +kernel
theorem d_J_add_102 : decode prog_3_method_7_code 102 = .ok (.dup, 1) := by decide +kernel
theorem d_J_add_103 : decode prog_3_method_7_code 103 = .ok (.getfield 44, 3) := by decide +kernel
theorem d_J_add_106 : decode prog_3_method_7_code 106 = .ok (.iload_n 3, 1) := by decide +kernel
theorem d_J_add_107 : decode prog_3_method_7_code 107 = .ok (.iadd, 1) := by decide +kernel
theorem d_J_add_108 : decode prog_3_method_7_code 108 = .ok (.putfield 44, 3) := by decide +kernel
theorem d_J_add_111 : decode prog_3_method_7_code 111 = .ok (.aload_n 0, 1) := by decide +kernel
theorem d_J_add_112 : decode prog_3_method_7_code 112 = .ok (.iconst 1, 1) := by decide +kernel
theorem d_J_add_113 : decode prog_3_method_7_code 113 = .ok (.putfield 60, 3) := by decide +kernel
theorem d_J_add_116 : decode prog_3_method_7_code 116 = .ok (.return_, 1) := by decide +kernel
set_option maxHeartbeats 4000000 in
set_option maxRecDepth 100000 in
theorem v_jadd_0 (l : Launch) (D : va_G) (dA : Nat → ClassId) (sz : Nat) (h : Nat) (ad : Nat → Nat) (x : VS) (kd : Nat) (w : Nat) (n : Nat) (a : Int64) (b : Int64) (h0 : x.jsize < x.jN) (h9 : x.jN ≤ 65536) : Met l ⟨"SeriesVault$Journal", "add", "(IIIJJ)V"⟩ [Cond.code ⟨"SeriesVault$Journal", "add", "(IIIJJ)V"⟩ prog_3_method_7_code 8 none] { frames := 1, cells := 0, slots := 0, locals := 0 } (pC D dA [.ref (ad 0), .int (nI kd), .int (nI w), .int (nI n), .long a, .long b] (VW dA h ad x) sz) (va_Qv (fun (u9 : Unit) => True) (fun (u9 : Unit) t9 => bW D (va_A (VW dA h ad x) sz) (VW dA h ad (VS.s_jch (VS.s_jfill (VS.s_junits (VS.s_jsize (VS.s_jS (VS.s_jF (VS.s_jB (VS.s_jU (VS.s_jO (VS.s_jK x (va_up x.jK x.jsize kd)) (va_up x.jO x.jsize w)) (va_up x.jU x.jsize n)) (va_up x.jB x.jsize x.jblock)) (va_up x.jF x.jsize a)) (va_up x.jS x.jsize b)) (x.jsize + 1)) (x.junits + n)) (x.jfill + n)) true)) t9) (va_A (VW dA h ad x) sz)) 0 0 (va_A (VW dA h ad x) sz) := by
  refine mkC (y := ⟨"SeriesVault$Journal", "add", "(IIIJJ)V"⟩) (cc := prog_3_method_7_code) (maxL := 8) (av := [.ref (ad 0), .int (nI kd), .int (nI w), .int (nI n), .long a, .long b]) (ws := VW dA h ad x) (sz := sz) (Qc := fun A => va_Qv (fun (u9 : Unit) => True) (fun (u9 : Unit) t9 => bW D A (VW dA h ad (VS.s_jch (VS.s_jfill (VS.s_junits (VS.s_jsize (VS.s_jS (VS.s_jF (VS.s_jB (VS.s_jU (VS.s_jO (VS.s_jK x (va_up x.jK x.jsize kd)) (va_up x.jO x.jsize w)) (va_up x.jU x.jsize n)) (va_up x.jB x.jsize x.jblock)) (va_up x.jF x.jsize a)) (va_up x.jS x.jsize b)) (x.jsize + 1)) (x.junits + n)) (x.jfill + n)) true)) t9) A) (by decide) (Nat.le_of_ble_eq_true rfl) ?_
  intro A p e s m below meth c ls hsz hB
  obtain ⟨hx, hb, hr, hml, hown, hin, hlk, hE, hK, hP, hD, hS, hA, hN, hl⟩ := hB
  have hown : s.vm.findClass "SeriesVault$Journal" = some m.cls := hown
  have hl : lv_has ls 8 [(0, .ref (ad 0)), (1, .int (nI kd)), (2, .int (nI w)), (3, .int (nI n)), (4, .long a), (6, .long b)] := hl
  obtain ⟨H, hH⟩ : ∃ z, z = s.heap := ⟨_, rfl⟩
  have hP : va_P D vwCl (VW dA h ad x) H := by rw [hH]; exact hP
  have hS : va_S A s.heap H [] := by rw [hH]; exact hS
  rw [← hH]
  refine lv_aload_n hx hb d_J_add_0 rfl (lv_at hl 0 rfl) ?_
  refine gF (v := .int (nI x.jsize)) hx hb hown hE hK hP 2 rfl rfl layJ 6 (by decide) w545 rfl d_J_add_1 ?_
  refine lv_aload_n hx hb d_J_add_4 rfl (lv_at hl 0 rfl) ?_
  refine gF (v := .ref (x.jA 0)) hx hb hown hE hK hP 2 rfl rfl layJ 0 (by decide) w190 rfl d_J_add_5 ?_
  refine va_alen (v := nI x.jN) hx hb hK hP 3 1 rfl rfl rfl d_J_add_8 ?_
  refine lv_icmp_ne hx hb d_J_add_9 (tgt := 16) rfl (fun g1 => ?_) (fun g1 => ?_)
  rotate_left
  · have g1 := (nI_eq (a := x.jsize) (b := x.jN) (by omega) (by omega)).mp g1; exfalso; omega
  have g1 := mt (nI_eq (a := x.jsize) (b := x.jN) (by omega) (by omega)).mpr g1
  refine lv_aload_n hx hb d_J_add_16 rfl (lv_at hl 0 rfl) ?_
  refine gF (v := .ref (x.jA 0)) hx hb hown hE hK hP 2 rfl rfl layJ 0 (by decide) w190 rfl d_J_add_17 ?_
  refine lv_aload_n hx hb d_J_add_20 rfl (lv_at hl 0 rfl) ?_
  refine gF (v := .int (nI x.jsize)) hx hb hown hE hK hP 2 rfl rfl layJ 6 (by decide) w545 rfl d_J_add_21 ?_
  refine lv_iload_n hx hb d_J_add_24 rfl (lv_at hl 1 rfl) ?_
  refine nistN (v := kd) (n := x.jN) hx hb hK hP hD hS 3 1 rfl rfl (x.jsize) (by omega) (by omega) d_J_add_25 (fun H locs hP hD hS => ?_)
  have hP : va_P D vwCl (VW dA h ad (VS.s_jK x (va_up x.jK x.jsize kd))) H := hP
  have hD : va_D A (VW dA h ad (VS.s_jK x (va_up x.jK x.jsize kd))) := hD
  refine lv_aload_n hx hb d_J_add_26 rfl (lv_at hl 0 rfl) ?_
  refine gF (v := .ref (x.jA 1)) hx hb hown hE hK hP 2 rfl rfl layJ 1 (by decide) w191 rfl d_J_add_27 ?_
  refine lv_aload_n hx hb d_J_add_30 rfl (lv_at hl 0 rfl) ?_
  refine gF (v := .int (nI x.jsize)) hx hb hown hE hK hP 2 rfl rfl layJ 6 (by decide) w545 rfl d_J_add_31 ?_
  refine lv_iload_n hx hb d_J_add_34 rfl (lv_at hl 2 rfl) ?_
  refine nistN (v := w) (n := x.jN) hx hb hK hP hD hS 4 1 rfl rfl (x.jsize) (by omega) (by omega) d_J_add_35 (fun H locs hP hD hS => ?_)
  have hP : va_P D vwCl (VW dA h ad (VS.s_jO (VS.s_jK x (va_up x.jK x.jsize kd)) (va_up x.jO x.jsize w))) H := hP
  have hD : va_D A (VW dA h ad (VS.s_jO (VS.s_jK x (va_up x.jK x.jsize kd)) (va_up x.jO x.jsize w))) := hD
  refine lv_aload_n hx hb d_J_add_36 rfl (lv_at hl 0 rfl) ?_
  refine gF (v := .ref (x.jA 2)) hx hb hown hE hK hP 2 rfl rfl layJ 2 (by decide) w192 rfl d_J_add_37 ?_
  refine lv_aload_n hx hb d_J_add_40 rfl (lv_at hl 0 rfl) ?_
  refine gF (v := .int (nI x.jsize)) hx hb hown hE hK hP 2 rfl rfl layJ 6 (by decide) w545 rfl d_J_add_41 ?_
  refine lv_iload_n hx hb d_J_add_44 rfl (lv_at hl 3 rfl) ?_
  refine nistN (v := n) (n := x.jN) hx hb hK hP hD hS 5 1 rfl rfl (x.jsize) (by omega) (by omega) d_J_add_45 (fun H locs hP hD hS => ?_)
  have hP : va_P D vwCl (VW dA h ad (VS.s_jU (VS.s_jO (VS.s_jK x (va_up x.jK x.jsize kd)) (va_up x.jO x.jsize w)) (va_up x.jU x.jsize n))) H := hP
  have hD : va_D A (VW dA h ad (VS.s_jU (VS.s_jO (VS.s_jK x (va_up x.jK x.jsize kd)) (va_up x.jO x.jsize w)) (va_up x.jU x.jsize n))) := hD
  refine lv_aload_n hx hb d_J_add_46 rfl (lv_at hl 0 rfl) ?_
  refine gF (v := .ref (x.jA 3)) hx hb hown hE hK hP 2 rfl rfl layJ 3 (by decide) w193 rfl d_J_add_47 ?_
  refine lv_aload_n hx hb d_J_add_50 rfl (lv_at hl 0 rfl) ?_
  refine gF (v := .int (nI x.jsize)) hx hb hown hE hK hP 2 rfl rfl layJ 6 (by decide) w545 rfl d_J_add_51 ?_
  refine lv_aload_n hx hb d_J_add_54 rfl (lv_at hl 0 rfl) ?_
  refine gF (v := .int (nI x.jblock)) hx hb hown hE hK hP 2 rfl rfl layJ 10 (by decide) w553 rfl d_J_add_55 ?_
  refine nistN (v := x.jblock) (n := x.jN) hx hb hK hP hD hS 6 1 rfl rfl (x.jsize) (by omega) (by omega) d_J_add_58 (fun H locs hP hD hS => ?_)
  have hP : va_P D vwCl (VW dA h ad (VS.s_jB (VS.s_jU (VS.s_jO (VS.s_jK x (va_up x.jK x.jsize kd)) (va_up x.jO x.jsize w)) (va_up x.jU x.jsize n)) (va_up x.jB x.jsize x.jblock))) H := hP
  have hD : va_D A (VW dA h ad (VS.s_jB (VS.s_jU (VS.s_jO (VS.s_jK x (va_up x.jK x.jsize kd)) (va_up x.jO x.jsize w)) (va_up x.jU x.jsize n)) (va_up x.jB x.jsize x.jblock))) := hD
  refine lv_aload_n hx hb d_J_add_59 rfl (lv_at hl 0 rfl) ?_
  refine gF (v := .ref (x.jA 4)) hx hb hown hE hK hP 2 rfl rfl layJ 4 (by decide) w194 rfl d_J_add_60 ?_
  refine lv_aload_n hx hb d_J_add_63 rfl (lv_at hl 0 rfl) ?_
  refine gF (v := .int (nI x.jsize)) hx hb hown hE hK hP 2 rfl rfl layJ 6 (by decide) w545 rfl d_J_add_64 ?_
  refine lv_lload hx hb d_J_add_67 (lv_at hl 4 rfl) ?_
  refine nlst (n := x.jN) hx hb hK hP hD hS 7 2 rfl rfl (x.jsize) (by omega) (by omega) d_J_add_69 (fun H locs hP hD hS => ?_)
  have hP : va_P D vwCl (VW dA h ad (VS.s_jF (VS.s_jB (VS.s_jU (VS.s_jO (VS.s_jK x (va_up x.jK x.jsize kd)) (va_up x.jO x.jsize w)) (va_up x.jU x.jsize n)) (va_up x.jB x.jsize x.jblock)) (va_up x.jF x.jsize a))) H := hP
  have hD : va_D A (VW dA h ad (VS.s_jF (VS.s_jB (VS.s_jU (VS.s_jO (VS.s_jK x (va_up x.jK x.jsize kd)) (va_up x.jO x.jsize w)) (va_up x.jU x.jsize n)) (va_up x.jB x.jsize x.jblock)) (va_up x.jF x.jsize a))) := hD
  refine lv_aload_n hx hb d_J_add_70 rfl (lv_at hl 0 rfl) ?_
  refine gF (v := .ref (x.jA 5)) hx hb hown hE hK hP 2 rfl rfl layJ 5 (by decide) w195 rfl d_J_add_71 ?_
  refine lv_aload_n hx hb d_J_add_74 rfl (lv_at hl 0 rfl) ?_
  refine gF (v := .int (nI x.jsize)) hx hb hown hE hK hP 2 rfl rfl layJ 6 (by decide) w545 rfl d_J_add_75 ?_
  refine lv_lload hx hb d_J_add_78 (lv_at hl 5 rfl) ?_
  refine nlst (n := x.jN) hx hb hK hP hD hS 8 2 rfl rfl (x.jsize) (by omega) (by omega) d_J_add_80 (fun H locs hP hD hS => ?_)
  have hP : va_P D vwCl (VW dA h ad (VS.s_jS (VS.s_jF (VS.s_jB (VS.s_jU (VS.s_jO (VS.s_jK x (va_up x.jK x.jsize kd)) (va_up x.jO x.jsize w)) (va_up x.jU x.jsize n)) (va_up x.jB x.jsize x.jblock)) (va_up x.jF x.jsize a)) (va_up x.jS x.jsize b))) H := hP
  have hD : va_D A (VW dA h ad (VS.s_jS (VS.s_jF (VS.s_jB (VS.s_jU (VS.s_jO (VS.s_jK x (va_up x.jK x.jsize kd)) (va_up x.jO x.jsize w)) (va_up x.jU x.jsize n)) (va_up x.jB x.jsize x.jblock)) (va_up x.jF x.jsize a)) (va_up x.jS x.jsize b))) := hD
  refine lv_aload_n hx hb d_J_add_81 rfl (lv_at hl 0 rfl) ?_
  refine lv_dup hx hb d_J_add_82 rfl ?_
  refine gF (v := .int (nI x.jsize)) hx hb hown hE hK hP 2 rfl rfl layJ 6 (by decide) w545 rfl d_J_add_83 ?_
  refine lv_iconst (v := 1) hx hb d_J_add_86 (by decide) ?_
  refine lv_iadd hx hb d_J_add_87 (tpi (y := nI (x.jsize + 1)) (nI_add (x.jsize) (1)) ?_)
  refine pF (v := .int (nI (x.jsize + 1))) hx hb hown hE hK hP hD hS 2 rfl rfl layJ tyJ tokJ nmJ 6 (by decide) w545 rfl rfl rfl (Nat.le_of_ble_eq_true rfl) d_J_add_88 (fun H locs hP hD hS => ?_)
  have hP : va_P D vwCl (VW dA h ad (VS.s_jsize (VS.s_jS (VS.s_jF (VS.s_jB (VS.s_jU (VS.s_jO (VS.s_jK x (va_up x.jK x.jsize kd)) (va_up x.jO x.jsize w)) (va_up x.jU x.jsize n)) (va_up x.jB x.jsize x.jblock)) (va_up x.jF x.jsize a)) (va_up x.jS x.jsize b)) (x.jsize + 1))) H := hP
  have hD : va_D A (VW dA h ad (VS.s_jsize (VS.s_jS (VS.s_jF (VS.s_jB (VS.s_jU (VS.s_jO (VS.s_jK x (va_up x.jK x.jsize kd)) (va_up x.jO x.jsize w)) (va_up x.jU x.jsize n)) (va_up x.jB x.jsize x.jblock)) (va_up x.jF x.jsize a)) (va_up x.jS x.jsize b)) (x.jsize + 1))) := hD
  refine lv_aload_n hx hb d_J_add_91 rfl (lv_at hl 0 rfl) ?_
  refine lv_dup hx hb d_J_add_92 rfl ?_
  refine gF (v := .int (nI x.junits)) hx hb hown hE hK hP 2 rfl rfl layJ 8 (by decide) w552 rfl d_J_add_93 ?_
  refine lv_iload_n hx hb d_J_add_96 rfl (lv_at hl 3 rfl) ?_
  refine lv_iadd hx hb d_J_add_97 (tpi (y := nI (x.junits + n)) (nI_add (x.junits) (n)) ?_)
  refine pF (v := .int (nI (x.junits + n))) hx hb hown hE hK hP hD hS 2 rfl rfl layJ tyJ tokJ nmJ 8 (by decide) w552 rfl rfl rfl (Nat.le_of_ble_eq_true rfl) d_J_add_98 (fun H locs hP hD hS => ?_)
  have hP : va_P D vwCl (VW dA h ad (VS.s_junits (VS.s_jsize (VS.s_jS (VS.s_jF (VS.s_jB (VS.s_jU (VS.s_jO (VS.s_jK x (va_up x.jK x.jsize kd)) (va_up x.jO x.jsize w)) (va_up x.jU x.jsize n)) (va_up x.jB x.jsize x.jblock)) (va_up x.jF x.jsize a)) (va_up x.jS x.jsize b)) (x.jsize + 1)) (x.junits + n))) H := hP
  have hD : va_D A (VW dA h ad (VS.s_junits (VS.s_jsize (VS.s_jS (VS.s_jF (VS.s_jB (VS.s_jU (VS.s_jO (VS.s_jK x (va_up x.jK x.jsize kd)) (va_up x.jO x.jsize w)) (va_up x.jU x.jsize n)) (va_up x.jB x.jsize x.jblock)) (va_up x.jF x.jsize a)) (va_up x.jS x.jsize b)) (x.jsize + 1)) (x.junits + n))) := hD
  refine lv_aload_n hx hb d_J_add_101 rfl (lv_at hl 0 rfl) ?_
  refine lv_dup hx hb d_J_add_102 rfl ?_
  refine gF (v := .int (nI x.jfill)) hx hb hown hE hK hP 2 rfl rfl layJ 11 (by decide) w554 rfl d_J_add_103 ?_
  refine lv_iload_n hx hb d_J_add_106 rfl (lv_at hl 3 rfl) ?_
  refine lv_iadd hx hb d_J_add_107 (tpi (y := nI (x.jfill + n)) (nI_add (x.jfill) (n)) ?_)
  refine pF (v := .int (nI (x.jfill + n))) hx hb hown hE hK hP hD hS 2 rfl rfl layJ tyJ tokJ nmJ 11 (by decide) w554 rfl rfl rfl (Nat.le_of_ble_eq_true rfl) d_J_add_108 (fun H locs hP hD hS => ?_)
  have hP : va_P D vwCl (VW dA h ad (VS.s_jfill (VS.s_junits (VS.s_jsize (VS.s_jS (VS.s_jF (VS.s_jB (VS.s_jU (VS.s_jO (VS.s_jK x (va_up x.jK x.jsize kd)) (va_up x.jO x.jsize w)) (va_up x.jU x.jsize n)) (va_up x.jB x.jsize x.jblock)) (va_up x.jF x.jsize a)) (va_up x.jS x.jsize b)) (x.jsize + 1)) (x.junits + n)) (x.jfill + n))) H := hP
  have hD : va_D A (VW dA h ad (VS.s_jfill (VS.s_junits (VS.s_jsize (VS.s_jS (VS.s_jF (VS.s_jB (VS.s_jU (VS.s_jO (VS.s_jK x (va_up x.jK x.jsize kd)) (va_up x.jO x.jsize w)) (va_up x.jU x.jsize n)) (va_up x.jB x.jsize x.jblock)) (va_up x.jF x.jsize a)) (va_up x.jS x.jsize b)) (x.jsize + 1)) (x.junits + n)) (x.jfill + n))) := hD
  refine lv_aload_n hx hb d_J_add_111 rfl (lv_at hl 0 rfl) ?_
  refine lv_iconst (v := 1) hx hb d_J_add_112 (by decide) ?_
  refine pF (v := .int (bI true)) hx hb hown hE hK hP hD hS 2 rfl rfl layJ tyJ tokJ nmJ 12 (by decide) w551 rfl (bI_nar true) (bI_fit true) (Nat.le_of_ble_eq_true rfl) d_J_add_113 (fun H locs hP hD hS => ?_)
  have hP : va_P D vwCl (VW dA h ad (VS.s_jch (VS.s_jfill (VS.s_junits (VS.s_jsize (VS.s_jS (VS.s_jF (VS.s_jB (VS.s_jU (VS.s_jO (VS.s_jK x (va_up x.jK x.jsize kd)) (va_up x.jO x.jsize w)) (va_up x.jU x.jsize n)) (va_up x.jB x.jsize x.jblock)) (va_up x.jF x.jsize a)) (va_up x.jS x.jsize b)) (x.jsize + 1)) (x.junits + n)) (x.jfill + n)) true)) H := hP
  have hD : va_D A (VW dA h ad (VS.s_jch (VS.s_jfill (VS.s_junits (VS.s_jsize (VS.s_jS (VS.s_jF (VS.s_jB (VS.s_jU (VS.s_jO (VS.s_jK x (va_up x.jK x.jsize kd)) (va_up x.jO x.jsize w)) (va_up x.jU x.jsize n)) (va_up x.jB x.jsize x.jblock)) (va_up x.jF x.jsize a)) (va_up x.jS x.jsize b)) (x.jsize + 1)) (x.junits + n)) (x.jfill + n)) true)) := hD
  exact rfV hx hb hr hlk hS () trivial hP hD (Nat.le_of_ble_eq_true rfl) (Nat.le_of_ble_eq_true rfl) d_J_add_116
/-- min of naturals, kept records -/
theorem nI_min {a b : Nat} (ha : a < 2 ^ 31) (hb : b < 2 ^ 31) : (if nI b < nI a then nI b else nI a) = nI (min a b) := by
  by_cases h : b < a
  · rw [if_pos ((nI_ltI hb ha).mpr h), Nat.min_eq_right (by omega)]
  · rw [if_neg (mt (nI_ltI hb ha).mp h), Nat.min_eq_left (by omega)]
/-- r records looked at again: block, fill, units -/
def fgG (jB jU : Nat → Nat) : Nat → Nat × Nat × Nat
  | 0 => (0, 0, 0)
  | r + 1 => (jB r, (if jB r = (fgG jB jU r).1 then (fgG jB jU r).2.1 + jU r else jU r), (fgG jB jU r).2.2 + jU r)
theorem fg_s {jB jU : Nat → Nat} {r a b u v : Nat} (h : fgG jB jU r = (a, b, u)) (hv : (if jB r = a then b + jU r else jU r) = v) : fgG jB jU (r + 1) = (jB r, v, u + jU r) := by
  unfold fgG
  rw [h, ← hv]
theorem nI_max {a b : Nat} (ha : a < 2 ^ 31) (hb : b < 2 ^ 31) : (if nI a < nI b then nI b else nI a) = nI (max a b) := by
  by_cases h : a < b
  · rw [if_pos ((nI_ltI ha hb).mpr h), Nat.max_eq_right (by omega)]
  · rw [if_neg (mt (nI_ltI ha hb).mp h), Nat.max_eq_left (by omega)]
theorem d_J_forgetUnkept_53 : decode prog_3_method_10_code 53 = .ok (.aload_n 0, 1) := by decide +kernel
theorem d_J_forgetUnkept_87 : decode prog_3_method_10_code 87 = .ok (.putfield 44, 3) := by decide +kernel
theorem d_J_forgetUnkept_90 : decode prog_3_method_10_code 90 = .ok (.aload_n 0, 1) := by decide +kernel
theorem d_J_forgetUnkept_91 : decode prog_3_method_10_code 91 = .ok (.aload_n 0, 1) := by decide +kernel
theorem d_J_forgetUnkept_92 : decode prog_3_method_10_code 92 = .ok (.getfield 21, 3) := by decide +kernel
theorem d_J_forgetUnkept_95 : decode prog_3_method_10_code 95 = .ok (.iload_n 1, 1) := by decide +kernel
theorem d_J_forgetUnkept_96 : decode prog_3_method_10_code 96 = .ok (.iaload, 1) := by decide +kernel
theorem d_J_forgetUnkept_97 : decode prog_3_method_10_code 97 = .ok (.putfield 51, 3) := by decide +kernel
theorem d_J_forgetUnkept_100 : decode prog_3_method_10_code 100 = .ok (.aload_n 0, 1) := by decide +kernel
theorem d_J_forgetUnkept_101 : decode prog_3_method_10_code 101 = .ok (.dup, 1) := by decide +kernel
theorem d_J_forgetUnkept_102 : decode prog_3_method_10_code 102 = .ok (.getfield 57, 3) := by decide +kernel
theorem d_J_forgetUnkept_105 : decode prog_3_method_10_code 105 = .ok (.aload_n 0, 1) := by decide +kernel
theorem d_J_forgetUnkept_106 : decode prog_3_method_10_code 106 = .ok (.getfield 18, 3) := by decide +kernel
theorem d_J_forgetUnkept_109 : decode prog_3_method_10_code 109 = .ok (.iload_n 1, 1) := by decide +kernel
theorem d_J_forgetUnkept_110 : decode prog_3_method_10_code 110 = .ok (.iaload, 1) := by decide +kernel
theorem d_J_forgetUnkept_111 : decode prog_3_method_10_code 111 = .ok (.iadd, 1) := by decide +kernel
theorem d_J_forgetUnkept_112 : decode prog_3_method_10_code 112 = .ok (.putfield 57, 3) := by decide +kernel
theorem d_J_forgetUnkept_115 : decode prog_3_method_10_code 115 = .ok (.iinc 1 1, 3) := by decide +kernel
theorem d_J_forgetUnkept_118 : decode prog_3_method_10_code 118 = .ok (.goto (-73), 3) := by decide +kernel
theorem d_J_forgetUnkept_54 : decode prog_3_method_10_code 54 = .ok (.aload_n 0, 1) := by decide +kernel
theorem d_J_forgetUnkept_55 : decode prog_3_method_10_code 55 = .ok (.getfield 21, 3) := by decide +kernel
theorem d_J_forgetUnkept_58 : decode prog_3_method_10_code 58 = .ok (.iload_n 1, 1) := by decide +kernel
theorem d_J_forgetUnkept_59 : decode prog_3_method_10_code 59 = .ok (.iaload, 1) := by decide +kernel
theorem d_J_forgetUnkept_60 : decode prog_3_method_10_code 60 = .ok (.aload_n 0, 1) := by decide +kernel
theorem d_J_forgetUnkept_61 : decode prog_3_method_10_code 61 = .ok (.getfield 51, 3) := by decide +kernel
theorem d_J_forgetUnkept_64 : decode prog_3_method_10_code 64 = .ok (.if_icmp .ne 17, 3) := by decide +kernel
theorem d_J_forgetUnkept_81 : decode prog_3_method_10_code 81 = .ok (.aload_n 0, 1) := by decide +kernel
theorem d_J_forgetUnkept_82 : decode prog_3_method_10_code 82 = .ok (.getfield 18, 3) := by decide +kernel
theorem d_J_forgetUnkept_85 : decode prog_3_method_10_code 85 = .ok (.iload_n 1, 1) := by decide +kernel
theorem d_J_forgetUnkept_86 : decode prog_3_method_10_code 86 = .ok (.iaload, 1) := by decide +kernel
theorem d_J_forgetUnkept_67 : decode prog_3_method_10_code 67 = .ok (.aload_n 0, 1) := by decide +kernel
theorem d_J_forgetUnkept_68 : decode prog_3_method_10_code 68 = .ok (.getfield 44, 3) := by decide +kernel
theorem d_J_forgetUnkept_71 : decode prog_3_method_10_code 71 = .ok (.aload_n 0, 1) := by decide +kernel
theorem d_J_forgetUnkept_72 : decode prog_3_method_10_code 72 = .ok (.getfield 18, 3) := by decide +kernel
theorem d_J_forgetUnkept_75 : decode prog_3_method_10_code 75 = .ok (.iload_n 1, 1) := by decide +kernel
theorem d_J_forgetUnkept_76 : decode prog_3_method_10_code 76 = .ok (.iaload, 1) := by decide +kernel
theorem d_J_forgetUnkept_77 : decode prog_3_method_10_code 77 = .ok (.iadd, 1) := by decide +kernel
theorem d_J_forgetUnkept_78 : decode prog_3_method_10_code 78 = .ok (.goto 9, 3) := by decide +kernel
set_option maxHeartbeats 4000000 in
set_option maxRecDepth 100000 in
theorem v_forgetUnkept (l : Launch) (D : va_G) (dA : Nat → ClassId) (sz : Nat) (h : Nat) (ad : Nat → Nat) (x : VS) (a9 : Nat) (b9 : Nat) (u9n : Nat) (h1 : x.jsize ≤ x.jN) (h9 : x.jN ≤ 65536) (h8 : x.jkept < 2 ^ 31) (h7 : ∀ q : Nat, q < x.jsize → x.jU q ≤ 126 ∧ x.jB q < 65536) (hfg : fgG x.jB x.jU (min x.jsize x.jkept) = (a9, b9, u9n)) : Met l ⟨"SeriesVault$Journal", "forgetUnkept", "()V"⟩ [Cond.code ⟨"SeriesVault$Journal", "forgetUnkept", "()V"⟩ prog_3_method_10_code 2 none] { frames := 1, cells := 0, slots := 0, locals := 14 } (pC D dA [.ref (ad 0)] (VW dA h ad x) sz) (va_Qv (fun (u9 : Unit) => True) (fun (u9 : Unit) t9 => bW D (va_A (VW dA h ad x) sz) (VW dA h ad (VS.s_jch (VS.s_jfill (VS.s_jblock (VS.s_junits (VS.s_jkept (VS.s_jsize x (min x.jsize x.jkept)) (min x.jsize x.jkept)) u9n) a9) b9) false)) t9) (va_A (VW dA h ad x) sz)) 0 0 (va_A (VW dA h ad x) sz) := by
  refine mkC (y := ⟨"SeriesVault$Journal", "forgetUnkept", "()V"⟩) (cc := prog_3_method_10_code) (maxL := 2) (av := [.ref (ad 0)]) (ws := VW dA h ad x) (sz := sz) (Qc := fun A => va_Qv (fun (u9 : Unit) => True) (fun (u9 : Unit) t9 => bW D A (VW dA h ad (VS.s_jch (VS.s_jfill (VS.s_jblock (VS.s_junits (VS.s_jkept (VS.s_jsize x (min x.jsize x.jkept)) (min x.jsize x.jkept)) u9n) a9) b9) false)) t9) A) (by decide) (Nat.le_of_ble_eq_true rfl) ?_
  intro A p e s m below meth c ls hsz hB
  obtain ⟨hx, hb, hr, hml, hown, hin, hlk, hE, hK, hP, hD, hS, hA, hN, hl⟩ := hB
  have hown : s.vm.findClass "SeriesVault$Journal" = some m.cls := hown
  have hl : lv_has ls 2 [(0, .ref (ad 0))] := hl
  obtain ⟨H, hH⟩ : ∃ z, z = s.heap := ⟨_, rfl⟩
  have hP : va_P D vwCl (VW dA h ad x) H := by rw [hH]; exact hP
  have hS : va_S A s.heap H [] := by rw [hH]; exact hS
  rw [← hH]
  refine lv_aload_n hx hb d_J_forgetUnkept_0 rfl (lv_at hl 0 rfl) ?_
  refine lv_aload_n hx hb d_J_forgetUnkept_1 rfl (lv_at hl 0 rfl) ?_
  refine gF (v := .int (nI x.jsize)) hx hb hown hE hK hP 2 rfl rfl layJ 6 (by decide) w545 rfl d_J_forgetUnkept_2 ?_
  refine lv_aload_n hx hb d_J_forgetUnkept_5 rfl (lv_at hl 0 rfl) ?_
  refine gF (v := .int (nI x.jkept)) hx hb hown hE hK hP 2 rfl rfl layJ 7 (by decide) w546 rfl d_J_forgetUnkept_6 ?_
  refine va_mmin hx hb (hml.trans hl.1.symm) hown (hE.t w547 rfl) (hE.t w548 rfl) (hE.t w549 rfl) (hE.t w550 rfl) (Nat.le_of_ble_eq_true rfl) (Nat.le_of_ble_eq_true rfl) (Nat.le_of_ble_eq_true rfl) (Nat.le_of_ble_eq_true rfl) d_J_forgetUnkept_9 (tpi (y := nI (min x.jsize x.jkept)) (nI_min (a := x.jsize) (b := x.jkept) (by omega) (by omega)) ?_)
  refine pF (v := .int (nI (min x.jsize x.jkept))) hx hb hown hE hK hP hD hS 2 rfl rfl layJ tyJ tokJ nmJ 6 (by decide) w545 rfl rfl rfl (Nat.le_of_ble_eq_true rfl) d_J_forgetUnkept_12 (fun H locs hP hD hS => ?_)
  have hP : va_P D vwCl (VW dA h ad (VS.s_jsize x (min x.jsize x.jkept))) H := hP
  have hD : va_D A (VW dA h ad (VS.s_jsize x (min x.jsize x.jkept))) := hD
  refine lv_aload_n hx hb d_J_forgetUnkept_15 rfl (lv_at hl 0 rfl) ?_
  refine lv_aload_n hx hb d_J_forgetUnkept_16 rfl (lv_at hl 0 rfl) ?_
  refine gF (v := .int (nI (min x.jsize x.jkept))) hx hb hown hE hK hP 2 rfl rfl layJ 6 (by decide) w545 rfl d_J_forgetUnkept_17 ?_
  refine pF (v := .int (nI (min x.jsize x.jkept))) hx hb hown hE hK hP hD hS 2 rfl rfl layJ tyJ tokJ nmJ 7 (by decide) w546 rfl rfl rfl (Nat.le_of_ble_eq_true rfl) d_J_forgetUnkept_20 (fun H locs hP hD hS => ?_)
  have hP : va_P D vwCl (VW dA h ad (VS.s_jkept (VS.s_jsize x (min x.jsize x.jkept)) (min x.jsize x.jkept))) H := hP
  have hD : va_D A (VW dA h ad (VS.s_jkept (VS.s_jsize x (min x.jsize x.jkept)) (min x.jsize x.jkept))) := hD
  refine lv_aload_n hx hb d_J_forgetUnkept_23 rfl (lv_at hl 0 rfl) ?_
  refine lv_iconst (v := 0) hx hb d_J_forgetUnkept_24 (by decide) ?_
  refine pF (v := .int (bI false)) hx hb hown hE hK hP hD hS 2 rfl rfl layJ tyJ tokJ nmJ 12 (by decide) w551 rfl (bI_nar false) (bI_fit false) (Nat.le_of_ble_eq_true rfl) d_J_forgetUnkept_25 (fun H locs hP hD hS => ?_)
  have hP : va_P D vwCl (VW dA h ad (VS.s_jch (VS.s_jkept (VS.s_jsize x (min x.jsize x.jkept)) (min x.jsize x.jkept)) false)) H := hP
  have hD : va_D A (VW dA h ad (VS.s_jch (VS.s_jkept (VS.s_jsize x (min x.jsize x.jkept)) (min x.jsize x.jkept)) false)) := hD
  refine lv_aload_n hx hb d_J_forgetUnkept_28 rfl (lv_at hl 0 rfl) ?_
  refine lv_iconst (v := 0) hx hb d_J_forgetUnkept_29 (by decide) ?_
  refine pF (v := .int (nI 0)) hx hb hown hE hK hP hD hS 2 rfl rfl layJ tyJ tokJ nmJ 8 (by decide) w552 rfl rfl rfl (Nat.le_of_ble_eq_true rfl) d_J_forgetUnkept_30 (fun H locs hP hD hS => ?_)
  have hP : va_P D vwCl (VW dA h ad (VS.s_jch (VS.s_junits (VS.s_jkept (VS.s_jsize x (min x.jsize x.jkept)) (min x.jsize x.jkept)) 0) false)) H := hP
  have hD : va_D A (VW dA h ad (VS.s_jch (VS.s_junits (VS.s_jkept (VS.s_jsize x (min x.jsize x.jkept)) (min x.jsize x.jkept)) 0) false)) := hD
  refine lv_aload_n hx hb d_J_forgetUnkept_33 rfl (lv_at hl 0 rfl) ?_
  refine lv_iconst (v := 0) hx hb d_J_forgetUnkept_34 (by decide) ?_
  refine pF (v := .int (nI 0)) hx hb hown hE hK hP hD hS 2 rfl rfl layJ tyJ tokJ nmJ 10 (by decide) w553 rfl rfl rfl (Nat.le_of_ble_eq_true rfl) d_J_forgetUnkept_35 (fun H locs hP hD hS => ?_)
  have hP : va_P D vwCl (VW dA h ad (VS.s_jch (VS.s_jblock (VS.s_junits (VS.s_jkept (VS.s_jsize x (min x.jsize x.jkept)) (min x.jsize x.jkept)) 0) 0) false)) H := hP
  have hD : va_D A (VW dA h ad (VS.s_jch (VS.s_jblock (VS.s_junits (VS.s_jkept (VS.s_jsize x (min x.jsize x.jkept)) (min x.jsize x.jkept)) 0) 0) false)) := hD
  refine lv_aload_n hx hb d_J_forgetUnkept_38 rfl (lv_at hl 0 rfl) ?_
  refine lv_iconst (v := 0) hx hb d_J_forgetUnkept_39 (by decide) ?_
  refine pF (v := .int (nI 0)) hx hb hown hE hK hP hD hS 2 rfl rfl layJ tyJ tokJ nmJ 11 (by decide) w554 rfl rfl rfl (Nat.le_of_ble_eq_true rfl) d_J_forgetUnkept_40 (fun H locs hP hD hS => ?_)
  have hP : va_P D vwCl (VW dA h ad (VS.s_jch (VS.s_jfill (VS.s_jblock (VS.s_junits (VS.s_jkept (VS.s_jsize x (min x.jsize x.jkept)) (min x.jsize x.jkept)) 0) 0) 0) false)) H := hP
  have hD : va_D A (VW dA h ad (VS.s_jch (VS.s_jfill (VS.s_jblock (VS.s_junits (VS.s_jkept (VS.s_jsize x (min x.jsize x.jkept)) (min x.jsize x.jkept)) 0) 0) 0) false)) := hD
  refine lv_iconst (v := 0) hx hb d_J_forgetUnkept_43 (by decide) ?_
  refine lv_istore_n hx hb d_J_forgetUnkept_44 rfl hl (by decide) rfl (fun ls hl => ?_)
  have hl : lv_has ls 2 [(1, .int 0), (0, .ref (ad 0))] := hl
  have L45 : ∀ (k9 : Nat) (r : Nat) (a : Nat) (b : Nat) (u : Nat) (i1 : r ≤ min x.jsize x.jkept) (i2 : fgG x.jB x.jU r = (a, b, u)) (i3 : a < 65536) (i4 : b ≤ 126 * r) (hk9 : min x.jsize x.jkept - r = k9), ∀ (H : Heap) (locs : List Loc) (ls : Array Slot) (hP : va_P D vwCl (VW dA h ad (VS.s_jch (VS.s_jfill (VS.s_jblock (VS.s_junits (VS.s_jkept (VS.s_jsize x (min x.jsize x.jkept)) (min x.jsize x.jkept)) u) a) b) false)) H) (hD : va_D A (VW dA h ad (VS.s_jch (VS.s_jfill (VS.s_jblock (VS.s_junits (VS.s_jkept (VS.s_jsize x (min x.jsize x.jkept)) (min x.jsize x.jkept)) u) a) b) false))) (hS : va_S A s.heap H locs) (hl : lv_has ls 2 [(1, .int (nI r)), (0, .ref (ad 0))]), W p l e ({ frames := 1, cells := 0, slots := 0, locals := 14 } : Room) s m ([.ref (ad 0)] : List Value).toArray below meth c H locs 0 0 (MQ below (va_Qv (fun (u9 : Unit) => True) (fun (u9 : Unit) t9 => bW D A (VW dA h ad (VS.s_jch (VS.s_jfill (VS.s_jblock (VS.s_junits (VS.s_jkept (VS.s_jsize x (min x.jsize x.jkept)) (min x.jsize x.jkept)) u9n) a9) b9) false)) t9) A) ([.ref (ad 0)] : List Value).toArray s 0 0 A) (F0 m 45 ls []) := by
    intro k9
    induction k9 using Nat.strongRecOn with
    | ind k9 ih45 =>
      intro r a b u i1 i2 i3 i4 hk9 H locs ls hP hD hS hl
      refine lv_iload_n hx hb d_J_forgetUnkept_45 rfl (lv_at hl 0 rfl) ?_
      refine lv_aload_n hx hb d_J_forgetUnkept_46 rfl (lv_at hl 1 rfl) ?_
      refine gF (v := .int (nI (min x.jsize x.jkept))) hx hb hown hE hK hP 2 rfl rfl layJ 6 (by decide) w545 rfl d_J_forgetUnkept_47 ?_
      refine lv_icmp_ge hx hb d_J_forgetUnkept_50 (tgt := 121) rfl (fun g1 => ?_) (fun g1 => ?_)
      · have g1 := (nI_leI (a := min x.jsize x.jkept) (b := r) (by omega) (by omega)).mp g1
        have e9 : (VS.s_jch (VS.s_jfill (VS.s_jblock (VS.s_junits (VS.s_jkept (VS.s_jsize x (min x.jsize x.jkept)) (min x.jsize x.jkept)) u) a) b) false : VS) = VS.s_jch (VS.s_jfill (VS.s_jblock (VS.s_junits (VS.s_jkept (VS.s_jsize x (min x.jsize x.jkept)) (min x.jsize x.jkept)) u9n) a9) b9) false := by rw [show u9n = u from by (exact congrArg (fun z => z.2.2) (hfg.symm.trans ((congrArg (fgG x.jB x.jU) (show min x.jsize x.jkept = r by omega)).trans i2))), show a9 = a from by (exact congrArg (fun z => z.1) (hfg.symm.trans ((congrArg (fgG x.jB x.jU) (show min x.jsize x.jkept = r by omega)).trans i2))), show b9 = b from by (exact congrArg (fun z => z.2.1) (hfg.symm.trans ((congrArg (fgG x.jB x.jU) (show min x.jsize x.jkept = r by omega)).trans i2)))] <;> rfl
        exact rfV hx hb hr hlk hS () trivial (cvPv e9 hP) (cvDv e9 hD) (Nat.le_of_ble_eq_true rfl) (Nat.le_of_ble_eq_true rfl) d_J_forgetUnkept_121
      · have g1 := mt (nI_leI (a := min x.jsize x.jkept) (b := r) (by omega) (by omega)).mpr g1
        have b7 := h7 r (by omega)
        have b8 := b7.1
        have b6 := b7.2
        refine lv_aload_n hx hb d_J_forgetUnkept_53 rfl (lv_at hl 1 rfl) ?_
        have J87 : ∀ (v : Nat) (f1 : (if x.jB r = a then b + x.jU r else x.jU r) = v) (f2 : v ≤ 126 * (r + 1)), ∀ (H : Heap) (locs : List Loc) (ls : Array Slot) (hP : va_P D vwCl (VW dA h ad (VS.s_jch (VS.s_jfill (VS.s_jblock (VS.s_junits (VS.s_jkept (VS.s_jsize x (min x.jsize x.jkept)) (min x.jsize x.jkept)) u) a) b) false)) H) (hD : va_D A (VW dA h ad (VS.s_jch (VS.s_jfill (VS.s_jblock (VS.s_junits (VS.s_jkept (VS.s_jsize x (min x.jsize x.jkept)) (min x.jsize x.jkept)) u) a) b) false))) (hS : va_S A s.heap H locs) (hl : lv_has ls 2 [(1, .int (nI r)), (0, .ref (ad 0))]), W p l e ({ frames := 1, cells := 0, slots := 0, locals := 14 } : Room) s m ([.ref (ad 0)] : List Value).toArray below meth c H locs 0 0 (MQ below (va_Qv (fun (u9 : Unit) => True) (fun (u9 : Unit) t9 => bW D A (VW dA h ad (VS.s_jch (VS.s_jfill (VS.s_jblock (VS.s_junits (VS.s_jkept (VS.s_jsize x (min x.jsize x.jkept)) (min x.jsize x.jkept)) u9n) a9) b9) false)) t9) A) ([.ref (ad 0)] : List Value).toArray s 0 0 A) (F0 m 87 ls [.int (nI v), .ref (ad 0)]) := by
          intro v f1 f2 H locs ls hP hD hS hl
          refine pF (v := .int (nI v)) hx hb hown hE hK hP hD hS 2 rfl rfl layJ tyJ tokJ nmJ 11 (by decide) w554 rfl rfl rfl (Nat.le_of_ble_eq_true rfl) d_J_forgetUnkept_87 (fun H locs hP hD hS => ?_)
          have hP : va_P D vwCl (VW dA h ad (VS.s_jch (VS.s_jfill (VS.s_jblock (VS.s_junits (VS.s_jkept (VS.s_jsize x (min x.jsize x.jkept)) (min x.jsize x.jkept)) u) a) v) false)) H := hP
          have hD : va_D A (VW dA h ad (VS.s_jch (VS.s_jfill (VS.s_jblock (VS.s_junits (VS.s_jkept (VS.s_jsize x (min x.jsize x.jkept)) (min x.jsize x.jkept)) u) a) v) false)) := hD
          refine lv_aload_n hx hb d_J_forgetUnkept_90 rfl (lv_at hl 1 rfl) ?_
          refine lv_aload_n hx hb d_J_forgetUnkept_91 rfl (lv_at hl 1 rfl) ?_
          refine gF (v := .ref (x.jA 3)) hx hb hown hE hK hP 2 rfl rfl layJ 3 (by decide) w193 rfl d_J_forgetUnkept_92 ?_
          refine lv_iload_n hx hb d_J_forgetUnkept_95 rfl (lv_at hl 0 rfl) ?_
          refine nild (f := (fun z9 => nI (x.jB z9))) (n := x.jN) hx hb hK hP 6 1 rfl rfl (r) (by omega) (by omega) d_J_forgetUnkept_96 ?_
          refine pF (v := .int (nI (x.jB r))) hx hb hown hE hK hP hD hS 2 rfl rfl layJ tyJ tokJ nmJ 10 (by decide) w553 rfl rfl rfl (Nat.le_of_ble_eq_true rfl) d_J_forgetUnkept_97 (fun H locs hP hD hS => ?_)
          have hP : va_P D vwCl (VW dA h ad (VS.s_jch (VS.s_jfill (VS.s_jblock (VS.s_junits (VS.s_jkept (VS.s_jsize x (min x.jsize x.jkept)) (min x.jsize x.jkept)) u) (x.jB r)) v) false)) H := hP
          have hD : va_D A (VW dA h ad (VS.s_jch (VS.s_jfill (VS.s_jblock (VS.s_junits (VS.s_jkept (VS.s_jsize x (min x.jsize x.jkept)) (min x.jsize x.jkept)) u) (x.jB r)) v) false)) := hD
          refine lv_aload_n hx hb d_J_forgetUnkept_100 rfl (lv_at hl 1 rfl) ?_
          refine lv_dup hx hb d_J_forgetUnkept_101 rfl ?_
          refine gF (v := .int (nI u)) hx hb hown hE hK hP 2 rfl rfl layJ 8 (by decide) w552 rfl d_J_forgetUnkept_102 ?_
          refine lv_aload_n hx hb d_J_forgetUnkept_105 rfl (lv_at hl 1 rfl) ?_
          refine gF (v := .ref (x.jA 2)) hx hb hown hE hK hP 2 rfl rfl layJ 2 (by decide) w192 rfl d_J_forgetUnkept_106 ?_
          refine lv_iload_n hx hb d_J_forgetUnkept_109 rfl (lv_at hl 0 rfl) ?_
          refine nild (f := (fun z9 => nI (x.jU z9))) (n := x.jN) hx hb hK hP 5 1 rfl rfl (r) (by omega) (by omega) d_J_forgetUnkept_110 ?_
          refine lv_iadd hx hb d_J_forgetUnkept_111 (tpi (y := nI (u + (x.jU r))) (nI_add (u) (x.jU r)) ?_)
          refine pF (v := .int (nI (u + (x.jU r)))) hx hb hown hE hK hP hD hS 2 rfl rfl layJ tyJ tokJ nmJ 8 (by decide) w552 rfl rfl rfl (Nat.le_of_ble_eq_true rfl) d_J_forgetUnkept_112 (fun H locs hP hD hS => ?_)
          have hP : va_P D vwCl (VW dA h ad (VS.s_jch (VS.s_jfill (VS.s_jblock (VS.s_junits (VS.s_jkept (VS.s_jsize x (min x.jsize x.jkept)) (min x.jsize x.jkept)) (u + (x.jU r))) (x.jB r)) v) false)) H := hP
          have hD : va_D A (VW dA h ad (VS.s_jch (VS.s_jfill (VS.s_jblock (VS.s_junits (VS.s_jkept (VS.s_jsize x (min x.jsize x.jkept)) (min x.jsize x.jkept)) (u + (x.jU r))) (x.jB r)) v) false)) := hD
          refine lv_iinc (k := 0) (v := nI (r + 1)) hx hb d_J_forgetUnkept_115 hl rfl (iincN (r) 1 1 (by decide)) (by decide) rfl (fun ls hl => ?_)
          have hl : lv_has ls 2 [(1, .int (nI (r + 1))), (0, .ref (ad 0))] := hl
          refine lv_goto hx hb d_J_forgetUnkept_118 (tgt := 45) rfl ?_
          exact ih45 _ (by omega) (r + 1) (x.jB r) v (u + (x.jU r)) (by omega) (fg_s i2 f1) (by omega) (by omega) rfl H _ ls hP hD hS (lv_sub hl [0, 1] rfl)
        refine lv_aload_n hx hb d_J_forgetUnkept_54 rfl (lv_at hl 1 rfl) ?_
        refine gF (v := .ref (x.jA 3)) hx hb hown hE hK hP 2 rfl rfl layJ 3 (by decide) w193 rfl d_J_forgetUnkept_55 ?_
        refine lv_iload_n hx hb d_J_forgetUnkept_58 rfl (lv_at hl 0 rfl) ?_
        refine nild (f := (fun z9 => nI (x.jB z9))) (n := x.jN) hx hb hK hP 6 1 rfl rfl (r) (by omega) (by omega) d_J_forgetUnkept_59 ?_
        refine lv_aload_n hx hb d_J_forgetUnkept_60 rfl (lv_at hl 1 rfl) ?_
        refine gF (v := .int (nI a)) hx hb hown hE hK hP 2 rfl rfl layJ 10 (by decide) w553 rfl d_J_forgetUnkept_61 ?_
        refine lv_icmp_ne hx hb d_J_forgetUnkept_64 (tgt := 81) rfl (fun g2 => ?_) (fun g2 => ?_)
        · have g2 := mt (nI_eq (a := x.jB r) (b := a) (by omega) (by omega)).mpr g2
          refine lv_aload_n hx hb d_J_forgetUnkept_81 rfl (lv_at hl 1 rfl) ?_
          refine gF (v := .ref (x.jA 2)) hx hb hown hE hK hP 2 rfl rfl layJ 2 (by decide) w192 rfl d_J_forgetUnkept_82 ?_
          refine lv_iload_n hx hb d_J_forgetUnkept_85 rfl (lv_at hl 0 rfl) ?_
          refine nild (f := (fun z9 => nI (x.jU z9))) (n := x.jN) hx hb hK hP 5 1 rfl rfl (r) (by omega) (by omega) d_J_forgetUnkept_86 ?_
          exact J87 (x.jU r) (if_neg g2) (by omega) H _ ls hP hD hS (lv_sub hl [0, 1] rfl)
        · have g2 := (nI_eq (a := x.jB r) (b := a) (by omega) (by omega)).mp g2
          refine lv_aload_n hx hb d_J_forgetUnkept_67 rfl (lv_at hl 1 rfl) ?_
          refine gF (v := .int (nI b)) hx hb hown hE hK hP 2 rfl rfl layJ 11 (by decide) w554 rfl d_J_forgetUnkept_68 ?_
          refine lv_aload_n hx hb d_J_forgetUnkept_71 rfl (lv_at hl 1 rfl) ?_
          refine gF (v := .ref (x.jA 2)) hx hb hown hE hK hP 2 rfl rfl layJ 2 (by decide) w192 rfl d_J_forgetUnkept_72 ?_
          refine lv_iload_n hx hb d_J_forgetUnkept_75 rfl (lv_at hl 0 rfl) ?_
          refine nild (f := (fun z9 => nI (x.jU z9))) (n := x.jN) hx hb hK hP 5 1 rfl rfl (r) (by omega) (by omega) d_J_forgetUnkept_76 ?_
          refine lv_iadd hx hb d_J_forgetUnkept_77 (tpi (y := nI (b + (x.jU r))) (nI_add (b) (x.jU r)) ?_)
          refine lv_goto hx hb d_J_forgetUnkept_78 (tgt := 87) rfl ?_
          exact J87 (b + (x.jU r)) (if_pos g2) (by omega) H _ ls hP hD hS (lv_sub hl [0, 1] rfl)
  exact L45 _ 0 0 0 0 (Nat.zero_le _) rfl (by omega) (by omega) rfl H _ ls hP hD hS (lv_sub hl [0, 1] rfl)
end
