theorem od3_f {m : Bool × MS} (h : m.1 = false) : MS.od3 m = (false, m.2) := if_neg (by rw [h]; decide)
theorem od3_t {m : Bool × MS} {y : MS} (h : m.1 = true) (e : y = m.2) : MS.od3 m = y.dt 3 := (if_pos h).trans (by rw [e])
theorem fn_le (x : MS) : i2n x.fnI ≤ 6 := by
  unfold MS.fnI MS.fn5 MS.fn6
  repeat' split
  all_goals decide
theorem d_M_operand_18 : decode prog_14_method_86_code 18 = .ok (.aload_n 0, 1) := by decide +kernel
theorem d_M_operand_19 : decode prog_14_method_86_code 19 = .ok (.aload_n 0, 1) := by decide +kernel
theorem d_M_operand_20 : decode prog_14_method_86_code 20 = .ok (.getfield 351, 3) := by decide +kernel
theorem d_M_operand_23 : decode prog_14_method_86_code 23 = .ok (.bipush 45, 2) := by decide +kernel
theorem d_M_operand_25 : decode prog_14_method_86_code 25 = .ok (.if_icmp .ne 8, 3) := by decide +kernel
theorem d_M_operand_28 : decode prog_14_method_86_code 28 = .ok (.bipush 109, 2) := by decide +kernel
theorem d_M_operand_30 : decode prog_14_method_86_code 30 = .ok (.goto 5, 3) := by decide +kernel
theorem d_M_operand_35 : decode prog_14_method_86_code 35 = .ok (.invokevirtual 469, 3) := by decide +kernel
theorem d_M_operand_38 : decode prog_14_method_86_code 38 = .ok (.ireturn, 1) := by decide +kernel
theorem d_M_operand_71 : decode prog_14_method_86_code 71 = .ok (.iload_n 1, 1) := by decide +kernel
theorem d_M_operand_72 : decode prog_14_method_86_code 72 = .ok (.ifCond .lt 13, 3) := by decide +kernel
theorem d_M_operand_85 : decode prog_14_method_86_code 85 = .ok (.iload_n 1, 1) := by decide +kernel
theorem d_M_operand_86 : decode prog_14_method_86_code 86 = .ok (.ifCond .ge 23, 3) := by decide +kernel
theorem d_M_operand_89 : decode prog_14_method_86_code 89 = .ok (.aload_n 0, 1) := by decide +kernel
theorem d_M_operand_90 : decode prog_14_method_86_code 90 = .ok (.getfield 442, 3) := by decide +kernel
theorem d_M_operand_93 : decode prog_14_method_86_code 93 = .ok (.ifCond .eq 7, 3) := by decide +kernel
theorem d_M_operand_100 : decode prog_14_method_86_code 100 = .ok (.aload_n 0, 1) := by decide +kernel
theorem d_M_operand_101 : decode prog_14_method_86_code 101 = .ok (.invokevirtual 373, 3) := by decide +kernel
theorem d_M_operand_104 : decode prog_14_method_86_code 104 = .ok (.ifCond .ne 5, 3) := by decide +kernel
theorem d_M_operand_109 : decode prog_14_method_86_code 109 = .ok (.aload_n 0, 1) := by decide +kernel
theorem d_M_operand_110 : decode prog_14_method_86_code 110 = .ok (.iconst 3, 1) := by decide +kernel
theorem d_M_operand_111 : decode prog_14_method_86_code 111 = .ok (.invokevirtual 483, 3) := by decide +kernel
theorem d_M_operand_114 : decode prog_14_method_86_code 114 = .ok (.ireturn, 1) := by decide +kernel
theorem d_M_operand_107 : decode prog_14_method_86_code 107 = .ok (.iconst 0, 1) := by decide +kernel
theorem d_M_operand_108 : decode prog_14_method_86_code 108 = .ok (.ireturn, 1) := by decide +kernel
theorem d_M_operand_96 : decode prog_14_method_86_code 96 = .ok (.aload_n 0, 1) := by decide +kernel
theorem d_M_operand_97 : decode prog_14_method_86_code 97 = .ok (.invokevirtual 481, 3) := by decide +kernel
theorem d_M_operand_75 : decode prog_14_method_86_code 75 = .ok (.aload_n 0, 1) := by decide +kernel
theorem d_M_operand_76 : decode prog_14_method_86_code 76 = .ok (.iload_n 1, 1) := by decide +kernel
theorem d_M_operand_77 : decode prog_14_method_86_code 77 = .ok (.invokevirtual 478, 3) := by decide +kernel
theorem d_M_operand_80 : decode prog_14_method_86_code 80 = .ok (.ifCond .ne 5, 3) := by decide +kernel
theorem d_M_operand_83 : decode prog_14_method_86_code 83 = .ok (.iconst 0, 1) := by decide +kernel
theorem d_M_operand_84 : decode prog_14_method_86_code 84 = .ok (.ireturn, 1) := by decide +kernel
theorem d_M_operand_33 : decode prog_14_method_86_code 33 = .ok (.bipush 40, 2) := by decide +kernel
theorem w1053 : Cond.methodLink "SeriesVaultModel" 469 ⟨"SeriesVaultModel", "opens", "(I)Z"⟩ ∈ aW := aw_of (tb_10 (List.mem_of_getElem? (i := 185) rfl)) rfl
theorem w1054 : Cond.code ⟨"SeriesVaultModel", "opens", "(I)Z"⟩ prog_14_method_80_code 2 (some FieldType.boolean) ∈ aW := aw_of (tb_10 (List.mem_of_getElem? (i := 188) rfl)) rfl
theorem w1055 : Cond.instanceMethod ⟨"SeriesVaultModel", "opens", "(I)Z"⟩ ∈ aW := aw_of (tb_10 (List.mem_of_getElem? (i := 187) rfl)) rfl
theorem w1056 : Cond.selects "SeriesVaultModel" ⟨"SeriesVaultModel", "opens", "(I)Z"⟩ ⟨"SeriesVaultModel", "opens", "(I)Z"⟩ ∈ aW := aw_pr (List.mem_map.mpr ⟨_, pv_7 (List.mem_of_getElem? (i := 4) rfl), rfl⟩) rfl
theorem w1057 : Cond.methodLink "SeriesVaultModel" 483 ⟨"SeriesVaultModel", "doneTo", "(I)Z"⟩ ∈ aW := aw_of (tb_11 (List.mem_of_getElem? (i := 12) rfl)) rfl
theorem w1058 : Cond.code ⟨"SeriesVaultModel", "doneTo", "(I)Z"⟩ prog_14_method_82_code 3 (some FieldType.boolean) ∈ aW := aw_of (tb_11 (List.mem_of_getElem? (i := 15) rfl)) rfl
theorem w1059 : Cond.instanceMethod ⟨"SeriesVaultModel", "doneTo", "(I)Z"⟩ ∈ aW := aw_of (tb_11 (List.mem_of_getElem? (i := 14) rfl)) rfl
theorem w1060 : Cond.selects "SeriesVaultModel" ⟨"SeriesVaultModel", "doneTo", "(I)Z"⟩ ⟨"SeriesVaultModel", "doneTo", "(I)Z"⟩ ∈ aW := aw_pr (List.mem_map.mpr ⟨_, pv_8 (List.mem_of_getElem? (i := 4) rfl), rfl⟩) rfl
theorem w1061 : Cond.methodLink "SeriesVaultModel" 481 ⟨"SeriesVaultModel", "number", "()V"⟩ ∈ aW := aw_of (tb_11 (List.mem_of_getElem? (i := 8) rfl)) rfl
theorem w1062 : Cond.code ⟨"SeriesVaultModel", "number", "()V"⟩ prog_14_method_72_code 2 none ∈ aW := aw_of (tb_11 (List.mem_of_getElem? (i := 11) rfl)) rfl
theorem w1063 : Cond.instanceMethod ⟨"SeriesVaultModel", "number", "()V"⟩ ∈ aW := aw_of (tb_11 (List.mem_of_getElem? (i := 10) rfl)) rfl
theorem w1064 : Cond.selects "SeriesVaultModel" ⟨"SeriesVaultModel", "number", "()V"⟩ ⟨"SeriesVaultModel", "number", "()V"⟩ ∈ aW := aw_pr (List.mem_map.mpr ⟨_, pv_8 (List.mem_of_getElem? (i := 3) rfl), rfl⟩) rfl
theorem w1065 : Cond.methodLink "SeriesVaultModel" 478 ⟨"SeriesVaultModel", "called", "(I)Z"⟩ ∈ aW := aw_of (tb_10 (List.mem_of_getElem? (i := 201) rfl)) rfl
theorem w1066 : Cond.code ⟨"SeriesVaultModel", "called", "(I)Z"⟩ prog_14_method_85_code 4 (some FieldType.boolean) ∈ aW := aw_of (tb_10 (List.mem_of_getElem? (i := 204) rfl)) rfl
theorem w1067 : Cond.instanceMethod ⟨"SeriesVaultModel", "called", "(I)Z"⟩ ∈ aW := aw_of (tb_10 (List.mem_of_getElem? (i := 203) rfl)) rfl
theorem w1068 : Cond.selects "SeriesVaultModel" ⟨"SeriesVaultModel", "called", "(I)Z"⟩ ⟨"SeriesVaultModel", "called", "(I)Z"⟩ ∈ aW := aw_pr (List.mem_map.mpr ⟨_, pv_7 (List.mem_of_getElem? (i := 8) rfl), rfl⟩) rfl
set_option maxHeartbeats 4000000 in
set_option maxRecDepth 100000 in
theorem k_operand (l : Launch) (D : va_G) (dA : Nat → ClassId) (sz : Nat) (h : Nat) (ad : Nat → Nat) (x : MS) (hoi : x.oI 0) : Met l ⟨"SeriesVaultModel", "operand", "()Z"⟩ [Cond.code ⟨"SeriesVaultModel", "operand", "()Z"⟩ prog_14_method_86_code 2 (some FieldType.boolean)] { frames := 7, cells := 0, slots := 0, locals := 154 } (pC D dA [.ref h] (MW dA h ad x) sz) (va_Qi (fun (r9 : Int32) (u9 : MS) => r9 = bI (x.odF).1 ∧ u9 = (x.odF).2) (fun (u9 : MS) t9 => bW D (va_A (MW dA h ad x) sz) (MW dA h ad u9) t9) (va_A (MW dA h ad x) sz)) 0 0 (va_A (MW dA h ad x) sz) := by
  refine mkC (y := ⟨"SeriesVaultModel", "operand", "()Z"⟩) (cc := prog_14_method_86_code) (maxL := 2) (av := [.ref h]) (ws := MW dA h ad x) (sz := sz) (Qc := fun A => va_Qi (fun (r9 : Int32) (u9 : MS) => r9 = bI (x.odF).1 ∧ u9 = (x.odF).2) (fun (u9 : MS) t9 => bW D A (MW dA h ad u9) t9) A) (by decide) (Nat.le_of_ble_eq_true rfl) ?_
  intro A p e s m below meth c ls hsz hB
  obtain ⟨hx, hb, hr, hml, hown, hin, hlk, hE, hK, hP, hD, hS, hA, hN, hl⟩ := hB
  have hown : s.vm.findClass "SeriesVaultModel" = some m.cls := hown
  have hl : lv_has ls 2 [(0, .ref h)] := hl
  obtain ⟨H, hH⟩ : ∃ z, z = s.heap := ⟨_, rfl⟩
  have hP : va_P D vwCl (MW dA h ad x) H := by rw [hH]; exact hP
  have hS : va_S A s.heap H [] := by rw [hH]; exact hS
  rw [← hH]
  have hlx := hoi.1
  have hs26 := sI_26 hoi.2.2.2.1
  have ho8 := hoi.2.2.2.1.1
  have hp20 : x.pile < 20 := oI_pl hoi (by decide)
  refine lv_aload_n hx hb d_M_operand_0 rfl (lv_at hl 0 rfl) ?_
  refine gF (v := .int x.kind) hx hb hown hE hK hP 0 rfl rfl layM 44 (by decide) w469 rfl d_M_operand_1 ?_
  refine lv_bipush (v := 45) hx hb d_M_operand_4 (by decide) ?_
  refine lv_icmp_eq hx hb d_M_operand_6 (tgt := 18) rfl (fun g1 => ?_) (fun g1 => ?_)
  · have g1 := g1
    refine lv_aload_n hx hb d_M_operand_18 rfl (lv_at hl 0 rfl) ?_
    refine lv_aload_n hx hb d_M_operand_19 rfl (lv_at hl 0 rfl) ?_
    refine gF (v := .int x.kind) hx hb hown hE hK hP 0 rfl rfl layM 44 (by decide) w469 rfl d_M_operand_20 ?_
    refine lv_bipush (v := 45) hx hb d_M_operand_23 (by decide) ?_
    refine lv_icmp_ne hx hb d_M_operand_25 (tgt := 33) rfl (fun h9 => absurd g1 h9) (fun _ => ?_)
    refine lv_bipush (v := 109) hx hb d_M_operand_28 (by decide) ?_
    refine lv_goto hx hb d_M_operand_30 (tgt := 35) rfl ?_
    refine jfI (rnV (As := [.int 109]) (rest := []) hx hb hml hown hE hK (hN _ _ hS) hP hD (k_opens l D dA H.size h ad x 109 hlx (show x.signCount < 32 from by omega) (show x.opn ≤ 8 from by omega)) (q0 := 0) rfl rfl w1054 w1053 w1055 w1056 w328 rfl rfl ⟨⟨by decide, by decide⟩, rfl⟩ ⟨(Nat.le_of_ble_eq_true rfl), (Nat.le_of_ble_eq_true rfl)⟩ rfl hl.1 rfl (Nat.le_of_ble_eq_true rfl) d_M_operand_35 ⟨(Nat.le_of_ble_eq_true rfl), (Nat.le_of_ble_eq_true rfl)⟩) hP hD hS hA (fun r2 u3 H locs hp9 hP hD hS => ?_)
    obtain ⟨y4, h9u⟩ : ∃ z9, z9 = u3 := ⟨_, rfl⟩
    subst h9u
    have hP : va_P D vwCl (MW dA h ad y4) H := hP
    have hD : va_D A (MW dA h ad y4) := hD
    obtain ⟨hp9, f_e_5⟩ := hp9
    replace hp9 : bI (x.osF 109).1 = r2 := Eq.symm hp9
    subst hp9
    exact rfZ hx hb hr (bI_nar ((x.osF 109).1)) hlk hS y4 (by have e9 : x.odF = x.osF 109 := if_pos g1; rw [e9]; exact ⟨rfl, f_e_5⟩) hP hD (Nat.le_of_ble_eq_true rfl) (Nat.le_of_ble_eq_true rfl) d_M_operand_38
  · have g1 := g1
    refine lv_aload_n hx hb d_M_operand_9 rfl (lv_at hl 0 rfl) ?_
    refine gF (v := .int x.kind) hx hb hown hE hK hP 0 rfl rfl layM 44 (by decide) w469 rfl d_M_operand_10 ?_
    refine lv_bipush (v := 40) hx hb d_M_operand_13 (by decide) ?_
    refine lv_icmp_ne hx hb d_M_operand_15 (tgt := 39) rfl (fun g6 => ?_) (fun g6 => ?_)
    · have g6 := g6
      refine lv_aload_n hx hb d_M_operand_39 rfl (lv_at hl 0 rfl) ?_
      refine lv_iconst (v := 0) hx hb d_M_operand_40 (by decide) ?_
      refine pF (v := .int (bI false)) hx hb hown hE hK hP hD hS 0 rfl rfl layM tyM tokM nmM 70 (by decide) w470 rfl (bI_nar false) (bI_fit false) (Nat.le_of_ble_eq_true rfl) d_M_operand_41 (fun H locs hP hD hS => ?_)
      have hP : va_P D vwCl (MW dA h ad (MS.s_wants x false)) H := hP
      have hD : va_D A (MW dA h ad (MS.s_wants x false)) := hD
      refine lv_aload_n hx hb d_M_operand_44 rfl (lv_at hl 0 rfl) ?_
      refine jfI (rnV (As := []) (rest := []) hx hb hml hown hE hK (hN _ _ hS) hP hD (k_function l D dA H.size h ad (MS.s_wants x false) hlx) (q0 := 0) rfl rfl w472 w471 w473 w474 w328 rfl rfl ⟨⟨by decide, by decide⟩, rfl⟩ ⟨(Nat.le_of_ble_eq_true rfl), (Nat.le_of_ble_eq_true rfl)⟩ rfl hl.1 rfl (Nat.le_of_ble_eq_true rfl) d_M_operand_45 ⟨(Nat.le_of_ble_eq_true rfl), (Nat.le_of_ble_eq_true rfl)⟩) hP hD hS hA (fun r7 u8 H locs hp9 hP hD hS => ?_)
      have hP : va_P D vwCl (MW dA h ad (MS.s_wants x false)) H := hP
      have hD : va_D A (MW dA h ad (MS.s_wants x false)) := hD
      replace hp9 : x.fnI = r7 := Eq.symm hp9
      subst hp9
      refine lv_istore_n hx hb d_M_operand_48 rfl hl (by decide) rfl (fun ls hl => ?_)
      have hl : lv_has ls 2 [(1, .int x.fnI), (0, .ref h)] := hl
      refine lv_aload_n hx hb d_M_operand_49 rfl (lv_at hl 1 rfl) ?_
      refine gF (v := .int x.kind) hx hb hown hE hK hP 0 rfl rfl layM 44 (by decide) w469 rfl d_M_operand_50 ?_
      refine lv_iconst (v := 1) hx hb d_M_operand_53 (by decide) ?_
      refine lv_icmp_eq hx hb d_M_operand_54 (tgt := 71) rfl (fun g9 => ?_) (fun g9 => ?_)
      · have g9 := g9
        refine lv_iload_n hx hb d_M_operand_71 rfl (lv_at hl 0 rfl) ?_
        refine lv_if_lt hx hb d_M_operand_72 (tgt := 85) rfl (fun g10 => ?_) (fun g10 => ?_)
        · have g10 := g10
          refine lv_iload_n hx hb d_M_operand_85 rfl (lv_at hl 0 rfl) ?_
          refine lv_if_ge hx hb d_M_operand_86 (tgt := 109) rfl (fun h9 => absurd h9 (Int32.not_le.mpr g10)) (fun _ => ?_)
          refine lv_aload_n hx hb d_M_operand_89 rfl (lv_at hl 1 rfl) ?_
          refine gF (v := .int (bI x.works)) hx hb hown hE hK hP 0 rfl rfl layM 56 (by decide) w475 rfl d_M_operand_90 ?_
          refine lv_if_eq hx hb d_M_operand_93 (tgt := 100) rfl (fun g11 => ?_) (fun g11 => ?_)
          · have g11 := bI_0 g11
            refine lv_aload_n hx hb d_M_operand_100 rfl (lv_at hl 1 rfl) ?_
            refine jfI (rnV (As := []) (rest := []) hx hb hml hown hE hK (hN _ _ hS) hP hD (k_next l D dA H.size h ad (MS.s_wants x false) hlx.1 hlx.2.2.1 hlx.2.2.2) (q0 := 0) rfl rfl w480 w479 w481 w482 w328 rfl rfl ⟨⟨by decide, by decide⟩, rfl⟩ ⟨(Nat.le_of_ble_eq_true rfl), (Nat.le_of_ble_eq_true rfl)⟩ rfl hl.1 rfl (Nat.le_of_ble_eq_true rfl) d_M_operand_101 ⟨(Nat.le_of_ble_eq_true rfl), (Nat.le_of_ble_eq_true rfl)⟩) hP hD hS hA (fun r12 u13 H locs hp9 hP hD hS => ?_)
            obtain ⟨y14, h9u⟩ : ∃ z9, z9 = u13 := ⟨_, rfl⟩
            subst h9u
            have hP : va_P D vwCl (MW dA h ad y14) H := hP
            have hD : va_D A (MW dA h ad y14) := hD
            obtain ⟨hp9, f_e_15⟩ := hp9
            replace hp9 : bI ((MS.s_wants x false).nx).1 = r12 := Eq.symm hp9
            subst hp9
            refine lv_if_ne hx hb d_M_operand_104 (tgt := 109) rfl (fun g16 => ?_) (fun g16 => ?_)
            · have g16 := bI_n0 g16
              have d9 : y14.dI := by rw [f_e_15]; exact oI_dI (nm_oI (y := MS.s_wants x false) hoi (show (MS.s_wants x false).nm1 = (true, (MS.s_wants x false).nx.2) from (if_neg (by rw [show (MS.s_wants x false).works = false from g11]; decide)).trans (Prod.ext g16 rfl))).1
              refine lv_aload_n hx hb d_M_operand_109 rfl (lv_at hl 1 rfl) ?_
              refine lv_iconst (v := 3) hx hb d_M_operand_110 (by decide) ?_
              refine jfI (rnV (As := [.int 3]) (rest := []) hx hb hml hown hE hK (hN _ _ hS) hP hD (k_doneTo l D dA H.size h ad y14 3 d9 (by decide) (by decide)) (q0 := 0) rfl rfl w1058 w1057 w1059 w1060 w328 rfl rfl ⟨⟨by decide, by decide⟩, rfl⟩ ⟨(Nat.le_of_ble_eq_true rfl), (Nat.le_of_ble_eq_true rfl)⟩ rfl hl.1 rfl (Nat.le_of_ble_eq_true rfl) d_M_operand_111 ⟨(Nat.le_of_ble_eq_true rfl), (Nat.le_of_ble_eq_true rfl)⟩) hP hD hS hA (fun r17 u18 H locs hp9 hP hD hS => ?_)
              obtain ⟨y19, h9u⟩ : ∃ z9, z9 = u18 := ⟨_, rfl⟩
              subst h9u
              have hP : va_P D vwCl (MW dA h ad y19) H := hP
              have hD : va_D A (MW dA h ad y19) := hD
              obtain ⟨hp9, f_e_20⟩ := hp9
              replace hp9 : bI (y14.dt 3).1 = r17 := Eq.symm hp9
              subst hp9
              exact rfZ hx hb hr (bI_nar ((y14.dt 3).1)) hlk hS y19 (by have e9 : x.odF = MS.od3 (MS.s_wants x false).nm1 := (if_neg g1).trans ((if_neg g6).trans ((if_pos g10).trans (if_pos g9))); rw [e9, (show (MS.s_wants x false).nm1 = (MS.s_wants x false).nx from if_neg (by rw [show (MS.s_wants x false).works = false from g11]; decide)), od3_t (m := (MS.s_wants x false).nx) g16 f_e_15]; exact ⟨rfl, f_e_20⟩) hP hD (Nat.le_of_ble_eq_true rfl) (Nat.le_of_ble_eq_true rfl) d_M_operand_114
            · have g16 := bI_0 g16
              refine lv_iconst (v := 0) hx hb d_M_operand_107 (by decide) ?_
              exact rfZ hx hb hr (bI_nar false) hlk hS y14 (by have e9 : x.odF = MS.od3 (MS.s_wants x false).nm1 := (if_neg g1).trans ((if_neg g6).trans ((if_pos g10).trans (if_pos g9))); rw [e9, (show (MS.s_wants x false).nm1 = (MS.s_wants x false).nx from if_neg (by rw [show (MS.s_wants x false).works = false from g11]; decide)), od3_f (m := (MS.s_wants x false).nx) g16]; exact ⟨rfl, f_e_15⟩) hP hD (Nat.le_of_ble_eq_true rfl) (Nat.le_of_ble_eq_true rfl) d_M_operand_108
          · have g11 := bI_n0 g11
            have hwk : x.works = true := g11
            refine lv_aload_n hx hb d_M_operand_96 rfl (lv_at hl 1 rfl) ?_
            refine jfV (rnV (As := []) (rest := []) hx hb hml hown hE hK (hN _ _ hS) hP hD (k_number_v l D dA H.size h ad (MS.s_wants x false) hp20 (hoi.2.2.2.2.1 hwk).2.2.2.2.1) (q0 := 0) rfl rfl w1062 w1061 w1063 w1064 w328 rfl rfl ⟨⟨by decide, by decide⟩, rfl⟩ ⟨(Nat.le_of_ble_eq_true rfl), (Nat.le_of_ble_eq_true rfl)⟩ rfl hl.1 rfl (Nat.le_of_ble_eq_true rfl) d_M_operand_97 ⟨(Nat.le_of_ble_eq_true rfl), (Nat.le_of_ble_eq_true rfl)⟩) hP hD hS hA (fun u22 H locs hp9 hP hD hS => ?_)
            have hP : va_P D vwCl (MW dA h ad (MS.s_wants (MS.s_pile (MS.s_isCell (MS.s_cells (MS.s_rowSeries (MS.s_tableRows (MS.s_tableNames x (va_up x.tableNames x.pile 0)) (va_up x.tableRows x.pile 1)) (va_up x.rowSeries (256 * x.pile) 0)) (filG x.cells (cA x.pile 0) x.amount x.windows)) (filG x.isCell (cA x.pile 0) true x.windows)) (x.pile + 1)) false)) H := hP
            have hD : va_D A (MW dA h ad (MS.s_wants (MS.s_pile (MS.s_isCell (MS.s_cells (MS.s_rowSeries (MS.s_tableRows (MS.s_tableNames x (va_up x.tableNames x.pile 0)) (va_up x.tableRows x.pile 1)) (va_up x.rowSeries (256 * x.pile) 0)) (filG x.cells (cA x.pile 0) x.amount x.windows)) (filG x.isCell (cA x.pile 0) true x.windows)) (x.pile + 1)) false)) := hD
            refine lv_aload_n hx hb d_M_operand_100 rfl (lv_at hl 1 rfl) ?_
            refine jfI (rnV (As := []) (rest := []) hx hb hml hown hE hK (hN _ _ hS) hP hD (k_next l D dA H.size h ad (MS.s_wants (MS.s_pile (MS.s_isCell (MS.s_cells (MS.s_rowSeries (MS.s_tableRows (MS.s_tableNames x (va_up x.tableNames x.pile 0)) (va_up x.tableRows x.pile 1)) (va_up x.rowSeries (256 * x.pile) 0)) (filG x.cells (cA x.pile 0) x.amount x.windows)) (filG x.isCell (cA x.pile 0) true x.windows)) (x.pile + 1)) false) hlx.1 hlx.2.2.1 hlx.2.2.2) (q0 := 0) rfl rfl w480 w479 w481 w482 w328 rfl rfl ⟨⟨by decide, by decide⟩, rfl⟩ ⟨(Nat.le_of_ble_eq_true rfl), (Nat.le_of_ble_eq_true rfl)⟩ rfl hl.1 rfl (Nat.le_of_ble_eq_true rfl) d_M_operand_101 ⟨(Nat.le_of_ble_eq_true rfl), (Nat.le_of_ble_eq_true rfl)⟩) hP hD hS hA (fun r23 u24 H locs hp9 hP hD hS => ?_)
            obtain ⟨y25, h9u⟩ : ∃ z9, z9 = u24 := ⟨_, rfl⟩
            subst h9u
            have hP : va_P D vwCl (MW dA h ad y25) H := hP
            have hD : va_D A (MW dA h ad y25) := hD
            obtain ⟨hp9, f_e_26⟩ := hp9
            replace hp9 : bI ((MS.s_wants (MS.s_pile (MS.s_isCell (MS.s_cells (MS.s_rowSeries (MS.s_tableRows (MS.s_tableNames x (va_up x.tableNames x.pile 0)) (va_up x.tableRows x.pile 1)) (va_up x.rowSeries (256 * x.pile) 0)) (filG x.cells (cA x.pile 0) x.amount x.windows)) (filG x.isCell (cA x.pile 0) true x.windows)) (x.pile + 1)) false).nx).1 = r23 := Eq.symm hp9
            subst hp9
            refine lv_if_ne hx hb d_M_operand_104 (tgt := 109) rfl (fun g27 => ?_) (fun g27 => ?_)
            · have g27 := bI_n0 g27
              have d9 : y25.dI := by rw [f_e_26]; exact oI_dI (nm_oI (y := MS.s_wants x false) hoi (show (MS.s_wants x false).nm1 = (true, (MS.s_wants x false).nbS.nx.2) from (if_pos hwk).trans (Prod.ext g27 rfl))).1
              refine lv_aload_n hx hb d_M_operand_109 rfl (lv_at hl 1 rfl) ?_
              refine lv_iconst (v := 3) hx hb d_M_operand_110 (by decide) ?_
              refine jfI (rnV (As := [.int 3]) (rest := []) hx hb hml hown hE hK (hN _ _ hS) hP hD (k_doneTo l D dA H.size h ad y25 3 d9 (by decide) (by decide)) (q0 := 0) rfl rfl w1058 w1057 w1059 w1060 w328 rfl rfl ⟨⟨by decide, by decide⟩, rfl⟩ ⟨(Nat.le_of_ble_eq_true rfl), (Nat.le_of_ble_eq_true rfl)⟩ rfl hl.1 rfl (Nat.le_of_ble_eq_true rfl) d_M_operand_111 ⟨(Nat.le_of_ble_eq_true rfl), (Nat.le_of_ble_eq_true rfl)⟩) hP hD hS hA (fun r28 u29 H locs hp9 hP hD hS => ?_)
              obtain ⟨y30, h9u⟩ : ∃ z9, z9 = u29 := ⟨_, rfl⟩
              subst h9u
              have hP : va_P D vwCl (MW dA h ad y30) H := hP
              have hD : va_D A (MW dA h ad y30) := hD
              obtain ⟨hp9, f_e_31⟩ := hp9
              replace hp9 : bI (y25.dt 3).1 = r28 := Eq.symm hp9
              subst hp9
              exact rfZ hx hb hr (bI_nar ((y25.dt 3).1)) hlk hS y30 (by have e9 : x.odF = MS.od3 (MS.s_wants x false).nm1 := (if_neg g1).trans ((if_neg g6).trans ((if_pos g10).trans (if_pos g9))); rw [e9, (show (MS.s_wants x false).nm1 = (MS.s_wants x false).nbS.nx from if_pos g11), od3_t (m := (MS.s_wants x false).nbS.nx) g27 f_e_26]; exact ⟨rfl, f_e_31⟩) hP hD (Nat.le_of_ble_eq_true rfl) (Nat.le_of_ble_eq_true rfl) d_M_operand_114
            · have g27 := bI_0 g27
              refine lv_iconst (v := 0) hx hb d_M_operand_107 (by decide) ?_
              exact rfZ hx hb hr (bI_nar false) hlk hS y25 (by have e9 : x.odF = MS.od3 (MS.s_wants x false).nm1 := (if_neg g1).trans ((if_neg g6).trans ((if_pos g10).trans (if_pos g9))); rw [e9, (show (MS.s_wants x false).nm1 = (MS.s_wants x false).nbS.nx from if_pos g11), od3_f (m := (MS.s_wants x false).nbS.nx) g27]; exact ⟨rfl, f_e_26⟩) hP hD (Nat.le_of_ble_eq_true rfl) (Nat.le_of_ble_eq_true rfl) d_M_operand_108
        · have g10 := g10
          refine lv_aload_n hx hb d_M_operand_75 rfl (lv_at hl 1 rfl) ?_
          refine lv_iload_n hx hb d_M_operand_76 rfl (lv_at hl 0 rfl) ?_
          refine tpi (y := nI (i2n x.fnI)) (i2n_nI (Int32.not_lt.mp g10)) ?_
          refine jfI (rnV (As := [.int (nI (i2n x.fnI))]) (rest := []) hx hb hml hown hE hK (hN _ _ hS) hP hD (k_called l D dA H.size h ad (MS.s_wants x false) (i2n x.fnI) hlx hp20 hoi.2.2.2.2.2.2.1 (fun z9 => qI_rkc hp20 (hoi.2.2.2.2.1 z9)) (fn_le x)) (q0 := 0) rfl rfl w1066 w1065 w1067 w1068 w328 rfl rfl ⟨⟨by decide, by decide⟩, rfl⟩ ⟨(Nat.le_of_ble_eq_true rfl), (Nat.le_of_ble_eq_true rfl)⟩ rfl hl.1 rfl (Nat.le_of_ble_eq_true rfl) d_M_operand_77 ⟨(Nat.le_of_ble_eq_true rfl), (Nat.le_of_ble_eq_true rfl)⟩) hP hD hS hA (fun r32 u33 H locs hp9 hP hD hS => ?_)
          obtain ⟨y34, h9u⟩ : ∃ z9, z9 = u33 := ⟨_, rfl⟩
          subst h9u
          have hP : va_P D vwCl (MW dA h ad y34) H := hP
          have hD : va_D A (MW dA h ad y34) := hD
          obtain ⟨hp9, f_e_35⟩ := hp9
          replace hp9 : bI ((MS.s_wants x false).clF (i2n x.fnI)).1 = r32 := Eq.symm hp9
          subst hp9
          refine lv_if_ne hx hb d_M_operand_80 (tgt := 85) rfl (fun g36 => ?_) (fun g36 => ?_)
          · have g36 := bI_n0 g36
            refine lv_iload_n hx hb d_M_operand_85 rfl (lv_at hl 0 rfl) ?_
            refine lv_if_ge hx hb d_M_operand_86 (tgt := 109) rfl (fun _ => ?_) (fun h9 => absurd (Int32.not_lt.mp g10) h9)
            have d9 : y34.dI := by rw [f_e_35]; exact oI_dI (cl_oI (y := MS.s_wants x false) hoi (Prod.ext g36 rfl)).1
            refine lv_aload_n hx hb d_M_operand_109 rfl (lv_at hl 1 rfl) ?_
            refine lv_iconst (v := 3) hx hb d_M_operand_110 (by decide) ?_
            refine jfI (rnV (As := [.int 3]) (rest := []) hx hb hml hown hE hK (hN _ _ hS) hP hD (k_doneTo l D dA H.size h ad y34 3 d9 (by decide) (by decide)) (q0 := 0) rfl rfl w1058 w1057 w1059 w1060 w328 rfl rfl ⟨⟨by decide, by decide⟩, rfl⟩ ⟨(Nat.le_of_ble_eq_true rfl), (Nat.le_of_ble_eq_true rfl)⟩ rfl hl.1 rfl (Nat.le_of_ble_eq_true rfl) d_M_operand_111 ⟨(Nat.le_of_ble_eq_true rfl), (Nat.le_of_ble_eq_true rfl)⟩) hP hD hS hA (fun r37 u38 H locs hp9 hP hD hS => ?_)
            obtain ⟨y39, h9u⟩ : ∃ z9, z9 = u38 := ⟨_, rfl⟩
            subst h9u
            have hP : va_P D vwCl (MW dA h ad y39) H := hP
            have hD : va_D A (MW dA h ad y39) := hD
            obtain ⟨hp9, f_e_40⟩ := hp9
            replace hp9 : bI (y34.dt 3).1 = r37 := Eq.symm hp9
            subst hp9
            exact rfZ hx hb hr (bI_nar ((y34.dt 3).1)) hlk hS y39 (by have e9 : x.odF = MS.od3 ((MS.s_wants x false).clF (i2n x.fnI)) := (if_neg g1).trans ((if_neg g6).trans (if_neg g10)); rw [e9, od3_t g36 f_e_35]; exact ⟨rfl, f_e_40⟩) hP hD (Nat.le_of_ble_eq_true rfl) (Nat.le_of_ble_eq_true rfl) d_M_operand_114
          · have g36 := bI_0 g36
            refine lv_iconst (v := 0) hx hb d_M_operand_83 (by decide) ?_
            exact rfZ hx hb hr (bI_nar false) hlk hS y34 (by have e9 : x.odF = MS.od3 ((MS.s_wants x false).clF (i2n x.fnI)) := (if_neg g1).trans ((if_neg g6).trans (if_neg g10)); rw [e9, od3_f g36]; exact ⟨rfl, f_e_35⟩) hP hD (Nat.le_of_ble_eq_true rfl) (Nat.le_of_ble_eq_true rfl) d_M_operand_84
      · have g9 := g9
        refine lv_iload_n hx hb d_M_operand_57 rfl (lv_at hl 0 rfl) ?_
        refine lv_if_ge hx hb d_M_operand_58 (tgt := 71) rfl (fun g41 => ?_) (fun g41 => ?_)
        · have g41 := g41
          refine lv_iload_n hx hb d_M_operand_71 rfl (lv_at hl 0 rfl) ?_
          refine lv_if_lt hx hb d_M_operand_72 (tgt := 85) rfl (fun h9 => absurd h9 (Int32.not_lt.mpr g41)) (fun _ => ?_)
          refine lv_aload_n hx hb d_M_operand_75 rfl (lv_at hl 1 rfl) ?_
          refine lv_iload_n hx hb d_M_operand_76 rfl (lv_at hl 0 rfl) ?_
          refine tpi (y := nI (i2n x.fnI)) (i2n_nI g41) ?_
          refine jfI (rnV (As := [.int (nI (i2n x.fnI))]) (rest := []) hx hb hml hown hE hK (hN _ _ hS) hP hD (k_called l D dA H.size h ad (MS.s_wants x false) (i2n x.fnI) hlx hp20 hoi.2.2.2.2.2.2.1 (fun z9 => qI_rkc hp20 (hoi.2.2.2.2.1 z9)) (fn_le x)) (q0 := 0) rfl rfl w1066 w1065 w1067 w1068 w328 rfl rfl ⟨⟨by decide, by decide⟩, rfl⟩ ⟨(Nat.le_of_ble_eq_true rfl), (Nat.le_of_ble_eq_true rfl)⟩ rfl hl.1 rfl (Nat.le_of_ble_eq_true rfl) d_M_operand_77 ⟨(Nat.le_of_ble_eq_true rfl), (Nat.le_of_ble_eq_true rfl)⟩) hP hD hS hA (fun r42 u43 H locs hp9 hP hD hS => ?_)
          obtain ⟨y44, h9u⟩ : ∃ z9, z9 = u43 := ⟨_, rfl⟩
          subst h9u
          have hP : va_P D vwCl (MW dA h ad y44) H := hP
          have hD : va_D A (MW dA h ad y44) := hD
          obtain ⟨hp9, f_e_45⟩ := hp9
          replace hp9 : bI ((MS.s_wants x false).clF (i2n x.fnI)).1 = r42 := Eq.symm hp9
          subst hp9
          refine lv_if_ne hx hb d_M_operand_80 (tgt := 85) rfl (fun g46 => ?_) (fun g46 => ?_)
          · have g46 := bI_n0 g46
            refine lv_iload_n hx hb d_M_operand_85 rfl (lv_at hl 0 rfl) ?_
            refine lv_if_ge hx hb d_M_operand_86 (tgt := 109) rfl (fun _ => ?_) (fun h9 => absurd g41 h9)
            have d9 : y44.dI := by rw [f_e_45]; exact oI_dI (cl_oI (y := MS.s_wants x false) hoi (Prod.ext g46 rfl)).1
            refine lv_aload_n hx hb d_M_operand_109 rfl (lv_at hl 1 rfl) ?_
            refine lv_iconst (v := 3) hx hb d_M_operand_110 (by decide) ?_
            refine jfI (rnV (As := [.int 3]) (rest := []) hx hb hml hown hE hK (hN _ _ hS) hP hD (k_doneTo l D dA H.size h ad y44 3 d9 (by decide) (by decide)) (q0 := 0) rfl rfl w1058 w1057 w1059 w1060 w328 rfl rfl ⟨⟨by decide, by decide⟩, rfl⟩ ⟨(Nat.le_of_ble_eq_true rfl), (Nat.le_of_ble_eq_true rfl)⟩ rfl hl.1 rfl (Nat.le_of_ble_eq_true rfl) d_M_operand_111 ⟨(Nat.le_of_ble_eq_true rfl), (Nat.le_of_ble_eq_true rfl)⟩) hP hD hS hA (fun r47 u48 H locs hp9 hP hD hS => ?_)
            obtain ⟨y49, h9u⟩ : ∃ z9, z9 = u48 := ⟨_, rfl⟩
            subst h9u
            have hP : va_P D vwCl (MW dA h ad y49) H := hP
            have hD : va_D A (MW dA h ad y49) := hD
            obtain ⟨hp9, f_e_50⟩ := hp9
            replace hp9 : bI (y44.dt 3).1 = r47 := Eq.symm hp9
            subst hp9
            exact rfZ hx hb hr (bI_nar ((y44.dt 3).1)) hlk hS y49 (by have e9 : x.odF = MS.od3 ((MS.s_wants x false).clF (i2n x.fnI)) := (if_neg g1).trans ((if_neg g6).trans (if_neg (Int32.not_lt.mpr g41))); rw [e9, od3_t g46 f_e_45]; exact ⟨rfl, f_e_50⟩) hP hD (Nat.le_of_ble_eq_true rfl) (Nat.le_of_ble_eq_true rfl) d_M_operand_114
          · have g46 := bI_0 g46
            refine lv_iconst (v := 0) hx hb d_M_operand_83 (by decide) ?_
            exact rfZ hx hb hr (bI_nar false) hlk hS y44 (by have e9 : x.odF = MS.od3 ((MS.s_wants x false).clF (i2n x.fnI)) := (if_neg g1).trans ((if_neg g6).trans (if_neg (Int32.not_lt.mpr g41))); rw [e9, od3_f g46]; exact ⟨rfl, f_e_45⟩) hP hD (Nat.le_of_ble_eq_true rfl) (Nat.le_of_ble_eq_true rfl) d_M_operand_84
        · have g41 := g41
          refine lv_aload_n hx hb d_M_operand_61 rfl (lv_at hl 1 rfl) ?_
          refine lv_iconst (v := 2) hx hb d_M_operand_62 (by decide) ?_
          refine lv_aload_n hx hb d_M_operand_63 rfl (lv_at hl 1 rfl) ?_
          refine gF (v := .int (nI x.frm)) hx hb hown hE hK hP 0 rfl rfl layM 45 (by decide) w464 rfl d_M_operand_64 ?_
          refine jfI (rnV (As := [.int 2, .int (nI x.frm)]) (rest := []) hx hb hml hown hE hK (hN _ _ hS) hP hD (k_flaw_0 l D dA H.size h ad (MS.s_wants x false) 2 (nI x.frm) hlx.2.2.2) (q0 := 0) rfl rfl w431 w430 w432 w433 w328 rfl rfl ⟨⟨by decide, by decide⟩, rfl⟩ ⟨(Nat.le_of_ble_eq_true rfl), (Nat.le_of_ble_eq_true rfl)⟩ rfl hl.1 rfl (Nat.le_of_ble_eq_true rfl) d_M_operand_67 ⟨(Nat.le_of_ble_eq_true rfl), (Nat.le_of_ble_eq_true rfl)⟩) hP hD hS hA (fun r51 u52 H locs hp9 hP hD hS => ?_)
          have hP : va_P D vwCl (MW dA h ad (MS.s_wants (MS.s_faultPlace (MS.s_faultCode x 2) (nI x.frm)) false)) H := hP
          have hD : va_D A (MW dA h ad (MS.s_wants (MS.s_faultPlace (MS.s_faultCode x 2) (nI x.frm)) false)) := hD
          replace hp9 : bI false = r51 := Eq.symm hp9
          subst hp9
          exact rfZ hx hb hr (bI_nar false) hlk hS (MS.s_wants (MS.s_faultPlace (MS.s_faultCode x 2) (nI x.frm)) false) (by have e9 : x.odF = (false, (MS.s_wants x false).flS 2 x.frm) := (if_neg g1).trans ((if_neg g6).trans ((if_pos (Int32.not_le.mp g41)).trans (if_neg g9))); rw [e9]; exact ⟨rfl, rfl⟩) hP hD (Nat.le_of_ble_eq_true rfl) (Nat.le_of_ble_eq_true rfl) d_M_operand_70
    · have g6 := g6
      refine lv_aload_n hx hb d_M_operand_18 rfl (lv_at hl 0 rfl) ?_
      refine lv_aload_n hx hb d_M_operand_19 rfl (lv_at hl 0 rfl) ?_
      refine gF (v := .int x.kind) hx hb hown hE hK hP 0 rfl rfl layM 44 (by decide) w469 rfl d_M_operand_20 ?_
      refine lv_bipush (v := 45) hx hb d_M_operand_23 (by decide) ?_
      refine lv_icmp_ne hx hb d_M_operand_25 (tgt := 33) rfl (fun _ => ?_) (fun h9 => absurd h9 g1)
      refine lv_bipush (v := 40) hx hb d_M_operand_33 (by decide) ?_
      refine jfI (rnV (As := [.int 40]) (rest := []) hx hb hml hown hE hK (hN _ _ hS) hP hD (k_opens l D dA H.size h ad x 40 hlx (show x.signCount < 32 from by omega) (show x.opn ≤ 8 from by omega)) (q0 := 0) rfl rfl w1054 w1053 w1055 w1056 w328 rfl rfl ⟨⟨by decide, by decide⟩, rfl⟩ ⟨(Nat.le_of_ble_eq_true rfl), (Nat.le_of_ble_eq_true rfl)⟩ rfl hl.1 rfl (Nat.le_of_ble_eq_true rfl) d_M_operand_35 ⟨(Nat.le_of_ble_eq_true rfl), (Nat.le_of_ble_eq_true rfl)⟩) hP hD hS hA (fun r53 u54 H locs hp9 hP hD hS => ?_)
      obtain ⟨y55, h9u⟩ : ∃ z9, z9 = u54 := ⟨_, rfl⟩
      subst h9u
      have hP : va_P D vwCl (MW dA h ad y55) H := hP
      have hD : va_D A (MW dA h ad y55) := hD
      obtain ⟨hp9, f_e_56⟩ := hp9
      replace hp9 : bI (x.osF 40).1 = r53 := Eq.symm hp9
      subst hp9
      exact rfZ hx hb hr (bI_nar ((x.osF 40).1)) hlk hS y55 (by have e9 : x.odF = x.osF 40 := (if_neg g1).trans (if_pos g6); rw [e9]; exact ⟨rfl, f_e_56⟩) hP hD (Nat.le_of_ble_eq_true rfl) (Nat.le_of_ble_eq_true rfl) d_M_operand_38
