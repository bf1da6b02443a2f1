/-- what the rows picked cost -/
def pkS (rc wi cN bN : Nat) : Nat := (if rc * wi ≤ cN then 0 else max (rc * wi) (2 * cN)) + (if rc * wi ≤ bN then 0 else 2 * max (rc * wi) (2 * bN))
theorem d_A_pick_0 : decode prog_2_method_6_code 0 = .ok (.aload_n 2, 1) := by decide +kernel
theorem d_A_pick_1 : decode prog_2_method_6_code 1 = .ok (.aload_n 1, 1) := by decide +kernel
theorem d_A_pick_2 : decode prog_2_method_6_code 2 = .ok (.aload_n 0, 1) := by decide +kernel
theorem d_A_pick_3 : decode prog_2_method_6_code 3 = .ok (.getfield 54, 3) := by decide +kernel
theorem d_A_pick_6 : decode prog_2_method_6_code 6 = .ok (.invokevirtual 119, 3) := by decide +kernel
theorem d_A_pick_9 : decode prog_2_method_6_code 9 = .ok (.iconst 0, 1) := by decide +kernel
theorem d_A_pick_10 : decode prog_2_method_6_code 10 = .ok (.istore 6, 2) := by decide +kernel
theorem d_A_pick_12 : decode prog_2_method_6_code 12 = .ok (.iload 6, 2) := by decide +kernel
theorem d_A_pick_14 : decode prog_2_method_6_code 14 = .ok (.aload 4, 2) := by decide +kernel
theorem d_A_pick_16 : decode prog_2_method_6_code 16 = .ok (.getfield 123, 3) := by decide +kernel
theorem d_A_pick_19 : decode prog_2_method_6_code 19 = .ok (.if_icmp .ge 52, 3) := by decide +kernel
theorem d_A_pick_71 : decode prog_2_method_6_code 71 = .ok (.iconst 0, 1) := by decide +kernel
theorem d_A_pick_72 : decode prog_2_method_6_code 72 = .ok (.istore 6, 2) := by decide +kernel
theorem d_A_pick_74 : decode prog_2_method_6_code 74 = .ok (.iload 6, 2) := by decide +kernel
theorem d_A_pick_76 : decode prog_2_method_6_code 76 = .ok (.aload 4, 2) := by decide +kernel
theorem d_A_pick_78 : decode prog_2_method_6_code 78 = .ok (.getfield 123, 3) := by decide +kernel
theorem d_A_pick_81 : decode prog_2_method_6_code 81 = .ok (.if_icmp .ge 35, 3) := by decide +kernel
theorem d_A_pick_116 : decode prog_2_method_6_code 116 = .ok (.aload_n 2, 1) := by decide +kernel
theorem d_A_pick_117 : decode prog_2_method_6_code 117 = .ok (.invokevirtual 139, 3) := by decide +kernel
theorem d_A_pick_120 : decode prog_2_method_6_code 120 = .ok (.aload_n 0, 1) := by decide +kernel
theorem d_A_pick_121 : decode prog_2_method_6_code 121 = .ok (.aload_n 2, 1) := by decide +kernel
theorem d_A_pick_122 : decode prog_2_method_6_code 122 = .ok (.getfield 142, 3) := by decide +kernel
theorem d_A_pick_125 : decode prog_2_method_6_code 125 = .ok (.aload_n 0, 1) := by decide +kernel
theorem d_A_pick_126 : decode prog_2_method_6_code 126 = .ok (.getfield 54, 3) := by decide +kernel
theorem d_A_pick_129 : decode prog_2_method_6_code 129 = .ok (.imul, 1) := by decide +kernel
theorem d_A_pick_130 : decode prog_2_method_6_code 130 = .ok (.invokevirtual 145, 3) := by decide +kernel
theorem d_A_pick_133 : decode prog_2_method_6_code 133 = .ok (.aload_n 0, 1) := by decide +kernel
theorem d_A_pick_134 : decode prog_2_method_6_code 134 = .ok (.aload_n 1, 1) := by decide +kernel
theorem d_A_pick_135 : decode prog_2_method_6_code 135 = .ok (.getfield 79, 3) := by decide +kernel
theorem d_A_pick_138 : decode prog_2_method_6_code 138 = .ok (.l2i, 1) := by decide +kernel
theorem d_A_pick_139 : decode prog_2_method_6_code 139 = .ok (.aload_n 2, 1) := by decide +kernel
theorem d_A_pick_140 : decode prog_2_method_6_code 140 = .ok (.aload 4, 2) := by decide +kernel
theorem d_A_pick_142 : decode prog_2_method_6_code 142 = .ok (.aload 5, 2) := by decide +kernel
theorem d_A_pick_144 : decode prog_2_method_6_code 144 = .ok (.invokevirtual 149, 3) := by decide +kernel
theorem d_A_pick_147 : decode prog_2_method_6_code 147 = .ok (.aload_n 2, 1) := by decide +kernel
theorem d_A_pick_148 : decode prog_2_method_6_code 148 = .ok (.invokevirtual 153, 3) := by decide +kernel
theorem d_A_pick_151 : decode prog_2_method_6_code 151 = .ok (.return_, 1) := by decide +kernel
theorem d_A_pick_84 : decode prog_2_method_6_code 84 = .ok (.aload_n 0, 1) := by decide +kernel
theorem d_A_pick_85 : decode prog_2_method_6_code 85 = .ok (.getfield 18, 3) := by decide +kernel
theorem d_A_pick_88 : decode prog_2_method_6_code 88 = .ok (.iload 6, 2) := by decide +kernel
theorem d_A_pick_90 : decode prog_2_method_6_code 90 = .ok (.iaload, 1) := by decide +kernel
theorem d_A_pick_91 : decode prog_2_method_6_code 91 = .ok (.iconst (-1), 1) := by decide +kernel
theorem d_A_pick_92 : decode prog_2_method_6_code 92 = .ok (.if_icmp .eq 18, 3) := by decide +kernel
theorem d_A_pick_110 : decode prog_2_method_6_code 110 = .ok (.iinc 6 1, 3) := by decide +kernel
theorem d_A_pick_113 : decode prog_2_method_6_code 113 = .ok (.goto (-39), 3) := by decide +kernel
theorem d_A_pick_95 : decode prog_2_method_6_code 95 = .ok (.aload_n 0, 1) := by decide +kernel
theorem d_A_pick_96 : decode prog_2_method_6_code 96 = .ok (.getfield 18, 3) := by decide +kernel
theorem d_A_pick_99 : decode prog_2_method_6_code 99 = .ok (.iload 6, 2) := by decide +kernel
theorem d_A_pick_101 : decode prog_2_method_6_code 101 = .ok (.aload_n 2, 1) := by decide +kernel
theorem d_A_pick_102 : decode prog_2_method_6_code 102 = .ok (.aload_n 3, 1) := by decide +kernel
theorem d_A_pick_103 : decode prog_2_method_6_code 103 = .ok (.iload 6, 2) := by decide +kernel
theorem d_A_pick_105 : decode prog_2_method_6_code 105 = .ok (.aaload, 1) := by decide +kernel
theorem d_A_pick_106 : decode prog_2_method_6_code 106 = .ok (.invokevirtual 136, 3) := by decide +kernel
theorem d_A_pick_109 : decode prog_2_method_6_code 109 = .ok (.iastore, 1) := by decide +kernel
theorem d_A_pick_22 : decode prog_2_method_6_code 22 = .ok (.aload_n 0, 1) := by decide +kernel
theorem d_A_pick_23 : decode prog_2_method_6_code 23 = .ok (.getfield 18, 3) := by decide +kernel
theorem d_A_pick_26 : decode prog_2_method_6_code 26 = .ok (.iload 6, 2) := by decide +kernel
theorem d_A_pick_28 : decode prog_2_method_6_code 28 = .ok (.iconst (-1), 1) := by decide +kernel
theorem d_A_pick_29 : decode prog_2_method_6_code 29 = .ok (.iastore, 1) := by decide +kernel
theorem d_A_pick_30 : decode prog_2_method_6_code 30 = .ok (.aload_n 0, 1) := by decide +kernel
theorem d_A_pick_31 : decode prog_2_method_6_code 31 = .ok (.getfield 22, 3) := by decide +kernel
theorem d_A_pick_34 : decode prog_2_method_6_code 34 = .ok (.iload 6, 2) := by decide +kernel
theorem d_A_pick_36 : decode prog_2_method_6_code 36 = .ok (.iconst 0, 1) := by decide +kernel
theorem d_A_pick_37 : decode prog_2_method_6_code 37 = .ok (.bastore, 1) := by decide +kernel
theorem d_A_pick_38 : decode prog_2_method_6_code 38 = .ok (.aload_n 1, 1) := by decide +kernel
theorem d_A_pick_39 : decode prog_2_method_6_code 39 = .ok (.aload_n 3, 1) := by decide +kernel
theorem d_A_pick_40 : decode prog_2_method_6_code 40 = .ok (.iload 6, 2) := by decide +kernel
theorem d_A_pick_42 : decode prog_2_method_6_code 42 = .ok (.aaload, 1) := by decide +kernel
theorem d_A_pick_43 : decode prog_2_method_6_code 43 = .ok (.invokevirtual 128, 3) := by decide +kernel
theorem d_A_pick_46 : decode prog_2_method_6_code 46 = .ok (.ifCond .eq 19, 3) := by decide +kernel
theorem d_A_pick_65 : decode prog_2_method_6_code 65 = .ok (.iinc 6 1, 3) := by decide +kernel
theorem d_A_pick_68 : decode prog_2_method_6_code 68 = .ok (.goto (-56), 3) := by decide +kernel
theorem d_A_pick_49 : decode prog_2_method_6_code 49 = .ok (.aload_n 0, 1) := by decide +kernel
theorem d_A_pick_50 : decode prog_2_method_6_code 50 = .ok (.getfield 18, 3) := by decide +kernel
theorem d_A_pick_53 : decode prog_2_method_6_code 53 = .ok (.iload 6, 2) := by decide +kernel
theorem d_A_pick_55 : decode prog_2_method_6_code 55 = .ok (.iconst 0, 1) := by decide +kernel
theorem d_A_pick_56 : decode prog_2_method_6_code 56 = .ok (.iastore, 1) := by decide +kernel
theorem d_A_pick_57 : decode prog_2_method_6_code 57 = .ok (.aload_n 2, 1) := by decide +kernel
theorem d_A_pick_58 : decode prog_2_method_6_code 58 = .ok (.aload_n 3, 1) := by decide +kernel
theorem d_A_pick_59 : decode prog_2_method_6_code 59 = .ok (.iload 6, 2) := by decide +kernel
theorem d_A_pick_61 : decode prog_2_method_6_code 61 = .ok (.aaload, 1) := by decide +kernel
theorem d_A_pick_62 : decode prog_2_method_6_code 62 = .ok (.invokevirtual 132, 3) := by decide +kernel
theorem w1692 : Cond.methodLink "SeriesVault$Answers" 119 ⟨"SeriesVault$Table", "beginRows", "(LSeriesVault$Step;I)V"⟩ ∈ aW := aw_of (tb_7 (List.mem_of_getElem? (i := 188) rfl)) rfl
theorem w1693 : Cond.code ⟨"SeriesVault$Table", "beginRows", "(LSeriesVault$Step;I)V"⟩ prog_11_method_3_code 4 none ∈ aW := aw_of (tb_7 (List.mem_of_getElem? (i := 191) rfl)) rfl
theorem w1694 : Cond.instanceMethod ⟨"SeriesVault$Table", "beginRows", "(LSeriesVault$Step;I)V"⟩ ∈ aW := aw_of (tb_7 (List.mem_of_getElem? (i := 189) rfl)) rfl
theorem w1695 : Cond.selects "SeriesVault$Table" ⟨"SeriesVault$Table", "beginRows", "(LSeriesVault$Step;I)V"⟩ ⟨"SeriesVault$Table", "beginRows", "(LSeriesVault$Step;I)V"⟩ ∈ aW := aw_of (tb_7 (List.mem_of_getElem? (i := 190) rfl)) rfl
theorem w1696 : Cond.fieldLinkNest "SeriesVault$Answers" 123 "SeriesVault$Shelf" "seriesCount" "I" "SeriesVault" ∈ aW := aw_of (tb_1 (List.mem_of_getElem? (i := 155) rfl)) rfl
theorem w1697 : Cond.methodLink "SeriesVault$Answers" 139 ⟨"SeriesVault$Table", "clearCells", "()V"⟩ ∈ aW := aw_of (tb_7 (List.mem_of_getElem? (i := 227) rfl)) rfl
theorem w1698 : Cond.fieldLinkNest "SeriesVault$Answers" 142 "SeriesVault$Table" "rowCount" "I" "SeriesVault" ∈ aW := aw_of (tb_2 (List.mem_of_getElem? (i := 60) rfl)) rfl
theorem w1699 : Cond.methodLink "SeriesVault$Answers" 145 ⟨"SeriesVault$Answers", "makeBestRoom", "(I)V"⟩ ∈ aW := aw_of (tb_7 (List.mem_of_getElem? (i := 228) rfl)) rfl
theorem w1700 : Cond.code ⟨"SeriesVault$Answers", "makeBestRoom", "(I)V"⟩ prog_2_method_7_code 3 none ∈ aW := aw_of (tb_7 (List.mem_of_getElem? (i := 231) rfl)) rfl
theorem w1701 : Cond.instanceMethod ⟨"SeriesVault$Answers", "makeBestRoom", "(I)V"⟩ ∈ aW := aw_of (tb_7 (List.mem_of_getElem? (i := 230) rfl)) rfl
theorem w1702 : Cond.selects "SeriesVault$Answers" ⟨"SeriesVault$Answers", "makeBestRoom", "(I)V"⟩ ⟨"SeriesVault$Answers", "makeBestRoom", "(I)V"⟩ ∈ aW := aw_pr (List.mem_map.mpr ⟨_, pv_4 (List.mem_of_getElem? (i := 7) rfl), rfl⟩) rfl
theorem w1703 : Cond.fieldLinkNest "SeriesVault$Answers" 79 "SeriesVault$Step" "number" "J" "SeriesVault" ∈ aW := aw_of (tb_7 (List.mem_of_getElem? (i := 15) rfl)) rfl
theorem w1704 : Cond.methodLink "SeriesVault$Answers" 149 ⟨"SeriesVault$Answers", "meetPoints", "(ILSeriesVault$Table;LSeriesVault$Shelf;LSeriesVault$Points;)V"⟩ ∈ aW := aw_of (tb_7 (List.mem_of_getElem? (i := 233) rfl)) rfl
theorem w1705 : Cond.code ⟨"SeriesVault$Answers", "meetPoints", "(ILSeriesVault$Table;LSeriesVault$Shelf;LSeriesVault$Points;)V"⟩ prog_2_method_8_code 8 none ∈ aW := aw_of (tb_7 (List.mem_of_getElem? (i := 236) rfl)) rfl
theorem w1706 : Cond.instanceMethod ⟨"SeriesVault$Answers", "meetPoints", "(ILSeriesVault$Table;LSeriesVault$Shelf;LSeriesVault$Points;)V"⟩ ∈ aW := aw_of (tb_7 (List.mem_of_getElem? (i := 235) rfl)) rfl
theorem w1707 : Cond.selects "SeriesVault$Answers" ⟨"SeriesVault$Answers", "meetPoints", "(ILSeriesVault$Table;LSeriesVault$Shelf;LSeriesVault$Points;)V"⟩ ⟨"SeriesVault$Answers", "meetPoints", "(ILSeriesVault$Table;LSeriesVault$Shelf;LSeriesVault$Points;)V"⟩ ∈ aW := aw_pr (List.mem_map.mpr ⟨_, pv_4 (List.mem_of_getElem? (i := 8) rfl), rfl⟩) rfl
theorem w1708 : Cond.methodLink "SeriesVault$Answers" 153 ⟨"SeriesVault$Table", "dropEmptyRows", "()V"⟩ ∈ aW := aw_of (tb_8 (List.mem_of_getElem? (i := 28) rfl)) rfl
theorem w1709 : Cond.methodLink "SeriesVault$Answers" 136 ⟨"SeriesVault$Table", "rowOf", "(LSeriesVault$Series;)I"⟩ ∈ aW := aw_of (tb_7 (List.mem_of_getElem? (i := 223) rfl)) rfl
theorem w1710 : Cond.code ⟨"SeriesVault$Table", "rowOf", "(LSeriesVault$Series;)I"⟩ prog_11_method_5_code 3 (some FieldType.int) ∈ aW := aw_of (tb_7 (List.mem_of_getElem? (i := 226) rfl)) rfl
theorem w1711 : Cond.instanceMethod ⟨"SeriesVault$Table", "rowOf", "(LSeriesVault$Series;)I"⟩ ∈ aW := aw_of (tb_7 (List.mem_of_getElem? (i := 224) rfl)) rfl
theorem w1712 : Cond.selects "SeriesVault$Table" ⟨"SeriesVault$Table", "rowOf", "(LSeriesVault$Series;)I"⟩ ⟨"SeriesVault$Table", "rowOf", "(LSeriesVault$Series;)I"⟩ ∈ aW := aw_of (tb_7 (List.mem_of_getElem? (i := 225) rfl)) rfl
theorem w1713 : Cond.methodLink "SeriesVault$Answers" 128 ⟨"SeriesVault$Step", "takes", "(LSeriesVault$Series;)Z"⟩ ∈ aW := aw_of (tb_7 (List.mem_of_getElem? (i := 192) rfl)) rfl
theorem w1714 : Cond.code ⟨"SeriesVault$Step", "takes", "(LSeriesVault$Series;)Z"⟩ prog_10_method_5_code 3 (some FieldType.boolean) ∈ aW := aw_of (tb_7 (List.mem_of_getElem? (i := 195) rfl)) rfl
theorem w1715 : Cond.instanceMethod ⟨"SeriesVault$Step", "takes", "(LSeriesVault$Series;)Z"⟩ ∈ aW := aw_of (tb_7 (List.mem_of_getElem? (i := 193) rfl)) rfl
theorem w1716 : Cond.selects "SeriesVault$Step" ⟨"SeriesVault$Step", "takes", "(LSeriesVault$Series;)Z"⟩ ⟨"SeriesVault$Step", "takes", "(LSeriesVault$Series;)Z"⟩ ∈ aW := aw_of (tb_7 (List.mem_of_getElem? (i := 194) rfl)) rfl
theorem w1717 : Cond.methodLink "SeriesVault$Answers" 132 ⟨"SeriesVault$Table", "addRow", "(LSeriesVault$Series;)V"⟩ ∈ aW := aw_of (tb_7 (List.mem_of_getElem? (i := 209) rfl)) rfl
theorem w1718 : Cond.code ⟨"SeriesVault$Table", "addRow", "(LSeriesVault$Series;)V"⟩ prog_11_method_6_code 4 none ∈ aW := aw_of (tb_7 (List.mem_of_getElem? (i := 212) rfl)) rfl
theorem w1719 : Cond.instanceMethod ⟨"SeriesVault$Table", "addRow", "(LSeriesVault$Series;)V"⟩ ∈ aW := aw_of (tb_7 (List.mem_of_getElem? (i := 210) rfl)) rfl
theorem w1720 : Cond.selects "SeriesVault$Table" ⟨"SeriesVault$Table", "addRow", "(LSeriesVault$Series;)V"⟩ ⟨"SeriesVault$Table", "addRow", "(LSeriesVault$Series;)V"⟩ ∈ aW := aw_of (tb_7 (List.mem_of_getElem? (i := 211) rfl)) rfl
set_option maxHeartbeats 4000000 in
set_option maxRecDepth 100000 in
theorem v_pick (l : Launch) (D : va_G) (dA : Nat → ClassId) (sz : Nat) (h : Nat) (ad : Nat → Nat) (ta : Nat → Nat) (t : TB) (x : VS) (sp : Nat) (kd : Int32) (pl : Nat) (nu : Int64) (nn : Nat) (NL : Nat → List Int32) (n : Nat) (KD : Nat → Int32) (MN : Nat → List Int32) (MT : Nat → List Int32) (SS : Nat → List LB) (PS : Nat → PT) (hst : isStp dA x.pl sp kd pl nu nn NL n KD MN MT) (hnn : nn ≤ 6) (hkn : knOk dA x.kn x.nser x.pl SS) (hwi : x.awi ≤ 64) (hcN : t.cN ≤ 65536) (hra : rsAll dA x.pl t.rs) (hfn : isFn nu.toInt32) (h5 : x.bN ≤ 65536) (h6 : ∀ k : Nat, x.bO k < 256) (hps : psOk dA x.nP x.npc x.pl PS) (hpn : x.npc ≤ 32) (hs1 : x.nsc ≤ 64) (hs7 : ∀ q : Nat, q < x.nsc → x.nsO q < 2 ^ 31) (hns : x.nser ≤ 256) (hpo : ∀ k : Nat, k < x.npc → ∀ i : Nat, i < (PS k).n → (PS k).o i < x.nser ∧ wOk x.afr x.awd x.awi ((PS k).t i)) (hho : ∀ i : Nat, i < x.hsize → x.hO i < x.nser ∧ wOk x.afr x.awd x.awi (x.hT i)) (hhz : x.hsize ≤ x.hN) (hhN : x.hN ≤ 65536) : Met l ⟨"SeriesVault$Answers", "pick", "(LSeriesVault$Step;LSeriesVault$Table;[LSeriesVault$Series;LSeriesVault$Shelf;LSeriesVault$Points;)V"⟩ [Cond.code ⟨"SeriesVault$Answers", "pick", "(LSeriesVault$Step;LSeriesVault$Table;[LSeriesVault$Series;LSeriesVault$Shelf;LSeriesVault$Points;)V"⟩ prog_2_method_6_code 7 none] { frames := 6, cells := 3, slots := pkS (pkG NL n KD MN MT SS x.kn (TB.s_rc (TB.s_wi (TB.s_nc t nn) x.awi) 0, fun _ => [], x.aro, x.ahb) x.nser).1.rc x.awi t.cN x.bN, locals := 356 } (pC D dA [.ref (ad 24), .ref sp, .ref (ta 0), .ref (ad 17), .ref (ad 3), .ref (ad 1)] (TbW dA ta t ++ (VW dA h ad x)) sz) (va_Qv (fun (u9 : TB × (Nat → Int32) × (Nat → Bool) × (Nat → Int64) × (Nat → Nat) × Nat × (Nat → Int64) × (Nat → Nat) × (Nat → Option Nat) × TB × (Nat → List LB) × (Nat → Int32) × (Nat → Bool) × TB × (Nat → Int64) × (Nat → Nat) × TB) => nmOk dA x.pl u9.2.2.2.2.2.2.2.2.1 nn NL ∧ (u9.2.2.2.2.2.2.2.2.2.1, u9.2.2.2.2.2.2.2.2.2.2.1, u9.2.2.2.2.2.2.2.2.2.2.2.1, u9.2.2.2.2.2.2.2.2.2.2.2.2.1) = pkG NL n KD MN MT SS x.kn (TB.s_rc (TB.s_wi (TB.s_nc (TB.s_nm t u9.2.2.2.2.2.2.2.2.1) nn) x.awi) 0, fun _ => [], x.aro, x.ahb) x.nser ∧ u9.2.1 = pkR NL SS u9.2.2.2.2.2.2.2.2.2.1.nc u9.2.2.2.2.2.2.2.2.2.1.rc u9.2.2.2.2.2.2.2.2.2.2.1 u9.2.2.2.2.2.2.2.2.2.2.2.1 x.nser ∧ (∃ q, u9.2.2.2.2.2.2.2.2.2.2.2.2.2.1 = clT u9.2.2.2.2.2.2.2.2.2.1 q) ∧ beR (VS.s_ahb (VS.s_aro x u9.2.1) u9.2.2.2.2.2.2.2.2.2.2.2.2.1) (u9.2.2.2.2.2.2.2.2.2.2.2.2.2.1.rc * x.awi) (u9.2.2.2.2.1, u9.2.2.2.2.2.1, u9.2.2.2.2.2.2.2.2.2.2.2.2.2.2.1, u9.2.2.2.2.2.2.2.2.2.2.2.2.2.2.2.1) ∧ (u9.2.2.2.2.2.2.2.2.2.2.2.2.2.2.2.2, u9.2.2.1, u9.2.2.2.1, u9.2.2.2.2.2.2.1, u9.2.2.2.2.2.2.2.1) = mmA nu.toInt32 (VS.s_bO (VS.s_bT (VS.s_bN (VS.s_bA (VS.s_ahb (VS.s_aro x u9.2.1) u9.2.2.2.2.2.2.2.2.2.2.2.2.1) u9.2.2.2.2.1) u9.2.2.2.2.2.1) u9.2.2.2.2.2.2.2.2.2.2.2.2.2.2.1) u9.2.2.2.2.2.2.2.2.2.2.2.2.2.2.2.1) PS u9.2.2.2.2.2.2.2.2.2.2.2.2.2.1 ∧ u9.1 = u9.2.2.2.2.2.2.2.2.2.2.2.2.2.2.2.2.de ∧ rsAll dA x.pl u9.2.2.2.2.2.2.2.2.2.2.2.2.2.2.2.2.rs) (fun (u9 : TB × (Nat → Int32) × (Nat → Bool) × (Nat → Int64) × (Nat → Nat) × Nat × (Nat → Int64) × (Nat → Nat) × (Nat → Option Nat) × TB × (Nat → List LB) × (Nat → Int32) × (Nat → Bool) × TB × (Nat → Int64) × (Nat → Nat) × TB) t9 => bW D (va_A (TbW dA ta t ++ (VW dA h ad x)) sz) (TbW dA ta u9.1 ++ (VW dA h ad (VS.s_bO (VS.s_bT (VS.s_bN (VS.s_bA (VS.s_abf (VS.s_ahb (VS.s_aro x u9.2.1) u9.2.2.1) u9.2.2.2.1) u9.2.2.2.2.1) u9.2.2.2.2.2.1) u9.2.2.2.2.2.2.1) u9.2.2.2.2.2.2.2.1))) t9) (va_A (TbW dA ta t ++ (VW dA h ad x)) sz)) 3 (pkS (pkG NL n KD MN MT SS x.kn (TB.s_rc (TB.s_wi (TB.s_nc t nn) x.awi) 0, fun _ => [], x.aro, x.ahb) x.nser).1.rc x.awi t.cN x.bN) (va_A (TbW dA ta t ++ (VW dA h ad x)) sz) := by
  refine mkC (y := ⟨"SeriesVault$Answers", "pick", "(LSeriesVault$Step;LSeriesVault$Table;[LSeriesVault$Series;LSeriesVault$Shelf;LSeriesVault$Points;)V"⟩) (cc := prog_2_method_6_code) (maxL := 7) (av := [.ref (ad 24), .ref sp, .ref (ta 0), .ref (ad 17), .ref (ad 3), .ref (ad 1)]) (ws := TbW dA ta t ++ (VW dA h ad x)) (sz := sz) (Qc := fun A => va_Qv (fun (u9 : TB × (Nat → Int32) × (Nat → Bool) × (Nat → Int64) × (Nat → Nat) × Nat × (Nat → Int64) × (Nat → Nat) × (Nat → Option Nat) × TB × (Nat → List LB) × (Nat → Int32) × (Nat → Bool) × TB × (Nat → Int64) × (Nat → Nat) × TB) => nmOk dA x.pl u9.2.2.2.2.2.2.2.2.1 nn NL ∧ (u9.2.2.2.2.2.2.2.2.2.1, u9.2.2.2.2.2.2.2.2.2.2.1, u9.2.2.2.2.2.2.2.2.2.2.2.1, u9.2.2.2.2.2.2.2.2.2.2.2.2.1) = pkG NL n KD MN MT SS x.kn (TB.s_rc (TB.s_wi (TB.s_nc (TB.s_nm t u9.2.2.2.2.2.2.2.2.1) nn) x.awi) 0, fun _ => [], x.aro, x.ahb) x.nser ∧ u9.2.1 = pkR NL SS u9.2.2.2.2.2.2.2.2.2.1.nc u9.2.2.2.2.2.2.2.2.2.1.rc u9.2.2.2.2.2.2.2.2.2.2.1 u9.2.2.2.2.2.2.2.2.2.2.2.1 x.nser ∧ (∃ q, u9.2.2.2.2.2.2.2.2.2.2.2.2.2.1 = clT u9.2.2.2.2.2.2.2.2.2.1 q) ∧ beR (VS.s_ahb (VS.s_aro x u9.2.1) u9.2.2.2.2.2.2.2.2.2.2.2.2.1) (u9.2.2.2.2.2.2.2.2.2.2.2.2.2.1.rc * x.awi) (u9.2.2.2.2.1, u9.2.2.2.2.2.1, u9.2.2.2.2.2.2.2.2.2.2.2.2.2.2.1, u9.2.2.2.2.2.2.2.2.2.2.2.2.2.2.2.1) ∧ (u9.2.2.2.2.2.2.2.2.2.2.2.2.2.2.2.2, u9.2.2.1, u9.2.2.2.1, u9.2.2.2.2.2.2.1, u9.2.2.2.2.2.2.2.1) = mmA nu.toInt32 (VS.s_bO (VS.s_bT (VS.s_bN (VS.s_bA (VS.s_ahb (VS.s_aro x u9.2.1) u9.2.2.2.2.2.2.2.2.2.2.2.2.1) u9.2.2.2.2.1) u9.2.2.2.2.2.1) u9.2.2.2.2.2.2.2.2.2.2.2.2.2.2.1) u9.2.2.2.2.2.2.2.2.2.2.2.2.2.2.2.1) PS u9.2.2.2.2.2.2.2.2.2.2.2.2.2.1 ∧ u9.1 = u9.2.2.2.2.2.2.2.2.2.2.2.2.2.2.2.2.de ∧ rsAll dA x.pl u9.2.2.2.2.2.2.2.2.2.2.2.2.2.2.2.2.rs) (fun (u9 : TB × (Nat → Int32) × (Nat → Bool) × (Nat → Int64) × (Nat → Nat) × Nat × (Nat → Int64) × (Nat → Nat) × (Nat → Option Nat) × TB × (Nat → List LB) × (Nat → Int32) × (Nat → Bool) × TB × (Nat → Int64) × (Nat → Nat) × TB) t9 => bW D A (TbW dA ta u9.1 ++ (VW dA h ad (VS.s_bO (VS.s_bT (VS.s_bN (VS.s_bA (VS.s_abf (VS.s_ahb (VS.s_aro x u9.2.1) u9.2.2.1) u9.2.2.2.1) u9.2.2.2.2.1) u9.2.2.2.2.2.1) u9.2.2.2.2.2.2.1) u9.2.2.2.2.2.2.2.1))) t9) A) (by decide) (Nat.le_of_ble_eq_true rfl) ?_
  intro A p e s m below meth c ls hsz hB
  obtain ⟨hx, hb, hr, hml, hown, hin, hlk, hE, hK, hP, hD, hS, hA, hN, hl⟩ := hB
  have hown : s.vm.findClass "SeriesVault$Answers" = some m.cls := hown
  have hl : lv_has ls 7 [(0, .ref (ad 24)), (1, .ref sp), (2, .ref (ta 0)), (3, .ref (ad 17)), (4, .ref (ad 3)), (5, .ref (ad 1))] := hl
  obtain ⟨H, hH⟩ : ∃ z, z = s.heap := ⟨_, rfl⟩
  have hP : va_P D vwCl (TbW dA ta t ++ (VW dA h ad x)) H := by rw [hH]; exact hP
  have hS : va_S A s.heap H [] := by rw [hH]; exact hS
  rw [← hH]
  have hsc := hst
  obtain ⟨na, ln, lt, mk, cap, kN, fn, fk, j1, -⟩ := hsc
  refine lv_aload_n hx hb d_A_pick_0 rfl (lv_at hl 2 rfl) ?_
  refine lv_aload_n hx hb d_A_pick_1 rfl (lv_at hl 1 rfl) ?_
  refine lv_aload_n hx hb d_A_pick_2 rfl (lv_at hl 0 rfl) ?_
  refine gF (v := .int (nI x.awi)) hx hb hown hE hK hP 42 rfl rfl layA 9 (by decide) w1503 rfl d_A_pick_3 ?_
  refine jkV (wr := []) (rnV (As := [.ref sp, .int (nI x.awi)]) (rest := []) hx hb hml hown hE hK (hN _ _ hS) hP hD (v_TbeginRows2 l D dA H.size (VW dA h ad x) ta t sp x.awi kd pl nu nn NL n KD MN MT x.pl (fun _ hm => (plm hm)) hst) (q0 := 0) rfl rfl w1693 w1692 w1694 w1695 w807 rfl rfl ⟨⟨by decide, by decide⟩, rfl⟩ ⟨(Nat.le_of_ble_eq_true rfl), (Nat.le_of_ble_eq_true rfl)⟩ rfl hl.1 rfl (Nat.le_of_ble_eq_true rfl) d_A_pick_6 ⟨(show 0 + 0 ≤ 3 by omega), (show 0 + 0 ≤ pkS (pkG NL n KD MN MT SS x.kn (TB.s_rc (TB.s_wi (TB.s_nc t nn) x.awi) 0, fun _ => [], x.aro, x.ahb) x.nser).1.rc x.awi t.cN x.bN by omega)⟩) hP hD hS hA (fun u2 H locs hp9 hP hD hS => ?_)
  obtain ⟨nx, h9u⟩ : ∃ z9, z9 = u2 := ⟨_, rfl⟩
  subst h9u
  have hP : va_P D vwCl (TbW dA ta (TB.s_rc (TB.s_wi (TB.s_nc (TB.s_nm t nx) nn) x.awi) 0) ++ (VW dA h ad x)) H := hP
  have hD : va_D A (TbW dA ta (TB.s_rc (TB.s_wi (TB.s_nc (TB.s_nm t nx) nn) x.awi) 0) ++ (VW dA h ad x)) := hD
  have f_nm_3 := hp9
  refine lv_iconst (v := 0) hx hb d_A_pick_9 (by decide) ?_
  refine lv_istore hx hb d_A_pick_10 hl (by decide) rfl (fun ls hl => ?_)
  have hl : lv_has ls 7 [(6, .int 0), (0, .ref (ad 24)), (1, .ref sp), (2, .ref (ta 0)), (3, .ref (ad 17)), (4, .ref (ad 3)), (5, .ref (ad 1))] := hl
  have L12 : ∀ (k9 : Nat) (i : Nat) (y : TB) (RS : Nat → List LB) (ar : Nat → Int32) (bh : Nat → Bool) (i1 : i ≤ x.nser) (eP : (y, RS, ar, bh) = pkG NL n KD MN MT SS x.kn (TB.s_rc (TB.s_wi (TB.s_nc (TB.s_nm t nx) nn) x.awi) 0, fun _ => [], x.aro, x.ahb) i) (hnx : nmOk dA x.pl nx nn NL) (hrk : rsOk dA x.pl y.rs y.rc RS) (ky : pkK t nn nx x.awi i y) (hra2 : rsAll dA x.pl y.rs) (hk9 : x.nser - i = k9), ∀ (H : Heap) (locs : List Loc) (ls : Array Slot) (hP : va_P D vwCl (TbW dA ta y ++ (VW dA h ad (VS.s_ahb (VS.s_aro x ar) bh))) H) (hD : va_D A (TbW dA ta y ++ (VW dA h ad (VS.s_ahb (VS.s_aro x ar) bh)))) (hS : va_S A s.heap H locs) (hl : lv_has ls 7 [(6, .int (nI i)), (1, .ref sp), (2, .ref (ta 0)), (3, .ref (ad 17)), (4, .ref (ad 3)), (5, .ref (ad 1)), (0, .ref (ad 24))]), W p l e ({ frames := 6, cells := 3, slots := pkS (pkG NL n KD MN MT SS x.kn (TB.s_rc (TB.s_wi (TB.s_nc t nn) x.awi) 0, fun _ => [], x.aro, x.ahb) x.nser).1.rc x.awi t.cN x.bN, locals := 356 } : Room) s m ([.ref (ad 24), .ref sp, .ref (ta 0), .ref (ad 17), .ref (ad 3), .ref (ad 1)] : List Value).toArray below meth c H locs (0 + 0) (0 + 0) (MQ below (va_Qv (fun (u9 : TB × (Nat → Int32) × (Nat → Bool) × (Nat → Int64) × (Nat → Nat) × Nat × (Nat → Int64) × (Nat → Nat) × (Nat → Option Nat) × TB × (Nat → List LB) × (Nat → Int32) × (Nat → Bool) × TB × (Nat → Int64) × (Nat → Nat) × TB) => nmOk dA x.pl u9.2.2.2.2.2.2.2.2.1 nn NL ∧ (u9.2.2.2.2.2.2.2.2.2.1, u9.2.2.2.2.2.2.2.2.2.2.1, u9.2.2.2.2.2.2.2.2.2.2.2.1, u9.2.2.2.2.2.2.2.2.2.2.2.2.1) = pkG NL n KD MN MT SS x.kn (TB.s_rc (TB.s_wi (TB.s_nc (TB.s_nm t u9.2.2.2.2.2.2.2.2.1) nn) x.awi) 0, fun _ => [], x.aro, x.ahb) x.nser ∧ u9.2.1 = pkR NL SS u9.2.2.2.2.2.2.2.2.2.1.nc u9.2.2.2.2.2.2.2.2.2.1.rc u9.2.2.2.2.2.2.2.2.2.2.1 u9.2.2.2.2.2.2.2.2.2.2.2.1 x.nser ∧ (∃ q, u9.2.2.2.2.2.2.2.2.2.2.2.2.2.1 = clT u9.2.2.2.2.2.2.2.2.2.1 q) ∧ beR (VS.s_ahb (VS.s_aro x u9.2.1) u9.2.2.2.2.2.2.2.2.2.2.2.2.1) (u9.2.2.2.2.2.2.2.2.2.2.2.2.2.1.rc * x.awi) (u9.2.2.2.2.1, u9.2.2.2.2.2.1, u9.2.2.2.2.2.2.2.2.2.2.2.2.2.2.1, u9.2.2.2.2.2.2.2.2.2.2.2.2.2.2.2.1) ∧ (u9.2.2.2.2.2.2.2.2.2.2.2.2.2.2.2.2, u9.2.2.1, u9.2.2.2.1, u9.2.2.2.2.2.2.1, u9.2.2.2.2.2.2.2.1) = mmA nu.toInt32 (VS.s_bO (VS.s_bT (VS.s_bN (VS.s_bA (VS.s_ahb (VS.s_aro x u9.2.1) u9.2.2.2.2.2.2.2.2.2.2.2.2.1) u9.2.2.2.2.1) u9.2.2.2.2.2.1) u9.2.2.2.2.2.2.2.2.2.2.2.2.2.2.1) u9.2.2.2.2.2.2.2.2.2.2.2.2.2.2.2.1) PS u9.2.2.2.2.2.2.2.2.2.2.2.2.2.1 ∧ u9.1 = u9.2.2.2.2.2.2.2.2.2.2.2.2.2.2.2.2.de ∧ rsAll dA x.pl u9.2.2.2.2.2.2.2.2.2.2.2.2.2.2.2.2.rs) (fun (u9 : TB × (Nat → Int32) × (Nat → Bool) × (Nat → Int64) × (Nat → Nat) × Nat × (Nat → Int64) × (Nat → Nat) × (Nat → Option Nat) × TB × (Nat → List LB) × (Nat → Int32) × (Nat → Bool) × TB × (Nat → Int64) × (Nat → Nat) × TB) t9 => bW D A (TbW dA ta u9.1 ++ (VW dA h ad (VS.s_bO (VS.s_bT (VS.s_bN (VS.s_bA (VS.s_abf (VS.s_ahb (VS.s_aro x u9.2.1) u9.2.2.1) u9.2.2.2.1) u9.2.2.2.2.1) u9.2.2.2.2.2.1) u9.2.2.2.2.2.2.1) u9.2.2.2.2.2.2.2.1))) t9) A) ([.ref (ad 24), .ref sp, .ref (ta 0), .ref (ad 17), .ref (ad 3), .ref (ad 1)] : List Value).toArray s 3 (pkS (pkG NL n KD MN MT SS x.kn (TB.s_rc (TB.s_wi (TB.s_nc t nn) x.awi) 0, fun _ => [], x.aro, x.ahb) x.nser).1.rc x.awi t.cN x.bN) A) (F0 m 12 ls []) := by
    intro k9
    induction k9 using Nat.strongRecOn with
    | ind k9 ih12 =>
      intro i y RS ar bh i1 eP hnx hrk ky hra2 hk9 H locs ls hP hD hS hl
      have hny : nmOk dA x.pl y.nm y.nc NL := by rw [ky.2.2.1, ky.2.1]; exact hnx
      have hnc6 : y.nc ≤ 6 := by rw [ky.2.1]; exact hnn
      refine lv_iload hx hb d_A_pick_12 (lv_at hl 0 rfl) ?_
      refine lv_aload hx hb d_A_pick_14 (lv_at hl 4 rfl) ?_
      refine gFN (v := .int (nI x.nser)) hx hb hown hE hK hP 22 rfl rfl layH 8 (by decide) w1696 rfl d_A_pick_16 ?_
      refine lv_icmp_ge hx hb d_A_pick_19 (tgt := 71) rfl (fun g4 => ?_) (fun g4 => ?_)
      · have g4 := (nI_leI (a := x.nser) (b := i) (by omega) (by omega)).mp g4
        refine lv_iconst (v := 0) hx hb d_A_pick_71 (by decide) ?_
        refine lv_istore hx hb d_A_pick_72 hl (by decide) rfl (fun ls hl => ?_)
        have hl : lv_has ls 7 [(6, .int 0), (1, .ref sp), (2, .ref (ta 0)), (3, .ref (ad 17)), (4, .ref (ad 3)), (5, .ref (ad 1)), (0, .ref (ad 24))] := hl
        have L74 : ∀ (k9 : Nat) (j : Nat) (ar2 : Nat → Int32) (k1 : j ≤ x.nser) (e2 : ar2 = pkR NL SS y.nc y.rc RS ar j) (hk9 : x.nser - j = k9), ∀ (H : Heap) (locs : List Loc) (ls : Array Slot) (hP : va_P D vwCl (TbW dA ta y ++ (VW dA h ad (VS.s_ahb (VS.s_aro x ar2) bh))) H) (hD : va_D A (TbW dA ta y ++ (VW dA h ad (VS.s_ahb (VS.s_aro x ar2) bh)))) (hS : va_S A s.heap H locs) (hl : lv_has ls 7 [(6, .int (nI j)), (1, .ref sp), (2, .ref (ta 0)), (3, .ref (ad 17)), (4, .ref (ad 3)), (5, .ref (ad 1)), (0, .ref (ad 24))]), W p l e ({ frames := 6, cells := 3, slots := pkS (pkG NL n KD MN MT SS x.kn (TB.s_rc (TB.s_wi (TB.s_nc t nn) x.awi) 0, fun _ => [], x.aro, x.ahb) x.nser).1.rc x.awi t.cN x.bN, locals := 356 } : Room) s m ([.ref (ad 24), .ref sp, .ref (ta 0), .ref (ad 17), .ref (ad 3), .ref (ad 1)] : List Value).toArray below meth c H locs (0 + 0) (0 + 0) (MQ below (va_Qv (fun (u9 : TB × (Nat → Int32) × (Nat → Bool) × (Nat → Int64) × (Nat → Nat) × Nat × (Nat → Int64) × (Nat → Nat) × (Nat → Option Nat) × TB × (Nat → List LB) × (Nat → Int32) × (Nat → Bool) × TB × (Nat → Int64) × (Nat → Nat) × TB) => nmOk dA x.pl u9.2.2.2.2.2.2.2.2.1 nn NL ∧ (u9.2.2.2.2.2.2.2.2.2.1, u9.2.2.2.2.2.2.2.2.2.2.1, u9.2.2.2.2.2.2.2.2.2.2.2.1, u9.2.2.2.2.2.2.2.2.2.2.2.2.1) = pkG NL n KD MN MT SS x.kn (TB.s_rc (TB.s_wi (TB.s_nc (TB.s_nm t u9.2.2.2.2.2.2.2.2.1) nn) x.awi) 0, fun _ => [], x.aro, x.ahb) x.nser ∧ u9.2.1 = pkR NL SS u9.2.2.2.2.2.2.2.2.2.1.nc u9.2.2.2.2.2.2.2.2.2.1.rc u9.2.2.2.2.2.2.2.2.2.2.1 u9.2.2.2.2.2.2.2.2.2.2.2.1 x.nser ∧ (∃ q, u9.2.2.2.2.2.2.2.2.2.2.2.2.2.1 = clT u9.2.2.2.2.2.2.2.2.2.1 q) ∧ beR (VS.s_ahb (VS.s_aro x u9.2.1) u9.2.2.2.2.2.2.2.2.2.2.2.2.1) (u9.2.2.2.2.2.2.2.2.2.2.2.2.2.1.rc * x.awi) (u9.2.2.2.2.1, u9.2.2.2.2.2.1, u9.2.2.2.2.2.2.2.2.2.2.2.2.2.2.1, u9.2.2.2.2.2.2.2.2.2.2.2.2.2.2.2.1) ∧ (u9.2.2.2.2.2.2.2.2.2.2.2.2.2.2.2.2, u9.2.2.1, u9.2.2.2.1, u9.2.2.2.2.2.2.1, u9.2.2.2.2.2.2.2.1) = mmA nu.toInt32 (VS.s_bO (VS.s_bT (VS.s_bN (VS.s_bA (VS.s_ahb (VS.s_aro x u9.2.1) u9.2.2.2.2.2.2.2.2.2.2.2.2.1) u9.2.2.2.2.1) u9.2.2.2.2.2.1) u9.2.2.2.2.2.2.2.2.2.2.2.2.2.2.1) u9.2.2.2.2.2.2.2.2.2.2.2.2.2.2.2.1) PS u9.2.2.2.2.2.2.2.2.2.2.2.2.2.1 ∧ u9.1 = u9.2.2.2.2.2.2.2.2.2.2.2.2.2.2.2.2.de ∧ rsAll dA x.pl u9.2.2.2.2.2.2.2.2.2.2.2.2.2.2.2.2.rs) (fun (u9 : TB × (Nat → Int32) × (Nat → Bool) × (Nat → Int64) × (Nat → Nat) × Nat × (Nat → Int64) × (Nat → Nat) × (Nat → Option Nat) × TB × (Nat → List LB) × (Nat → Int32) × (Nat → Bool) × TB × (Nat → Int64) × (Nat → Nat) × TB) t9 => bW D A (TbW dA ta u9.1 ++ (VW dA h ad (VS.s_bO (VS.s_bT (VS.s_bN (VS.s_bA (VS.s_abf (VS.s_ahb (VS.s_aro x u9.2.1) u9.2.2.1) u9.2.2.2.1) u9.2.2.2.2.1) u9.2.2.2.2.2.1) u9.2.2.2.2.2.2.1) u9.2.2.2.2.2.2.2.1))) t9) A) ([.ref (ad 24), .ref sp, .ref (ta 0), .ref (ad 17), .ref (ad 3), .ref (ad 1)] : List Value).toArray s 3 (pkS (pkG NL n KD MN MT SS x.kn (TB.s_rc (TB.s_wi (TB.s_nc t nn) x.awi) 0, fun _ => [], x.aro, x.ahb) x.nser).1.rc x.awi t.cN x.bN) A) (F0 m 74 ls []) := by
          intro k9
          induction k9 using Nat.strongRecOn with
          | ind k9 ih74 =>
            intro j ar2 k1 e2 hk9 H locs ls hP hD hS hl
            refine lv_iload hx hb d_A_pick_74 (lv_at hl 0 rfl) ?_
            refine lv_aload hx hb d_A_pick_76 (lv_at hl 4 rfl) ?_
            refine gFN (v := .int (nI x.nser)) hx hb hown hE hK hP 22 rfl rfl layH 8 (by decide) w1696 rfl d_A_pick_78 ?_
            refine lv_icmp_ge hx hb d_A_pick_81 (tgt := 116) rfl (fun g5 => ?_) (fun g5 => ?_)
            · have g5 := (nI_leI (a := x.nser) (b := j) (by omega) (by omega)).mp g5
              refine lv_aload_n hx hb d_A_pick_116 rfl (lv_at hl 2 rfl) ?_
              have eP9 : (y, RS, ar, bh) = pkG NL n KD MN MT SS x.kn (TB.s_rc (TB.s_wi (TB.s_nc (TB.s_nm t nx) nn) x.awi) 0, fun _ => [], x.aro, x.ahb) x.nser := by rw [eP, show i = x.nser by omega]
              have erc : y.rc = (pkG NL n KD MN MT SS x.kn (TB.s_rc (TB.s_wi (TB.s_nc t nn) x.awi) 0, fun _ => [], x.aro, x.ahb) x.nser).1.rc := by have e9 := congrArg (fun q : PKS => q.1.rc) (eP9.trans (pkG_nm NL n KD MN MT SS x.kn (TB.s_rc (TB.s_wi (TB.s_nc t nn) x.awi) 0) (fun _ => []) x.aro x.ahb nx x.nser)); exact e9
              have sl1 : clS y = (if (pkG NL n KD MN MT SS x.kn (TB.s_rc (TB.s_wi (TB.s_nc t nn) x.awi) 0, fun _ => [], x.aro, x.ahb) x.nser).1.rc * x.awi ≤ t.cN then 0 else max ((pkG NL n KD MN MT SS x.kn (TB.s_rc (TB.s_wi (TB.s_nc t nn) x.awi) 0, fun _ => [], x.aro, x.ahb) x.nser).1.rc * x.awi) (2 * t.cN)) := by unfold clS; rw [ky.2.2.2.1, ky.2.2.2.2.1, erc]
              have sl0 : clS y ≤ pkS (pkG NL n KD MN MT SS x.kn (TB.s_rc (TB.s_wi (TB.s_nc t nn) x.awi) 0, fun _ => [], x.aro, x.ahb) x.nser).1.rc x.awi t.cN x.bN := by rw [sl1]; exact Nat.le_add_right _ _
              have hm1 : y.rc * y.wi ≤ 16384 := by rw [ky.2.2.2.1]; exact rw_le ky.1 hwi
              have eP9 : (y, RS, ar, bh) = pkG NL n KD MN MT SS x.kn (TB.s_rc (TB.s_wi (TB.s_nc (TB.s_nm t nx) nn) x.awi) 0, fun _ => [], x.aro, x.ahb) x.nser := by rw [eP, show i = x.nser by omega]
              have erc : y.rc = (pkG NL n KD MN MT SS x.kn (TB.s_rc (TB.s_wi (TB.s_nc t nn) x.awi) 0, fun _ => [], x.aro, x.ahb) x.nser).1.rc := by have e9 := congrArg (fun q : PKS => q.1.rc) (eP9.trans (pkG_nm NL n KD MN MT SS x.kn (TB.s_rc (TB.s_wi (TB.s_nc t nn) x.awi) 0) (fun _ => []) x.aro x.ahb nx x.nser)); exact e9
              have sl1 : clS y = (if (pkG NL n KD MN MT SS x.kn (TB.s_rc (TB.s_wi (TB.s_nc t nn) x.awi) 0, fun _ => [], x.aro, x.ahb) x.nser).1.rc * x.awi ≤ t.cN then 0 else max ((pkG NL n KD MN MT SS x.kn (TB.s_rc (TB.s_wi (TB.s_nc t nn) x.awi) 0, fun _ => [], x.aro, x.ahb) x.nser).1.rc * x.awi) (2 * t.cN)) := by unfold clS; rw [ky.2.2.2.1, ky.2.2.2.2.1, erc]
              have sl0 : clS y ≤ pkS (pkG NL n KD MN MT SS x.kn (TB.s_rc (TB.s_wi (TB.s_nc t nn) x.awi) 0, fun _ => [], x.aro, x.ahb) x.nser).1.rc x.awi t.cN x.bN := by rw [sl1]; exact Nat.le_add_right _ _
              have hm1 : y.rc * y.wi ≤ 16384 := by rw [ky.2.2.2.1]; exact rw_le ky.1 hwi
              refine jkV (wr := []) (rnV (As := []) (rest := []) hx hb hml hown hE hK (hN _ _ hS) hP hD (v_TclearQ l D dA H.size (VW dA h ad (VS.s_ahb (VS.s_aro x ar2) bh)) ta y (by rw [ky.2.2.2.2.1]; exact hcN) ky.1 hm1) (q0 := 0) rfl rfl w1429 w1697 w1430 w1431 w807 rfl rfl ⟨⟨by decide, by decide⟩, rfl⟩ ⟨(Nat.le_of_ble_eq_true rfl), (Nat.le_of_ble_eq_true rfl)⟩ rfl hl.1 rfl (Nat.le_of_ble_eq_true rfl) d_A_pick_117 ⟨(show 0 + 0 + 1 ≤ 3 by omega), (show 0 + 0 + (clS y) ≤ pkS (pkG NL n KD MN MT SS x.kn (TB.s_rc (TB.s_wi (TB.s_nc t nn) x.awi) 0, fun _ => [], x.aro, x.ahb) x.nser).1.rc x.awi t.cN x.bN by omega)⟩) hP hD hS hA (fun u7 H locs hp9 hP hD hS => ?_)
              obtain ⟨y2, h9u⟩ : ∃ z9, z9 = u7 := ⟨_, rfl⟩
              subst h9u
              have hP : va_P D vwCl (TbW dA ta y2 ++ (VW dA h ad (VS.s_ahb (VS.s_aro x ar2) bh))) H := hP
              have hD : va_D A (TbW dA ta y2 ++ (VW dA h ad (VS.s_ahb (VS.s_aro x ar2) bh))) := hD
              have f_e_8 := hp9
              refine lv_aload_n hx hb d_A_pick_120 rfl (lv_at hl 6 rfl) ?_
              refine lv_aload_n hx hb d_A_pick_121 rfl (lv_at hl 2 rfl) ?_
              obtain ⟨q9, ec⟩ := f_e_8
              have sl2 : clS y + beS (VS.s_ahb (VS.s_aro x ar2) bh) (y2.rc * x.awi) ≤ pkS (pkG NL n KD MN MT SS x.kn (TB.s_rc (TB.s_wi (TB.s_nc t nn) x.awi) 0, fun _ => [], x.aro, x.ahb) x.nser).1.rc x.awi t.cN x.bN := by rw [sl1, show y2.rc = y.rc by rw [ec]; exact (clT_k y q9).2.1, erc]; exact Nat.le_refl _
              have kc := clT_k y q9
              rw [← ec] at kc
              have kc2 : y2.cN ≤ 65536 := by rw [ec]; exact clT_c (by rw [ky.2.2.2.2.1]; exact hcN) hm1
              have hm2 : y2.rc * x.awi ≤ 16384 := by rw [kc.2.1]; exact rw_le ky.1 hwi
              refine gFN (v := .int (nI y2.rc)) hx hb hown hE hK hP 0 rfl rfl layT 3 (by decide) w1698 rfl d_A_pick_122 ?_
              refine lv_aload_n hx hb d_A_pick_125 rfl (lv_at hl 6 rfl) ?_
              refine gF (v := .int (nI x.awi)) hx hb hown hE hK hP 42 rfl rfl layA 9 (by decide) w1503 rfl d_A_pick_126 ?_
              refine lv_imul hx hb d_A_pick_129 (tpi (y := nI (y2.rc * x.awi)) (pk_mul (y2.rc) (x.awi)) ?_)
              have hPc : va_P D vwCl (VW dA h ad (VS.s_ahb (VS.s_aro x ar2) bh)) H := spP (wr := TbW dA ta y2) hP
              have hDc : va_D A (VW dA h ad (VS.s_ahb (VS.s_aro x ar2) bh)) := spD (wr := TbW dA ta y2) hD
              refine jkV (wr := TbW dA ta y2) (rnV (As := [.int (nI (y2.rc * x.awi))]) (rest := []) hx hb hml hown hE hK (hN _ _ hS) hPc hDc (v_bestQ l D dA H.size h ad (VS.s_ahb (VS.s_aro x ar2) bh) (y2.rc * x.awi) h5 hm2) (q0 := 37) rfl rfl w1700 w1699 w1701 w1702 w846 rfl rfl ⟨⟨by decide, by decide⟩, rfl⟩ ⟨(Nat.le_of_ble_eq_true rfl), (Nat.le_of_ble_eq_true rfl)⟩ rfl hl.1 rfl (Nat.le_of_ble_eq_true rfl) d_A_pick_130 ⟨(show 0 + 0 + 1 + 2 ≤ 3 by omega), (show 0 + 0 + (clS y) + (beS (VS.s_ahb (VS.s_aro x ar2) bh) (y2.rc * x.awi)) ≤ pkS (pkG NL n KD MN MT SS x.kn (TB.s_rc (TB.s_wi (TB.s_nc t nn) x.awi) 0, fun _ => [], x.aro, x.ahb) x.nser).1.rc x.awi t.cN x.bN by omega)⟩) hP hD hS hA (fun u10 H locs hp9 hP hD hS => ?_)
              obtain ⟨qA, qN, qT, qO⟩ := u10
              have hP : va_P D vwCl (TbW dA ta y2 ++ (VW dA h ad (VS.s_bO (VS.s_bT (VS.s_bN (VS.s_bA (VS.s_ahb (VS.s_aro x ar2) bh) qA) qN) qT) qO))) H := hP
              have hD : va_D A (TbW dA ta y2 ++ (VW dA h ad (VS.s_bO (VS.s_bT (VS.s_bN (VS.s_bA (VS.s_ahb (VS.s_aro x ar2) bh) qA) qN) qT) qO))) := hD
              have f_e_11 := hp9
              refine lv_aload_n hx hb d_A_pick_133 rfl (lv_at hl 6 rfl) ?_
              refine lv_aload_n hx hb d_A_pick_134 rfl (lv_at hl 1 rfl) ?_
              have hbe := f_e_11
              obtain ⟨bk1, bk2, bk3⟩ := beR_k hbe h5 hm2 h6
              obtain ⟨qp12, ep13⟩ := List.getElem?_of_mem (show ((sp, .inr (13, [.int kd, .int (nI pl), .long nu, .ref na, .int (nI nn), .ref ln, .ref lt, .ref mk])) : Nat × va_E) ∈ TbW dA ta y2 ++ (VW dA h ad (VS.s_bO (VS.s_bT (VS.s_bN (VS.s_bA (VS.s_ahb (VS.s_aro x ar2) bh) qA) qN) qT) qO)) from (List.mem_append_right _ (plm j1)))
              refine gFN (v := .long nu) hx hb hown hE hK hP qp12 ep13 rfl layE 2 (by decide) w1703 rfl d_A_pick_135 ?_
              refine lv_l2i hx hb d_A_pick_138 rfl ?_
              refine lv_aload_n hx hb d_A_pick_139 rfl (lv_at hl 2 rfl) ?_
              refine lv_aload hx hb d_A_pick_140 (lv_at hl 4 rfl) ?_
              refine lv_aload hx hb d_A_pick_142 (lv_at hl 5 rfl) ?_
              refine jkV (wr := []) (rnV (As := [.int nu.toInt32, .ref (ta 0), .ref (ad 3), .ref (ad 1)]) (rest := []) hx hb hml hown hE hK (hN _ _ hS) hP hD (v_meetPoints l D dA H.size h ad ta y2 (VS.s_bO (VS.s_bT (VS.s_bN (VS.s_bA (VS.s_ahb (VS.s_aro x ar2) bh) qA) qN) qT) qO) nu.toInt32 PS hwi (by rw [kc.2.1]; exact ky.1) kc2 (kc.1.trans ky.2.2.2.1) (by rw [kc.2.1, kc.1]; exact kc.2.2.2.2.2) bk1 bk2 bk3 hfn hps hpn hs1 hs7 hns (fun o ho => by rw [show y2.rc = y.rc from kc.2.1]; rw [show j = x.nser by omega] at e2; show ar2 o = (-1) ∨ _; rw [e2]; exact pkR_c ho) hpo hho hhz hhN) (q0 := 42) rfl rfl w1705 w1704 w1706 w1707 w846 rfl rfl ⟨⟨by decide, by decide⟩, rfl⟩ ⟨(Nat.le_of_ble_eq_true rfl), (Nat.le_of_ble_eq_true rfl)⟩ rfl hl.1 rfl (Nat.le_of_ble_eq_true rfl) d_A_pick_144 ⟨(show 0 + 0 + 1 + 2 + 0 ≤ 3 by omega), (show 0 + 0 + (clS y) + (beS (VS.s_ahb (VS.s_aro x ar2) bh) (y2.rc * x.awi)) + 0 ≤ pkS (pkG NL n KD MN MT SS x.kn (TB.s_rc (TB.s_wi (TB.s_nc t nn) x.awi) 0, fun _ => [], x.aro, x.ahb) x.nser).1.rc x.awi t.cN x.bN by omega)⟩) hP hD hS hA (fun u15 H locs hp9 hP hD hS => ?_)
              obtain ⟨y8, bh9, bf9, bt9, bo9⟩ := u15
              have hP : va_P D vwCl (TbW dA ta y8 ++ (VW dA h ad (VS.s_bO (VS.s_bT (VS.s_bN (VS.s_bA (VS.s_abf (VS.s_ahb (VS.s_aro x ar2) bh9) bf9) qA) qN) bt9) bo9))) H := hP
              have hD : va_D A (TbW dA ta y8 ++ (VW dA h ad (VS.s_bO (VS.s_bT (VS.s_bN (VS.s_bA (VS.s_abf (VS.s_ahb (VS.s_aro x ar2) bh9) bf9) qA) qN) bt9) bo9))) := hD
              have f_e_16 := hp9
              refine lv_aload_n hx hb d_A_pick_147 rfl (lv_at hl 2 rfl) ?_
              have e58 := f_e_16
              have k8 : kept y2 y8 := by have e9 := mmA_k nu.toInt32 (VS.s_bO (VS.s_bT (VS.s_bN (VS.s_bA (VS.s_ahb (VS.s_aro x ar2) bh) qA) qN) qT) qO) PS y2; rw [← e58] at e9; exact e9
              have ra8 : rsAll dA x.pl y8.rs := by rw [k8.2.2.2, kc.2.2.1]; exact hra2
              refine jkV (wr := []) (rnV (As := []) (rest := []) hx hb hml hown hE hK (hN _ _ hS) hP hD (v_TdropEmptyRows l D dA H.size (VW dA h ad (VS.s_bO (VS.s_bT (VS.s_bN (VS.s_bA (VS.s_abf (VS.s_ahb (VS.s_aro x ar2) bh9) bf9) qA) qN) bt9) bo9)) ta y8 (by rw [k8.2.2.1]; exact kc2) (rsAll_m (fun _ hm => (plm hm)) ra8) (by rw [k8.2.1, k8.1, k8.2.2.1, kc.2.1, kc.1]; exact kc.2.2.2.2.2) (by rw [k8.2.1, kc.2.1]; exact ky.1)) (q0 := 0) rfl rfl w1437 w1708 w1438 w1439 w807 rfl rfl ⟨⟨by decide, by decide⟩, rfl⟩ ⟨(Nat.le_of_ble_eq_true rfl), (Nat.le_of_ble_eq_true rfl)⟩ rfl hl.1 rfl (Nat.le_of_ble_eq_true rfl) d_A_pick_148 ⟨(show 0 + 0 + 1 + 2 + 0 + 0 ≤ 3 by omega), (show 0 + 0 + (clS y) + (beS (VS.s_ahb (VS.s_aro x ar2) bh) (y2.rc * x.awi)) + 0 + 0 ≤ pkS (pkG NL n KD MN MT SS x.kn (TB.s_rc (TB.s_wi (TB.s_nc t nn) x.awi) 0, fun _ => [], x.aro, x.ahb) x.nser).1.rc x.awi t.cN x.bN by omega)⟩) hP hD hS hA (fun u18 H locs hp9 hP hD hS => ?_)
              obtain ⟨y9, h9u⟩ : ∃ z9, z9 = u18 := ⟨_, rfl⟩
              subst h9u
              have hP : va_P D vwCl (TbW dA ta y9 ++ (VW dA h ad (VS.s_bO (VS.s_bT (VS.s_bN (VS.s_bA (VS.s_abf (VS.s_ahb (VS.s_aro x ar2) bh9) bf9) qA) qN) bt9) bo9))) H := hP
              have hD : va_D A (TbW dA ta y9 ++ (VW dA h ad (VS.s_bO (VS.s_bT (VS.s_bN (VS.s_bA (VS.s_abf (VS.s_ahb (VS.s_aro x ar2) bh9) bf9) qA) qN) bt9) bo9))) := hD
              have f_e_19 := hp9
              exact rfV hx hb hr hlk hS (⟨y9, ar2, bh9, bf9, qA, qN, bt9, bo9, nx, y, RS, ar, bh, y2, qT, qO, y8⟩) ⟨hnx, eP9, (by rw [e2, show j = x.nser by omega]), ⟨q9, ec⟩, hbe, e58, f_e_19, ra8⟩ hP hD (show 0 + 0 + 1 + 2 + 0 + 0 ≤ 3 by omega) (show 0 + 0 + (clS y) + (beS (VS.s_ahb (VS.s_aro x ar2) bh) (y2.rc * x.awi)) + 0 + 0 ≤ pkS (pkG NL n KD MN MT SS x.kn (TB.s_rc (TB.s_wi (TB.s_nc t nn) x.awi) 0, fun _ => [], x.aro, x.ahb) x.nser).1.rc x.awi t.cN x.bN by omega) d_A_pick_151
            · have g5 := mt (nI_leI (a := x.nser) (b := j) (by omega) (by omega)).mpr g5
              refine lv_aload_n hx hb d_A_pick_84 rfl (lv_at hl 6 rfl) ?_
              refine gF (v := .ref (ad 26)) hx hb hown hE hK hP 42 rfl rfl layA 2 (by decide) w800 rfl d_A_pick_85 ?_
              refine lv_iload hx hb d_A_pick_88 (lv_at hl 0 rfl) ?_
              refine nild (f := ar2) (n := 256) hx hb hK hP (43) 1 rfl rfl (j) (by omega) (by decide) d_A_pick_90 ?_
              refine lv_iconst (v := (-1)) hx hb d_A_pick_91 (by decide) ?_
              refine lv_icmp_eq hx hb d_A_pick_92 (tgt := 110) rfl (fun g20 => ?_) (fun g20 => ?_)
              · have g20 := g20
                refine lv_iinc (k := 0) (v := nI (j + 1)) hx hb d_A_pick_110 hl rfl (iincN (j) 1 1 (by decide)) (by decide) rfl (fun ls hl => ?_)
                have hl : lv_has ls 7 [(6, .int (nI (j + 1))), (1, .ref sp), (2, .ref (ta 0)), (3, .ref (ad 17)), (4, .ref (ad 3)), (5, .ref (ad 1)), (0, .ref (ad 24))] := hl
                refine lv_goto hx hb d_A_pick_113 (tgt := 74) rfl ?_
                exact ih74 _ (by omega) (j + 1) ar2 (by omega) (by rw [pkR_t (by rw [← e2]; exact g20)]; exact e2) rfl H _ ls hP hD hS (lv_sub hl [0, 1, 2, 3, 4, 5, 6] rfl)
              · have g20 := g20
                refine lv_aload_n hx hb d_A_pick_95 rfl (lv_at hl 6 rfl) ?_
                refine gF (v := .ref (ad 26)) hx hb hown hE hK hP 42 rfl rfl layA 2 (by decide) w800 rfl d_A_pick_96 ?_
                refine lv_iload hx hb d_A_pick_99 (lv_at hl 0 rfl) ?_
                refine lv_aload_n hx hb d_A_pick_101 rfl (lv_at hl 2 rfl) ?_
                obtain ⟨a1, ke, hs1, ho1⟩ := hkn j (by omega)
                have hs1c := hs1
                obtain ⟨na1, va1, no1, tx1, fn1, fv1, g1a, -⟩ := hs1c
                refine lv_aload_n hx hb d_A_pick_102 rfl (lv_at hl 3 rfl) ?_
                refine lv_iload hx hb d_A_pick_103 (lv_at hl 0 rfl) ?_
                refine nqld (f := x.kn) (n := 256) hx hb hK hP (36) 5 rfl rfl (j) (by omega) (by decide) ke d_A_pick_105 ?_
                refine jkI (wr := []) (rnV (As := [.ref a1]) (rest := [.int (nI j), .ref (ad 26)]) hx hb hml hown hE hK (hN _ _ hS) hP hD (v_TrowOf l D dA H.size (VW dA h ad (VS.s_ahb (VS.s_aro x ar2) bh)) ta y NL RS a1 (SS j) (nmOk_m (fun _ hm => (plm hm)) hny) hnc6 (rsOk_m (fun _ hm => (plm hm)) hrk) (isSer_m (fun _ hm => (plm hm)) hs1) ho1 ky.1) (q0 := 0) rfl rfl w1710 w1709 w1711 w1712 w807 rfl rfl ⟨⟨by decide, by decide⟩, rfl⟩ ⟨(Nat.le_of_ble_eq_true rfl), (Nat.le_of_ble_eq_true rfl)⟩ rfl hl.1 rfl (Nat.le_of_ble_eq_true rfl) d_A_pick_106 ⟨(show 0 + 0 + 0 ≤ 3 by omega), (show 0 + 0 + 0 ≤ pkS (pkG NL n KD MN MT SS x.kn (TB.s_rc (TB.s_wi (TB.s_nc t nn) x.awi) 0, fun _ => [], x.aro, x.ahb) x.nser).1.rc x.awi t.cN x.bN by omega)⟩) hP hD hS hA (fun r21 u22 H locs hp9 hP hD hS => ?_)
                have hP : va_P D vwCl (TbW dA ta y ++ (VW dA h ad (VS.s_ahb (VS.s_aro x ar2) bh))) H := hP
                have hD : va_D A (TbW dA ta y ++ (VW dA h ad (VS.s_ahb (VS.s_aro x ar2) bh))) := hD
                replace hp9 : roT NL y.nc y.rc RS (SS j) = r21 := Eq.symm hp9
                subst hp9
                refine nist (n := 256) hx hb hK hP hD hS (43) 1 rfl rfl (j) (by omega) (by decide) d_A_pick_109 (fun H locs hP hD hS => ?_)
                have hP : va_P D vwCl (TbW dA ta y ++ (VW dA h ad (VS.s_ahb (VS.s_aro x (va_up ar2 j (roT NL y.nc y.rc RS (SS j)))) bh))) H := hP
                have hD : va_D A (TbW dA ta y ++ (VW dA h ad (VS.s_ahb (VS.s_aro x (va_up ar2 j (roT NL y.nc y.rc RS (SS j)))) bh))) := hD
                refine lv_iinc (k := 0) (v := nI (j + 1)) hx hb d_A_pick_110 hl rfl (iincN (j) 1 1 (by decide)) (by decide) rfl (fun ls hl => ?_)
                have hl : lv_has ls 7 [(6, .int (nI (j + 1))), (1, .ref sp), (2, .ref (ta 0)), (3, .ref (ad 17)), (4, .ref (ad 3)), (5, .ref (ad 1)), (0, .ref (ad 24))] := hl
                refine lv_goto hx hb d_A_pick_113 (tgt := 74) rfl ?_
                exact ih74 _ (by omega) (j + 1) (va_up ar2 j (roT NL y.nc y.rc RS (SS j))) (by omega) (by rw [pkR_f (by rw [← e2]; exact g20), ← e2]) rfl H _ ls hP hD hS (lv_sub hl [0, 1, 2, 3, 4, 5, 6] rfl)
        exact L74 _ 0 ar (Nat.zero_le _) rfl rfl H _ ls hP hD hS (lv_sub hl [0, 1, 2, 3, 4, 5, 6] rfl)
      · have g4 := mt (nI_leI (a := x.nser) (b := i) (by omega) (by omega)).mpr g4
        refine lv_aload_n hx hb d_A_pick_22 rfl (lv_at hl 6 rfl) ?_
        refine gF (v := .ref (ad 26)) hx hb hown hE hK hP 42 rfl rfl layA 2 (by decide) w800 rfl d_A_pick_23 ?_
        refine lv_iload hx hb d_A_pick_26 (lv_at hl 0 rfl) ?_
        refine lv_iconst (v := (-1)) hx hb d_A_pick_28 (by decide) ?_
        refine nist (n := 256) hx hb hK hP hD hS (43) 1 rfl rfl (i) (by omega) (by decide) d_A_pick_29 (fun H locs hP hD hS => ?_)
        have hP : va_P D vwCl (TbW dA ta y ++ (VW dA h ad (VS.s_ahb (VS.s_aro x (va_up ar i (-1))) bh))) H := hP
        have hD : va_D A (TbW dA ta y ++ (VW dA h ad (VS.s_ahb (VS.s_aro x (va_up ar i (-1))) bh))) := hD
        refine lv_aload_n hx hb d_A_pick_30 rfl (lv_at hl 6 rfl) ?_
        refine gF (v := .ref (ad 27)) hx hb hown hE hK hP 42 rfl rfl layA 3 (by decide) w801 rfl d_A_pick_31 ?_
        refine lv_iload hx hb d_A_pick_34 (lv_at hl 0 rfl) ?_
        refine lv_iconst (v := 0) hx hb d_A_pick_36 (by decide) ?_
        refine nzstB (v := false) (n := 256) hx hb hK hP hD hS (44) 3 rfl rfl (i) (by omega) (by decide) d_A_pick_37 (fun H locs hP hD hS => ?_)
        have hP : va_P D vwCl (TbW dA ta y ++ (VW dA h ad (VS.s_ahb (VS.s_aro x (va_up ar i (-1))) (va_up bh i false)))) H := hP
        have hD : va_D A (TbW dA ta y ++ (VW dA h ad (VS.s_ahb (VS.s_aro x (va_up ar i (-1))) (va_up bh i false)))) := hD
        refine lv_aload_n hx hb d_A_pick_38 rfl (lv_at hl 1 rfl) ?_
        obtain ⟨a1, ke, hs1, ho1⟩ := hkn i (by omega)
        have hs1c := hs1
        obtain ⟨na1, va1, no1, tx1, fn1, fv1, g1a, -⟩ := hs1c
        refine lv_aload_n hx hb d_A_pick_39 rfl (lv_at hl 3 rfl) ?_
        refine lv_iload hx hb d_A_pick_40 (lv_at hl 0 rfl) ?_
        refine nqld (f := x.kn) (n := 256) hx hb hK hP (36) 5 rfl rfl (i) (by omega) (by decide) ke d_A_pick_42 ?_
        obtain ⟨qp23, ep24⟩ := List.getElem?_of_mem (show ((sp, .inr (13, [.int kd, .int (nI pl), .long nu, .ref na, .int (nI nn), .ref ln, .ref lt, .ref mk])) : Nat × va_E) ∈ TbW dA ta y ++ (VW dA h ad (VS.s_ahb (VS.s_aro x (va_up ar i (-1))) (va_up bh i false))) from (List.mem_append_right _ (plm j1)))
        refine jkI (wr := []) (rnV (As := [.ref a1]) (rest := []) hx hb hml hown hE hK (hN _ _ hS) hP hD (v_Etakes l D dA H.size (TbW dA ta y ++ (VW dA h ad (VS.s_ahb (VS.s_aro x (va_up ar i (-1))) (va_up bh i false)))) sp kd pl nu nn NL n KD MN MT a1 (SS i) (isStp_m (fun _ hm => (List.mem_append_right _ (plm hm))) hst) (isSer_m (fun _ hm => (List.mem_append_right _ (plm hm))) hs1) ho1) (q0 := qp23) ep24 rfl w1714 w1713 w1715 w1716 w1496 rfl rfl ⟨⟨by decide, by decide⟩, rfl⟩ ⟨(Nat.le_of_ble_eq_true rfl), (Nat.le_of_ble_eq_true rfl)⟩ rfl hl.1 rfl (Nat.le_of_ble_eq_true rfl) d_A_pick_43 ⟨(show 0 + 0 + 0 ≤ 3 by omega), (show 0 + 0 + 0 ≤ pkS (pkG NL n KD MN MT SS x.kn (TB.s_rc (TB.s_wi (TB.s_nc t nn) x.awi) 0, fun _ => [], x.aro, x.ahb) x.nser).1.rc x.awi t.cN x.bN by omega)⟩) hP hD hS hA (fun r25 u26 H locs hp9 hP hD hS => ?_)
        have hP : va_P D vwCl (TbW dA ta y ++ (VW dA h ad (VS.s_ahb (VS.s_aro x (va_up ar i (-1))) (va_up bh i false)))) H := hP
        have hD : va_D A (TbW dA ta y ++ (VW dA h ad (VS.s_ahb (VS.s_aro x (va_up ar i (-1))) (va_up bh i false)))) := hD
        replace hp9 : bI (allB n (tkF KD MN MT (SS i))) = r25 := Eq.symm hp9
        subst hp9
        refine lv_if_eq hx hb d_A_pick_46 (tgt := 65) rfl (fun g27 => ?_) (fun g27 => ?_)
        · have g27 := bI_0 g27
          refine lv_iinc (k := 0) (v := nI (i + 1)) hx hb d_A_pick_65 hl rfl (iincN (i) 1 1 (by decide)) (by decide) rfl (fun ls hl => ?_)
          have hl : lv_has ls 7 [(6, .int (nI (i + 1))), (1, .ref sp), (2, .ref (ta 0)), (3, .ref (ad 17)), (4, .ref (ad 3)), (5, .ref (ad 1)), (0, .ref (ad 24))] := hl
          refine lv_goto hx hb d_A_pick_68 (tgt := 12) rfl ?_
          exact ih12 _ (by omega) (i + 1) y RS (va_up ar i (-1)) (va_up bh i false) (by omega) (by rw [pk_f g27, ← eP]) hnx hrk ⟨ky.1, ky.2.1, ky.2.2.1, ky.2.2.2.1, ky.2.2.2.2.1, Nat.le_succ_of_le ky.2.2.2.2.2⟩ hra2 rfl H _ ls hP hD hS (lv_sub hl [0, 1, 2, 3, 4, 5, 6] rfl)
        · have g27 := bI_n0 g27
          refine lv_aload_n hx hb d_A_pick_49 rfl (lv_at hl 6 rfl) ?_
          refine gF (v := .ref (ad 26)) hx hb hown hE hK hP 42 rfl rfl layA 2 (by decide) w800 rfl d_A_pick_50 ?_
          refine lv_iload hx hb d_A_pick_53 (lv_at hl 0 rfl) ?_
          refine lv_iconst (v := 0) hx hb d_A_pick_55 (by decide) ?_
          refine nist (n := 256) hx hb hK hP hD hS (43) 1 rfl rfl (i) (by omega) (by decide) d_A_pick_56 (fun H locs hP hD hS => ?_)
          have hP : va_P D vwCl (TbW dA ta y ++ (VW dA h ad (VS.s_ahb (VS.s_aro x (va_up (va_up ar i (-1)) i 0)) (va_up bh i false)))) H := hP
          have hD : va_D A (TbW dA ta y ++ (VW dA h ad (VS.s_ahb (VS.s_aro x (va_up (va_up ar i (-1)) i 0)) (va_up bh i false)))) := hD
          refine lv_aload_n hx hb d_A_pick_57 rfl (lv_at hl 2 rfl) ?_
          refine lv_aload_n hx hb d_A_pick_58 rfl (lv_at hl 3 rfl) ?_
          refine lv_iload hx hb d_A_pick_59 (lv_at hl 0 rfl) ?_
          refine nqld (f := x.kn) (n := 256) hx hb hK hP (36) 5 rfl rfl (i) (by omega) (by decide) ke d_A_pick_61 ?_
          refine jkV (wr := []) (rnV (As := [.ref a1]) (rest := []) hx hb hml hown hE hK (hN _ _ hS) hP hD (v_TaddRow l D dA H.size (VW dA h ad (VS.s_ahb (VS.s_aro x (va_up (va_up ar i (-1)) i 0)) (va_up bh i false))) ta y NL RS a1 (SS i) (nmOk_m (fun _ hm => (plm hm)) hny) hnc6 (rsOk_m (fun _ hm => (plm hm)) hrk) (isSer_m (fun _ hm => (plm hm)) hs1) ho1 ky.1) (q0 := 0) rfl rfl w1718 w1717 w1719 w1720 w807 rfl rfl ⟨⟨by decide, by decide⟩, rfl⟩ ⟨(Nat.le_of_ble_eq_true rfl), (Nat.le_of_ble_eq_true rfl)⟩ rfl hl.1 rfl (Nat.le_of_ble_eq_true rfl) d_A_pick_62 ⟨(show 0 + 0 + 0 + 0 ≤ 3 by omega), (show 0 + 0 + 0 + 0 ≤ pkS (pkG NL n KD MN MT SS x.kn (TB.s_rc (TB.s_wi (TB.s_nc t nn) x.awi) 0, fun _ => [], x.aro, x.ahb) x.nser).1.rc x.awi t.cN x.bN by omega)⟩) hP hD hS hA (fun u29 H locs hp9 hP hD hS => ?_)
          obtain ⟨y1, h9u⟩ : ∃ z9, z9 = u29 := ⟨_, rfl⟩
          subst h9u
          have hP : va_P D vwCl (TbW dA ta y1 ++ (VW dA h ad (VS.s_ahb (VS.s_aro x (va_up (va_up ar i (-1)) i 0)) (va_up bh i false)))) H := hP
          have hD : va_D A (TbW dA ta y1 ++ (VW dA h ad (VS.s_ahb (VS.s_aro x (va_up (va_up ar i (-1)) i 0)) (va_up bh i false)))) := hD
          have f_e_30 := hp9
          have eg : (x.kn i).getD 0 = a1 := by rw [ke]; rfl
          obtain ⟨r1, r2, r3, r4, r5, r6, r7⟩ := rsOk_ad (NL := NL) hrk hs1 ho1 ky.1
          rw [← f_e_30] at r1 r2 r3 r4 r5 r6 r7
          have ra1 : rsAll dA x.pl y1.rs := by rw [f_e_30]; exact rsAll_ad hra2 hs1 ho1
          refine lv_iinc (k := 0) (v := nI (i + 1)) hx hb d_A_pick_65 hl rfl (iincN (i) 1 1 (by decide)) (by decide) rfl (fun ls hl => ?_)
          have hl : lv_has ls 7 [(6, .int (nI (i + 1))), (1, .ref sp), (2, .ref (ta 0)), (3, .ref (ad 17)), (4, .ref (ad 3)), (5, .ref (ad 1)), (0, .ref (ad 24))] := hl
          refine lv_goto hx hb d_A_pick_68 (tgt := 12) rfl ?_
          exact ih12 _ (by omega) (i + 1) y1 (adRS NL y RS (SS i)) (va_up (va_up ar i (-1)) i 0) (va_up bh i false) (by omega) (by rw [pk_t g27, ← eP, eg]; show _ = (adT NL y RS (SS i) a1, _, _, _); rw [← f_e_30]) hnx r1 ⟨r2, r3.trans ky.2.1, r4.trans ky.2.2.1, r5.trans ky.2.2.2.1, r6.trans ky.2.2.2.2.1, Nat.le_trans r7 (Nat.succ_le_succ ky.2.2.2.2.2)⟩ ra1 rfl H _ ls hP hD hS (lv_sub hl [0, 1, 2, 3, 4, 5, 6] rfl)
  exact L12 _ 0 (TB.s_rc (TB.s_wi (TB.s_nc (TB.s_nm t nx) nn) x.awi) 0) (fun _ => []) x.aro x.ahb (Nat.zero_le _) rfl f_nm_3 (fun q hq => absurd hq (Nat.not_lt_zero q)) ⟨Nat.zero_le _, rfl, rfl, rfl, rfl, Nat.le_refl _⟩ hra rfl H _ ls hP hD hS (lv_sub hl [0, 2, 3, 4, 5, 6, 1] rfl)
