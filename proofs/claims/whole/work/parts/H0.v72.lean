/-! All points met: parcels, then the head. -/
abbrev MM : Type := TB × (Nat → Bool) × (Nat → Int64) × (Nat → Int64) × (Nat → Nat)
def VS.pb (x : VS) (M : MM) : VS := VS.s_bO (VS.s_bT (VS.s_abf (VS.s_ahb x M.2.1) M.2.2.1) M.2.2.2.1) M.2.2.2.2
def mm1 (fn : Int32) (x : VS) (M : MM) (o : Nat) (tm v : Int64) : MM := (mqY fn M.1 (x.pb M) o tm v, va_up M.2.1 o true, va_up M.2.2.1 o v, mqT fn M.1 (x.pb M) o tm, mqO fn M.1 (x.pb M) o tm)
/-- i points of a parcel -/
def mmP (fn : Int32) (x : VS) (P : PT) (M : MM) : Nat → MM
  | 0 => M
  | i + 1 => if ¬ x.aro (P.o i) = (-1) ∧ x.sePc P i = true then mm1 fn x (mmP fn x P M i) (P.o i) (P.t i) (P.v i) else mmP fn x P M i
/-- k parcels -/
def mmK (fn : Int32) (x : VS) (PS : Nat → PT) (M : MM) : Nat → MM
  | 0 => M
  | k + 1 => mmP fn x (PS k) (mmK fn x PS M k) (PS k).n
/-- i points of the head -/
def mmH (fn : Int32) (x : VS) (M : MM) : Nat → MM
  | 0 => M
  | i + 1 => if ¬ x.aro (x.hO i) = (-1) then mm1 fn x (mmH fn x M i) (x.hO i) (x.hT i) (x.hV i) else mmH fn x M i
def VS.m0 (x : VS) (t : TB) : MM := (t, x.ahb, x.abf, x.bT, x.bO)
def mmA (fn : Int32) (x : VS) (PS : Nat → PT) (t : TB) : MM := mmH fn x (mmK fn x PS (x.m0 t) x.npc) x.hsize
section MMS
variable {fn : Int32} {x : VS} {P : PT} {M : MM} {i : Nat}
theorem mmP_t (h : ¬ x.aro (P.o i) = (-1)) (h2 : x.sePc P i = true) : mmP fn x P M (i + 1) = mm1 fn x (mmP fn x P M i) (P.o i) (P.t i) (P.v i) := if_pos ⟨h, h2⟩
theorem mmP_f (h : x.aro (P.o i) = (-1) ∨ x.sePc P i = false) : mmP fn x P M (i + 1) = mmP fn x P M i := if_neg (fun z => by
  rcases h with h | h
  · exact z.1 h
  · rw [z.2] at h; cases h)
theorem mmH_t (h : ¬ x.aro (x.hO i) = (-1)) : mmH fn x M (i + 1) = mm1 fn x (mmH fn x M i) (x.hO i) (x.hT i) (x.hV i) := if_pos h
theorem mmH_f (h : x.aro (x.hO i) = (-1)) : mmH fn x M (i + 1) = mmH fn x M i := if_neg (fun z => z h)
end MMS
theorem mqY_k {fn : Int32} {t : TB} {x : VS} {o : Nat} {tm v : Int64} : (mqY fn t x o tm v).wi = t.wi ∧ (mqY fn t x o tm v).rc = t.rc ∧ (mqY fn t x o tm v).cN = t.cN := by
  unfold mqY
  split
  · exact ⟨rfl, rfl, rfl⟩
  · exact ⟨mtT_k.1, mtT_k.2.1, mtT_k.2.2.1⟩
theorem mqO_l {fn : Int32} {t : TB} {x : VS} {o : Nat} {tm : Int64} (h : ∀ k, x.bO k < 256) (ho : o < 256) : ∀ k, mqO fn t x o tm k < 256 := by
  unfold mqO
  split
  · exact h
  · exact mxO_lt _ _ _ _ _ _ _ h ho
theorem d_A_meetPoints_0 : decode prog_2_method_8_code 0 = .ok (.iconst 0, 1) := by decide +kernel
theorem d_A_meetPoints_1 : decode prog_2_method_8_code 1 = .ok (.istore 5, 2) := by decide +kernel
theorem d_A_meetPoints_3 : decode prog_2_method_8_code 3 = .ok (.iload 5, 2) := by decide +kernel
theorem d_A_meetPoints_5 : decode prog_2_method_8_code 5 = .ok (.aload_n 3, 1) := by decide +kernel
theorem d_A_meetPoints_6 : decode prog_2_method_8_code 6 = .ok (.getfield 162, 3) := by decide +kernel
theorem d_A_meetPoints_9 : decode prog_2_method_8_code 9 = .ok (.if_icmp .ge 95, 3) := by decide +kernel
theorem d_A_meetPoints_104 : decode prog_2_method_8_code 104 = .ok (.iconst 0, 1) := by decide +kernel
theorem d_A_meetPoints_105 : decode prog_2_method_8_code 105 = .ok (.istore 5, 2) := by decide +kernel
theorem d_A_meetPoints_107 : decode prog_2_method_8_code 107 = .ok (.iload 5, 2) := by decide +kernel
theorem d_A_meetPoints_109 : decode prog_2_method_8_code 109 = .ok (.aload 4, 2) := by decide +kernel
theorem d_A_meetPoints_111 : decode prog_2_method_8_code 111 = .ok (.getfield 190, 3) := by decide +kernel
theorem d_A_meetPoints_114 : decode prog_2_method_8_code 114 = .ok (.if_icmp .ge 56, 3) := by decide +kernel
theorem d_A_meetPoints_170 : decode prog_2_method_8_code 170 = .ok (.return_, 1) := by decide +kernel
theorem d_A_meetPoints_117 : decode prog_2_method_8_code 117 = .ok (.aload_n 0, 1) := by decide +kernel
theorem d_A_meetPoints_118 : decode prog_2_method_8_code 118 = .ok (.getfield 18, 3) := by decide +kernel
theorem d_A_meetPoints_121 : decode prog_2_method_8_code 121 = .ok (.aload 4, 2) := by decide +kernel
theorem d_A_meetPoints_123 : decode prog_2_method_8_code 123 = .ok (.getfield 193, 3) := by decide +kernel
theorem d_A_meetPoints_126 : decode prog_2_method_8_code 126 = .ok (.iload 5, 2) := by decide +kernel
theorem d_A_meetPoints_128 : decode prog_2_method_8_code 128 = .ok (.iaload, 1) := by decide +kernel
theorem d_A_meetPoints_129 : decode prog_2_method_8_code 129 = .ok (.iaload, 1) := by decide +kernel
theorem d_A_meetPoints_130 : decode prog_2_method_8_code 130 = .ok (.iconst (-1), 1) := by decide +kernel
theorem d_A_meetPoints_131 : decode prog_2_method_8_code 131 = .ok (.if_icmp .eq 33, 3) := by decide +kernel
theorem d_A_meetPoints_164 : decode prog_2_method_8_code 164 = .ok (.iinc 5 1, 3) := by decide +kernel
theorem d_A_meetPoints_167 : decode prog_2_method_8_code 167 = .ok (.goto (-60), 3) := by decide +kernel
theorem d_A_meetPoints_134 : decode prog_2_method_8_code 134 = .ok (.aload_n 0, 1) := by decide +kernel
theorem d_A_meetPoints_135 : decode prog_2_method_8_code 135 = .ok (.iload_n 1, 1) := by decide +kernel
theorem d_A_meetPoints_136 : decode prog_2_method_8_code 136 = .ok (.aload_n 2, 1) := by decide +kernel
theorem d_A_meetPoints_137 : decode prog_2_method_8_code 137 = .ok (.aload 4, 2) := by decide +kernel
theorem d_A_meetPoints_139 : decode prog_2_method_8_code 139 = .ok (.getfield 193, 3) := by decide +kernel
theorem d_A_meetPoints_142 : decode prog_2_method_8_code 142 = .ok (.iload 5, 2) := by decide +kernel
theorem d_A_meetPoints_144 : decode prog_2_method_8_code 144 = .ok (.iaload, 1) := by decide +kernel
theorem d_A_meetPoints_145 : decode prog_2_method_8_code 145 = .ok (.aload 4, 2) := by decide +kernel
theorem d_A_meetPoints_147 : decode prog_2_method_8_code 147 = .ok (.getfield 194, 3) := by decide +kernel
theorem d_A_meetPoints_150 : decode prog_2_method_8_code 150 = .ok (.iload 5, 2) := by decide +kernel
theorem d_A_meetPoints_152 : decode prog_2_method_8_code 152 = .ok (.laload, 1) := by decide +kernel
theorem d_A_meetPoints_153 : decode prog_2_method_8_code 153 = .ok (.aload 4, 2) := by decide +kernel
theorem d_A_meetPoints_155 : decode prog_2_method_8_code 155 = .ok (.getfield 195, 3) := by decide +kernel
theorem d_A_meetPoints_158 : decode prog_2_method_8_code 158 = .ok (.iload 5, 2) := by decide +kernel
theorem d_A_meetPoints_160 : decode prog_2_method_8_code 160 = .ok (.laload, 1) := by decide +kernel
theorem d_A_meetPoints_161 : decode prog_2_method_8_code 161 = .ok (.invokevirtual 186, 3) := by decide +kernel
theorem d_A_meetPoints_12 : decode prog_2_method_8_code 12 = .ok (.aload_n 3, 1) := by decide +kernel
theorem d_A_meetPoints_13 : decode prog_2_method_8_code 13 = .ok (.getfield 165, 3) := by decide +kernel
theorem d_A_meetPoints_16 : decode prog_2_method_8_code 16 = .ok (.iload 5, 2) := by decide +kernel
theorem d_A_meetPoints_18 : decode prog_2_method_8_code 18 = .ok (.aaload, 1) := by decide +kernel
theorem d_A_meetPoints_19 : decode prog_2_method_8_code 19 = .ok (.astore 6, 2) := by decide +kernel
theorem d_A_meetPoints_21 : decode prog_2_method_8_code 21 = .ok (.iconst 0, 1) := by decide +kernel
theorem d_A_meetPoints_22 : decode prog_2_method_8_code 22 = .ok (.istore 7, 2) := by decide +kernel
theorem d_A_meetPoints_24 : decode prog_2_method_8_code 24 = .ok (.iload 7, 2) := by decide +kernel
theorem d_A_meetPoints_26 : decode prog_2_method_8_code 26 = .ok (.aload 6, 2) := by decide +kernel
theorem d_A_meetPoints_28 : decode prog_2_method_8_code 28 = .ok (.getfield 169, 3) := by decide +kernel
theorem d_A_meetPoints_31 : decode prog_2_method_8_code 31 = .ok (.if_icmp .ge 67, 3) := by decide +kernel
theorem d_A_meetPoints_98 : decode prog_2_method_8_code 98 = .ok (.iinc 5 1, 3) := by decide +kernel
theorem d_A_meetPoints_101 : decode prog_2_method_8_code 101 = .ok (.goto (-98), 3) := by decide +kernel
theorem d_A_meetPoints_34 : decode prog_2_method_8_code 34 = .ok (.aload_n 0, 1) := by decide +kernel
theorem d_A_meetPoints_35 : decode prog_2_method_8_code 35 = .ok (.getfield 18, 3) := by decide +kernel
theorem d_A_meetPoints_38 : decode prog_2_method_8_code 38 = .ok (.aload 6, 2) := by decide +kernel
theorem d_A_meetPoints_40 : decode prog_2_method_8_code 40 = .ok (.getfield 173, 3) := by decide +kernel
theorem d_A_meetPoints_43 : decode prog_2_method_8_code 43 = .ok (.iload 7, 2) := by decide +kernel
theorem d_A_meetPoints_45 : decode prog_2_method_8_code 45 = .ok (.iaload, 1) := by decide +kernel
theorem d_A_meetPoints_46 : decode prog_2_method_8_code 46 = .ok (.iaload, 1) := by decide +kernel
theorem d_A_meetPoints_47 : decode prog_2_method_8_code 47 = .ok (.iconst (-1), 1) := by decide +kernel
theorem d_A_meetPoints_48 : decode prog_2_method_8_code 48 = .ok (.if_icmp .eq 44, 3) := by decide +kernel
theorem d_A_meetPoints_92 : decode prog_2_method_8_code 92 = .ok (.iinc 7 1, 3) := by decide +kernel
theorem d_A_meetPoints_95 : decode prog_2_method_8_code 95 = .ok (.goto (-71), 3) := by decide +kernel
theorem d_A_meetPoints_51 : decode prog_2_method_8_code 51 = .ok (.aload_n 3, 1) := by decide +kernel
theorem d_A_meetPoints_52 : decode prog_2_method_8_code 52 = .ok (.aload 6, 2) := by decide +kernel
theorem d_A_meetPoints_54 : decode prog_2_method_8_code 54 = .ok (.iload 7, 2) := by decide +kernel
theorem d_A_meetPoints_56 : decode prog_2_method_8_code 56 = .ok (.invokevirtual 176, 3) := by decide +kernel
theorem d_A_meetPoints_59 : decode prog_2_method_8_code 59 = .ok (.ifCond .eq 33, 3) := by decide +kernel
theorem d_A_meetPoints_62 : decode prog_2_method_8_code 62 = .ok (.aload_n 0, 1) := by decide +kernel
theorem d_A_meetPoints_63 : decode prog_2_method_8_code 63 = .ok (.iload_n 1, 1) := by decide +kernel
theorem d_A_meetPoints_64 : decode prog_2_method_8_code 64 = .ok (.aload_n 2, 1) := by decide +kernel
theorem d_A_meetPoints_65 : decode prog_2_method_8_code 65 = .ok (.aload 6, 2) := by decide +kernel
theorem d_A_meetPoints_67 : decode prog_2_method_8_code 67 = .ok (.getfield 173, 3) := by decide +kernel
theorem d_A_meetPoints_70 : decode prog_2_method_8_code 70 = .ok (.iload 7, 2) := by decide +kernel
theorem d_A_meetPoints_72 : decode prog_2_method_8_code 72 = .ok (.iaload, 1) := by decide +kernel
theorem d_A_meetPoints_73 : decode prog_2_method_8_code 73 = .ok (.aload 6, 2) := by decide +kernel
theorem d_A_meetPoints_75 : decode prog_2_method_8_code 75 = .ok (.getfield 180, 3) := by decide +kernel
theorem d_A_meetPoints_78 : decode prog_2_method_8_code 78 = .ok (.iload 7, 2) := by decide +kernel
theorem d_A_meetPoints_80 : decode prog_2_method_8_code 80 = .ok (.laload, 1) := by decide +kernel
theorem d_A_meetPoints_81 : decode prog_2_method_8_code 81 = .ok (.aload 6, 2) := by decide +kernel
theorem d_A_meetPoints_83 : decode prog_2_method_8_code 83 = .ok (.getfield 183, 3) := by decide +kernel
theorem d_A_meetPoints_86 : decode prog_2_method_8_code 86 = .ok (.iload 7, 2) := by decide +kernel
theorem d_A_meetPoints_88 : decode prog_2_method_8_code 88 = .ok (.laload, 1) := by decide +kernel
theorem d_A_meetPoints_89 : decode prog_2_method_8_code 89 = .ok (.invokevirtual 186, 3) := by decide +kernel
theorem w1677 : Cond.fieldLinkNest "SeriesVault$Answers" 162 "SeriesVault$Shelf" "parcelCount" "I" "SeriesVault" ∈ aW := aw_of (tb_1 (List.mem_of_getElem? (i := 144) rfl)) rfl
theorem w1678 : Cond.fieldLinkNest "SeriesVault$Answers" 190 "SeriesVault$Points" "size" "I" "SeriesVault" ∈ aW := aw_of (tb_1 (List.mem_of_getElem? (i := 121) rfl)) rfl
theorem w1679 : Cond.fieldLinkNest "SeriesVault$Answers" 193 "SeriesVault$Points" "owners" "[I" "SeriesVault" ∈ aW := aw_of (tb_1 (List.mem_of_getElem? (i := 112) rfl)) rfl
theorem w1680 : Cond.fieldLinkNest "SeriesVault$Answers" 194 "SeriesVault$Points" "times" "[J" "SeriesVault" ∈ aW := aw_of (tb_1 (List.mem_of_getElem? (i := 115) rfl)) rfl
theorem w1681 : Cond.fieldLinkNest "SeriesVault$Answers" 195 "SeriesVault$Points" "values" "[J" "SeriesVault" ∈ aW := aw_of (tb_1 (List.mem_of_getElem? (i := 118) rfl)) rfl
theorem w1682 : Cond.methodLink "SeriesVault$Answers" 186 ⟨"SeriesVault$Answers", "meet", "(ILSeriesVault$Table;IJJ)V"⟩ ∈ aW := aw_of (tb_7 (List.mem_of_getElem? (i := 238) rfl)) rfl
theorem w1683 : Cond.code ⟨"SeriesVault$Answers", "meet", "(ILSeriesVault$Table;IJJ)V"⟩ prog_2_method_9_code 10 none ∈ aW := aw_of (tb_8 (List.mem_of_getElem? (i := 1) rfl)) rfl
theorem w1684 : Cond.instanceMethod ⟨"SeriesVault$Answers", "meet", "(ILSeriesVault$Table;IJJ)V"⟩ ∈ aW := aw_of (tb_8 (List.mem_of_getElem? (i := 0) rfl)) rfl
theorem w1685 : Cond.selects "SeriesVault$Answers" ⟨"SeriesVault$Answers", "meet", "(ILSeriesVault$Table;IJJ)V"⟩ ⟨"SeriesVault$Answers", "meet", "(ILSeriesVault$Table;IJJ)V"⟩ ∈ aW := aw_pr (List.mem_map.mpr ⟨_, pv_4 (List.mem_of_getElem? (i := 9) rfl), rfl⟩) rfl
theorem w1686 : Cond.fieldLinkNest "SeriesVault$Answers" 165 "SeriesVault$Shelf" "parcels" "[LSeriesVault$Parcel;" "SeriesVault" ∈ aW := aw_of (tb_1 (List.mem_of_getElem? (i := 141) rfl)) rfl
theorem w1687 : Cond.fieldLinkNest "SeriesVault$Answers" 169 "SeriesVault$Parcel" "size" "I" "SeriesVault" ∈ aW := aw_of (tb_6 (List.mem_of_getElem? (i := 54) rfl)) rfl
theorem w1688 : Cond.fieldLinkNest "SeriesVault$Answers" 173 "SeriesVault$Parcel" "owners" "[I" "SeriesVault" ∈ aW := aw_of (tb_6 (List.mem_of_getElem? (i := 45) rfl)) rfl
theorem w1689 : Cond.methodLink "SeriesVault$Answers" 176 ⟨"SeriesVault$Shelf", "sees", "(LSeriesVault$Parcel;I)Z"⟩ ∈ aW := aw_of (tb_7 (List.mem_of_getElem? (i := 237) rfl)) rfl
theorem w1690 : Cond.fieldLinkNest "SeriesVault$Answers" 180 "SeriesVault$Parcel" "times" "[J" "SeriesVault" ∈ aW := aw_of (tb_6 (List.mem_of_getElem? (i := 48) rfl)) rfl
theorem w1691 : Cond.fieldLinkNest "SeriesVault$Answers" 183 "SeriesVault$Parcel" "values" "[J" "SeriesVault" ∈ aW := aw_of (tb_6 (List.mem_of_getElem? (i := 51) rfl)) rfl
set_option maxHeartbeats 4000000 in
set_option maxRecDepth 100000 in
theorem v_meetPoints (l : Launch) (D : va_G) (dA : Nat → ClassId) (sz : Nat) (h : Nat) (ad : Nat → Nat) (ta : Nat → Nat) (t : TB) (x : VS) (fn : Int32) (PS : Nat → PT) (hwi : x.awi ≤ 64) (hrc : t.rc ≤ 256) (hcN : t.cN ≤ 65536) (hwt : t.wi = x.awi) (h1 : t.rc * t.wi ≤ t.cN) (h4 : t.rc * x.awi ≤ x.bN) (h5 : x.bN ≤ 65536) (h6 : ∀ k : Nat, x.bO k < 256) (hfn : isFn fn) (hps : psOk dA x.nP x.npc x.pl PS) (hpn : x.npc ≤ 32) (hs1 : x.nsc ≤ 64) (hs7 : ∀ q : Nat, q < x.nsc → x.nsO q < 2 ^ 31) (hns : x.nser ≤ 256) (ha : ∀ o : Nat, o < x.nser → x.aro o = (-1) ∨ ∃ r, r < t.rc ∧ x.aro o = nI r) (hpo : ∀ k : Nat, k < x.npc → ∀ i : Nat, i < (PS k).n → (PS k).o i < x.nser ∧ wOk x.afr x.awd x.awi ((PS k).t i)) (hho : ∀ i : Nat, i < x.hsize → x.hO i < x.nser ∧ wOk x.afr x.awd x.awi (x.hT i)) (hhz : x.hsize ≤ x.hN) (hhN : x.hN ≤ 65536) : Met l ⟨"SeriesVault$Answers", "meetPoints", "(ILSeriesVault$Table;LSeriesVault$Shelf;LSeriesVault$Points;)V"⟩ [Cond.code ⟨"SeriesVault$Answers", "meetPoints", "(ILSeriesVault$Table;LSeriesVault$Shelf;LSeriesVault$Points;)V"⟩ prog_2_method_8_code 8 none] { frames := 5, cells := 0, slots := 0, locals := 329 } (pC D dA [.ref (ad 24), .int fn, .ref (ta 0), .ref (ad 3), .ref (ad 1)] (TbW dA ta t ++ (VW dA h ad x)) sz) (va_Qv (fun (u9 : TB × (Nat → Bool) × (Nat → Int64) × (Nat → Int64) × (Nat → Nat)) => (u9.1, u9.2.1, u9.2.2.1, u9.2.2.2.1, u9.2.2.2.2) = mmA fn x PS t) (fun (u9 : TB × (Nat → Bool) × (Nat → Int64) × (Nat → Int64) × (Nat → Nat)) t9 => bW D (va_A (TbW dA ta t ++ (VW dA h ad x)) sz) (TbW dA ta u9.1 ++ (VW dA h ad (VS.s_bO (VS.s_bT (VS.s_abf (VS.s_ahb x u9.2.1) u9.2.2.1) u9.2.2.2.1) u9.2.2.2.2))) t9) (va_A (TbW dA ta t ++ (VW dA h ad x)) sz)) 0 0 (va_A (TbW dA ta t ++ (VW dA h ad x)) sz) := by
  refine mkC (y := ⟨"SeriesVault$Answers", "meetPoints", "(ILSeriesVault$Table;LSeriesVault$Shelf;LSeriesVault$Points;)V"⟩) (cc := prog_2_method_8_code) (maxL := 8) (av := [.ref (ad 24), .int fn, .ref (ta 0), .ref (ad 3), .ref (ad 1)]) (ws := TbW dA ta t ++ (VW dA h ad x)) (sz := sz) (Qc := fun A => va_Qv (fun (u9 : TB × (Nat → Bool) × (Nat → Int64) × (Nat → Int64) × (Nat → Nat)) => (u9.1, u9.2.1, u9.2.2.1, u9.2.2.2.1, u9.2.2.2.2) = mmA fn x PS t) (fun (u9 : TB × (Nat → Bool) × (Nat → Int64) × (Nat → Int64) × (Nat → Nat)) t9 => bW D A (TbW dA ta u9.1 ++ (VW dA h ad (VS.s_bO (VS.s_bT (VS.s_abf (VS.s_ahb x u9.2.1) u9.2.2.1) u9.2.2.2.1) u9.2.2.2.2))) t9) A) (by decide) (Nat.le_of_ble_eq_true rfl) ?_
  intro A p e s m below meth c ls hsz hB
  obtain ⟨hx, hb, hr, hml, hown, hin, hlk, hE, hK, hP, hD, hS, hA, hN, hl⟩ := hB
  have hown : s.vm.findClass "SeriesVault$Answers" = some m.cls := hown
  have hl : lv_has ls 8 [(0, .ref (ad 24)), (1, .int fn), (2, .ref (ta 0)), (3, .ref (ad 3)), (4, .ref (ad 1))] := hl
  obtain ⟨H, hH⟩ : ∃ z, z = s.heap := ⟨_, rfl⟩
  have hP : va_P D vwCl (TbW dA ta t ++ (VW dA h ad x)) H := by rw [hH]; exact hP
  have hS : va_S A s.heap H [] := by rw [hH]; exact hS
  rw [← hH]
  refine lv_iconst (v := 0) hx hb d_A_meetPoints_0 (by decide) ?_
  refine lv_istore hx hb d_A_meetPoints_1 hl (by decide) rfl (fun ls hl => ?_)
  have hl : lv_has ls 8 [(5, .int 0), (0, .ref (ad 24)), (1, .int fn), (2, .ref (ta 0)), (3, .ref (ad 3)), (4, .ref (ad 1))] := hl
  have L3 : ∀ (k9 : Nat) (k : Nat) (y : TB) (bh : Nat → Bool) (bf : Nat → Int64) (bt : Nat → Int64) (bo : Nat → Nat) (k1 : k ≤ x.npc) (eK : (y, bh, bf, bt, bo) = mmK fn x PS (x.m0 t) k) (ky : y.wi = t.wi ∧ y.rc = t.rc ∧ y.cN = t.cN) (kb : ∀ k : Nat, bo k < 256) (hk9 : x.npc - k = k9), ∀ (H : Heap) (locs : List Loc) (ls : Array Slot) (hP : va_P D vwCl (TbW dA ta y ++ (VW dA h ad (VS.s_bO (VS.s_bT (VS.s_abf (VS.s_ahb x bh) bf) bt) bo))) H) (hD : va_D A (TbW dA ta y ++ (VW dA h ad (VS.s_bO (VS.s_bT (VS.s_abf (VS.s_ahb x bh) bf) bt) bo)))) (hS : va_S A s.heap H locs) (hl : lv_has ls 8 [(5, .int (nI k)), (1, .int fn), (2, .ref (ta 0)), (3, .ref (ad 3)), (4, .ref (ad 1)), (0, .ref (ad 24))]), W p l e ({ frames := 5, cells := 0, slots := 0, locals := 329 } : Room) s m ([.ref (ad 24), .int fn, .ref (ta 0), .ref (ad 3), .ref (ad 1)] : List Value).toArray below meth c H locs 0 0 (MQ below (va_Qv (fun (u9 : TB × (Nat → Bool) × (Nat → Int64) × (Nat → Int64) × (Nat → Nat)) => (u9.1, u9.2.1, u9.2.2.1, u9.2.2.2.1, u9.2.2.2.2) = mmA fn x PS t) (fun (u9 : TB × (Nat → Bool) × (Nat → Int64) × (Nat → Int64) × (Nat → Nat)) t9 => bW D A (TbW dA ta u9.1 ++ (VW dA h ad (VS.s_bO (VS.s_bT (VS.s_abf (VS.s_ahb x u9.2.1) u9.2.2.1) u9.2.2.2.1) u9.2.2.2.2))) t9) A) ([.ref (ad 24), .int fn, .ref (ta 0), .ref (ad 3), .ref (ad 1)] : List Value).toArray s 0 0 A) (F0 m 3 ls []) := by
    intro k9
    induction k9 using Nat.strongRecOn with
    | ind k9 ih3 =>
      intro k y bh bf bt bo k1 eK ky kb hk9 H locs ls hP hD hS hl
      refine lv_iload hx hb d_A_meetPoints_3 (lv_at hl 0 rfl) ?_
      refine lv_aload_n hx hb d_A_meetPoints_5 rfl (lv_at hl 3 rfl) ?_
      refine gFN (v := .int (nI x.npc)) hx hb hown hE hK hP 22 rfl rfl layH 1 (by decide) w1677 rfl d_A_meetPoints_6 ?_
      refine lv_icmp_ge hx hb d_A_meetPoints_9 (tgt := 104) rfl (fun g1 => ?_) (fun g1 => ?_)
      · have g1 := (nI_leI (a := x.npc) (b := k) (by omega) (by omega)).mp g1
        refine lv_iconst (v := 0) hx hb d_A_meetPoints_104 (by decide) ?_
        refine lv_istore hx hb d_A_meetPoints_105 hl (by decide) rfl (fun ls hl => ?_)
        have hl : lv_has ls 8 [(5, .int 0), (1, .int fn), (2, .ref (ta 0)), (3, .ref (ad 3)), (4, .ref (ad 1)), (0, .ref (ad 24))] := hl
        have L107 : ∀ (k9 : Nat) (i : Nat) (y : TB) (bh : Nat → Bool) (bf : Nat → Int64) (bt : Nat → Int64) (bo : Nat → Nat) (j1 : i ≤ x.hsize) (eM : (y, bh, bf, bt, bo) = mmH fn x (mmK fn x PS (x.m0 t) x.npc) i) (ky : y.wi = t.wi ∧ y.rc = t.rc ∧ y.cN = t.cN) (kb : ∀ k : Nat, bo k < 256) (hk9 : x.hsize - i = k9), ∀ (H : Heap) (locs : List Loc) (ls : Array Slot) (hP : va_P D vwCl (TbW dA ta y ++ (VW dA h ad (VS.s_bO (VS.s_bT (VS.s_abf (VS.s_ahb x bh) bf) bt) bo))) H) (hD : va_D A (TbW dA ta y ++ (VW dA h ad (VS.s_bO (VS.s_bT (VS.s_abf (VS.s_ahb x bh) bf) bt) bo)))) (hS : va_S A s.heap H locs) (hl : lv_has ls 8 [(5, .int (nI i)), (1, .int fn), (2, .ref (ta 0)), (3, .ref (ad 3)), (4, .ref (ad 1)), (0, .ref (ad 24))]), W p l e ({ frames := 5, cells := 0, slots := 0, locals := 329 } : Room) s m ([.ref (ad 24), .int fn, .ref (ta 0), .ref (ad 3), .ref (ad 1)] : List Value).toArray below meth c H locs 0 0 (MQ below (va_Qv (fun (u9 : TB × (Nat → Bool) × (Nat → Int64) × (Nat → Int64) × (Nat → Nat)) => (u9.1, u9.2.1, u9.2.2.1, u9.2.2.2.1, u9.2.2.2.2) = mmA fn x PS t) (fun (u9 : TB × (Nat → Bool) × (Nat → Int64) × (Nat → Int64) × (Nat → Nat)) t9 => bW D A (TbW dA ta u9.1 ++ (VW dA h ad (VS.s_bO (VS.s_bT (VS.s_abf (VS.s_ahb x u9.2.1) u9.2.2.1) u9.2.2.2.1) u9.2.2.2.2))) t9) A) ([.ref (ad 24), .int fn, .ref (ta 0), .ref (ad 3), .ref (ad 1)] : List Value).toArray s 0 0 A) (F0 m 107 ls []) := by
          intro k9
          induction k9 using Nat.strongRecOn with
          | ind k9 ih107 =>
            intro i y bh bf bt bo j1 eM ky kb hk9 H locs ls hP hD hS hl
            refine lv_iload hx hb d_A_meetPoints_107 (lv_at hl 0 rfl) ?_
            refine lv_aload hx hb d_A_meetPoints_109 (lv_at hl 4 rfl) ?_
            refine gFN (v := .int (nI x.hsize)) hx hb hown hE hK hP 14 rfl rfl layP 3 (by decide) w1678 rfl d_A_meetPoints_111 ?_
            refine lv_icmp_ge hx hb d_A_meetPoints_114 (tgt := 170) rfl (fun g2 => ?_) (fun g2 => ?_)
            · have g2 := (nI_leI (a := x.hsize) (b := i) (by omega) (by omega)).mp g2
              exact rfV hx hb hr hlk hS (⟨y, bh, bf, bt, bo⟩) (by rw [eM, show i = x.hsize by omega]; rfl) hP hD (Nat.le_of_ble_eq_true rfl) (Nat.le_of_ble_eq_true rfl) d_A_meetPoints_170
            · have g2 := mt (nI_leI (a := x.hsize) (b := i) (by omega) (by omega)).mpr g2
              refine lv_aload_n hx hb d_A_meetPoints_117 rfl (lv_at hl 5 rfl) ?_
              have po9 := hho i (by omega)
              refine gF (v := .ref (ad 26)) hx hb hown hE hK hP 42 rfl rfl layA 2 (by decide) w800 rfl d_A_meetPoints_118 ?_
              refine lv_aload hx hb d_A_meetPoints_121 (lv_at hl 4 rfl) ?_
              refine gFN (v := .ref (x.hA 0)) hx hb hown hE hK hP 14 rfl rfl layP 0 (by decide) w1679 rfl d_A_meetPoints_123 ?_
              refine lv_iload hx hb d_A_meetPoints_126 (lv_at hl 0 rfl) ?_
              refine nild (f := (fun z9 => nI (x.hO z9))) (n := x.hN) hx hb hK hP (15) 1 rfl rfl (i) (by omega) (by omega) d_A_meetPoints_128 ?_
              refine nild (f := x.aro) (n := 256) hx hb hK hP (43) 1 rfl rfl (x.hO i) (by omega) (by decide) d_A_meetPoints_129 ?_
              refine lv_iconst (v := (-1)) hx hb d_A_meetPoints_130 (by decide) ?_
              refine lv_icmp_eq hx hb d_A_meetPoints_131 (tgt := 164) rfl (fun g3 => ?_) (fun g3 => ?_)
              · have g3 := g3
                refine lv_iinc (k := 0) (v := nI (i + 1)) hx hb d_A_meetPoints_164 hl rfl (iincN (i) 1 1 (by decide)) (by decide) rfl (fun ls hl => ?_)
                have hl : lv_has ls 8 [(5, .int (nI (i + 1))), (1, .int fn), (2, .ref (ta 0)), (3, .ref (ad 3)), (4, .ref (ad 1)), (0, .ref (ad 24))] := hl
                refine lv_goto hx hb d_A_meetPoints_167 (tgt := 107) rfl ?_
                exact ih107 _ (by omega) (i + 1) y bh bf bt bo (by omega) (by rw [mmH_f g3]; exact eM) ky kb rfl H _ ls hP hD hS (lv_sub hl [0, 1, 2, 3, 4, 5] rfl)
              · have g3 := g3
                refine lv_aload_n hx hb d_A_meetPoints_134 rfl (lv_at hl 5 rfl) ?_
                refine lv_iload_n hx hb d_A_meetPoints_135 rfl (lv_at hl 1 rfl) ?_
                refine lv_aload_n hx hb d_A_meetPoints_136 rfl (lv_at hl 2 rfl) ?_
                refine lv_aload hx hb d_A_meetPoints_137 (lv_at hl 4 rfl) ?_
                obtain ⟨r9, hr8, hro⟩ := (ha (x.hO i) po9.1).resolve_left g3
                have hr9 : r9 < y.rc := by rw [ky.2.1]; exact hr8
                refine gFN (v := .ref (x.hA 0)) hx hb hown hE hK hP 14 rfl rfl layP 0 (by decide) w1679 rfl d_A_meetPoints_139 ?_
                refine lv_iload hx hb d_A_meetPoints_142 (lv_at hl 0 rfl) ?_
                refine nild (f := (fun z9 => nI (x.hO z9))) (n := x.hN) hx hb hK hP (15) 1 rfl rfl (i) (by omega) (by omega) d_A_meetPoints_144 ?_
                refine lv_aload hx hb d_A_meetPoints_145 (lv_at hl 4 rfl) ?_
                refine gFN (v := .ref (x.hA 1)) hx hb hown hE hK hP 14 rfl rfl layP 1 (by decide) w1680 rfl d_A_meetPoints_147 ?_
                refine lv_iload hx hb d_A_meetPoints_150 (lv_at hl 0 rfl) ?_
                refine nlld (f := x.hT) (n := x.hN) hx hb hK hP (16) 2 rfl rfl (i) (by omega) (by omega) d_A_meetPoints_152 ?_
                refine lv_aload hx hb d_A_meetPoints_153 (lv_at hl 4 rfl) ?_
                refine gFN (v := .ref (x.hA 2)) hx hb hown hE hK hP 14 rfl rfl layP 2 (by decide) w1681 rfl d_A_meetPoints_155 ?_
                refine lv_iload hx hb d_A_meetPoints_158 (lv_at hl 0 rfl) ?_
                refine nlld (f := x.hV) (n := x.hN) hx hb hK hP (17) 2 rfl rfl (i) (by omega) (by omega) d_A_meetPoints_160 ?_
                refine jkV (wr := []) (rnV (As := [.int fn, .ref (ta 0), .int (nI (x.hO i)), .long (x.hT i), .long (x.hV i)]) (rest := []) hx hb hml hown hE hK (hN _ _ hS) hP hD (v_meetQ l D dA H.size h ad ta y (VS.s_bO (VS.s_bT (VS.s_abf (VS.s_ahb x bh) bf) bt) bo) fn (x.hO i) (x.hT i) (x.hV i) r9 hwi po9.2 hro hr9 (by rw [ky.2.1]; exact hrc) (by rw [ky.2.2]; exact hcN) (by rw [ky.1]; exact hwt) (by rw [ky.2.1, ky.1, ky.2.2]; exact h1) (Nat.lt_of_lt_of_le po9.1 hns) (by rw [ky.2.1]; exact h4) h5 kb hfn) (q0 := 42) rfl rfl w1683 w1682 w1684 w1685 w846 rfl rfl ⟨⟨by decide, by decide⟩, rfl⟩ ⟨(Nat.le_of_ble_eq_true rfl), (Nat.le_of_ble_eq_true rfl)⟩ rfl hl.1 rfl (Nat.le_of_ble_eq_true rfl) d_A_meetPoints_161 ⟨(Nat.le_of_ble_eq_true rfl), (Nat.le_of_ble_eq_true rfl)⟩) hP hD hS hA (fun u5 H locs hp9 hP hD hS => ?_)
                obtain ⟨y1, h9u⟩ : ∃ z9, z9 = u5 := ⟨_, rfl⟩
                subst h9u
                have hP : va_P D vwCl (TbW dA ta y1 ++ (VW dA h ad (VS.s_bO (VS.s_bT (VS.s_abf (VS.s_ahb x (va_up bh (x.hO i) true)) (va_up bf (x.hO i) (x.hV i))) (mqT fn y (VS.s_bO (VS.s_bT (VS.s_abf (VS.s_ahb x bh) bf) bt) bo) (x.hO i) (x.hT i))) (mqO fn y (VS.s_bO (VS.s_bT (VS.s_abf (VS.s_ahb x bh) bf) bt) bo) (x.hO i) (x.hT i))))) H := hP
                have hD : va_D A (TbW dA ta y1 ++ (VW dA h ad (VS.s_bO (VS.s_bT (VS.s_abf (VS.s_ahb x (va_up bh (x.hO i) true)) (va_up bf (x.hO i) (x.hV i))) (mqT fn y (VS.s_bO (VS.s_bT (VS.s_abf (VS.s_ahb x bh) bf) bt) bo) (x.hO i) (x.hT i))) (mqO fn y (VS.s_bO (VS.s_bT (VS.s_abf (VS.s_ahb x bh) bf) bt) bo) (x.hO i) (x.hT i))))) := hD
                have f_e_6 := hp9
                have ky2 : y1.wi = t.wi ∧ y1.rc = t.rc ∧ y1.cN = t.cN := by rw [f_e_6]; exact ⟨mqY_k.1.trans ky.1, mqY_k.2.1.trans ky.2.1, mqY_k.2.2.trans ky.2.2⟩
                refine lv_iinc (k := 0) (v := nI (i + 1)) hx hb d_A_meetPoints_164 hl rfl (iincN (i) 1 1 (by decide)) (by decide) rfl (fun ls hl => ?_)
                have hl : lv_has ls 8 [(5, .int (nI (i + 1))), (1, .int fn), (2, .ref (ta 0)), (3, .ref (ad 3)), (4, .ref (ad 1)), (0, .ref (ad 24))] := hl
                refine lv_goto hx hb d_A_meetPoints_167 (tgt := 107) rfl ?_
                exact ih107 _ (by omega) (i + 1) y1 (va_up bh (x.hO i) true) (va_up bf (x.hO i) (x.hV i)) (mqT fn y (VS.s_bO (VS.s_bT (VS.s_abf (VS.s_ahb x bh) bf) bt) bo) (x.hO i) (x.hT i)) (mqO fn y (VS.s_bO (VS.s_bT (VS.s_abf (VS.s_ahb x bh) bf) bt) bo) (x.hO i) (x.hT i)) (by omega) (by rw [mmH_t g3, ← eM, f_e_6]; rfl) ky2 (mqO_l kb (Nat.lt_of_lt_of_le po9.1 hns)) rfl H _ ls hP hD hS (lv_sub hl [0, 1, 2, 3, 4, 5] rfl)
        exact L107 _ 0 y bh bf bt bo (Nat.zero_le _) (by rw [eK, show k = x.npc by omega]; rfl) ky kb rfl H _ ls hP hD hS (lv_sub hl [0, 1, 2, 3, 4, 5] rfl)
      · have g1 := mt (nI_leI (a := x.npc) (b := k) (by omega) (by omega)).mpr g1
        refine lv_aload_n hx hb d_A_meetPoints_12 rfl (lv_at hl 3 rfl) ?_
        obtain ⟨pp, ke, hpp, hpk⟩ := hps k (by omega)
        have hpp0 := hpp
        obtain ⟨po, pt, pv, m1, m2, m3, m4⟩ := hpp
        have pk1 := hpk.1
        refine gFN (v := .ref (ad 4)) hx hb hown hE hK hP 22 rfl rfl layH 0 (by decide) w1686 rfl d_A_meetPoints_13 ?_
        refine lv_iload hx hb d_A_meetPoints_16 (lv_at hl 0 rfl) ?_
        refine nqld (f := x.nP) (n := 32) hx hb hK hP (23) 4 rfl rfl (k) (by omega) (by decide) ke d_A_meetPoints_18 ?_
        refine lv_astore hx hb d_A_meetPoints_19 hl (by decide) rfl (fun ls hl => ?_)
        have hl : lv_has ls 8 [(6, .ref pp), (5, .int (nI k)), (1, .int fn), (2, .ref (ta 0)), (3, .ref (ad 3)), (4, .ref (ad 1)), (0, .ref (ad 24))] := hl
        refine lv_iconst (v := 0) hx hb d_A_meetPoints_21 (by decide) ?_
        refine lv_istore hx hb d_A_meetPoints_22 hl (by decide) rfl (fun ls hl => ?_)
        have hl : lv_has ls 8 [(7, .int 0), (6, .ref pp), (5, .int (nI k)), (1, .int fn), (2, .ref (ta 0)), (3, .ref (ad 3)), (4, .ref (ad 1)), (0, .ref (ad 24))] := hl
        have L24 : ∀ (k9 : Nat) (i : Nat) (y : TB) (bh : Nat → Bool) (bf : Nat → Int64) (bt : Nat → Int64) (bo : Nat → Nat) (j1 : i ≤ (PS k).n) (eM : (y, bh, bf, bt, bo) = mmP fn x (PS k) (mmK fn x PS (x.m0 t) k) i) (ky : y.wi = t.wi ∧ y.rc = t.rc ∧ y.cN = t.cN) (kb : ∀ k : Nat, bo k < 256) (hk9 : (PS k).n - i = k9), ∀ (H : Heap) (locs : List Loc) (ls : Array Slot) (hP : va_P D vwCl (TbW dA ta y ++ (VW dA h ad (VS.s_bO (VS.s_bT (VS.s_abf (VS.s_ahb x bh) bf) bt) bo))) H) (hD : va_D A (TbW dA ta y ++ (VW dA h ad (VS.s_bO (VS.s_bT (VS.s_abf (VS.s_ahb x bh) bf) bt) bo)))) (hS : va_S A s.heap H locs) (hl : lv_has ls 8 [(7, .int (nI i)), (6, .ref pp), (5, .int (nI k)), (1, .int fn), (2, .ref (ta 0)), (3, .ref (ad 3)), (4, .ref (ad 1)), (0, .ref (ad 24))]), W p l e ({ frames := 5, cells := 0, slots := 0, locals := 329 } : Room) s m ([.ref (ad 24), .int fn, .ref (ta 0), .ref (ad 3), .ref (ad 1)] : List Value).toArray below meth c H locs 0 0 (MQ below (va_Qv (fun (u9 : TB × (Nat → Bool) × (Nat → Int64) × (Nat → Int64) × (Nat → Nat)) => (u9.1, u9.2.1, u9.2.2.1, u9.2.2.2.1, u9.2.2.2.2) = mmA fn x PS t) (fun (u9 : TB × (Nat → Bool) × (Nat → Int64) × (Nat → Int64) × (Nat → Nat)) t9 => bW D A (TbW dA ta u9.1 ++ (VW dA h ad (VS.s_bO (VS.s_bT (VS.s_abf (VS.s_ahb x u9.2.1) u9.2.2.1) u9.2.2.2.1) u9.2.2.2.2))) t9) A) ([.ref (ad 24), .int fn, .ref (ta 0), .ref (ad 3), .ref (ad 1)] : List Value).toArray s 0 0 A) (F0 m 24 ls []) := by
          intro k9
          induction k9 using Nat.strongRecOn with
          | ind k9 ih24 =>
            intro i y bh bf bt bo j1 eM ky kb hk9 H locs ls hP hD hS hl
            refine lv_iload hx hb d_A_meetPoints_24 (lv_at hl 0 rfl) ?_
            refine lv_aload hx hb d_A_meetPoints_26 (lv_at hl 1 rfl) ?_
            obtain ⟨qp7, ep8⟩ := List.getElem?_of_mem (show ((pp, .inr (12, [.ref po, .ref pt, .ref pv, .int (nI (PS k).n), .int (nI (PS k).ch), .int (nI (PS k).bi), .int (nI (PS k).bl), .long ((PS k).nw)])) : Nat × va_E) ∈ TbW dA ta y ++ (VW dA h ad (VS.s_bO (VS.s_bT (VS.s_abf (VS.s_ahb x bh) bf) bt) bo)) from (List.mem_append_right _ (plm m1)))
            refine gFN (v := .int (nI (PS k).n)) hx hb hown hE hK hP qp7 ep8 rfl layC 3 (by decide) w1687 rfl d_A_meetPoints_28 ?_
            refine lv_icmp_ge hx hb d_A_meetPoints_31 (tgt := 98) rfl (fun g9 => ?_) (fun g9 => ?_)
            · have g9 := (nI_leI (a := (PS k).n) (b := i) (by omega) (by omega)).mp g9
              refine lv_iinc (k := 2) (v := nI (k + 1)) hx hb d_A_meetPoints_98 hl rfl (iincN (k) 1 1 (by decide)) (by decide) rfl (fun ls hl => ?_)
              have hl : lv_has ls 8 [(5, .int (nI (k + 1))), (7, .int (nI i)), (6, .ref pp), (1, .int fn), (2, .ref (ta 0)), (3, .ref (ad 3)), (4, .ref (ad 1)), (0, .ref (ad 24))] := hl
              refine lv_goto hx hb d_A_meetPoints_101 (tgt := 3) rfl ?_
              exact ih3 _ (by omega) (k + 1) y bh bf bt bo (by omega) (by rw [eM, show i = (PS k).n by omega]; rfl) ky kb rfl H _ ls hP hD hS (lv_sub hl [0, 3, 4, 5, 6, 7] rfl)
            · have g9 := mt (nI_leI (a := (PS k).n) (b := i) (by omega) (by omega)).mpr g9
              refine lv_aload_n hx hb d_A_meetPoints_34 rfl (lv_at hl 7 rfl) ?_
              refine gF (v := .ref (ad 26)) hx hb hown hE hK hP 42 rfl rfl layA 2 (by decide) w800 rfl d_A_meetPoints_35 ?_
              have po9 := hpo k (by omega) i (by omega)
              refine lv_aload hx hb d_A_meetPoints_38 (lv_at hl 1 rfl) ?_
              obtain ⟨qp10, ep11⟩ := List.getElem?_of_mem (show ((pp, .inr (12, [.ref po, .ref pt, .ref pv, .int (nI (PS k).n), .int (nI (PS k).ch), .int (nI (PS k).bi), .int (nI (PS k).bl), .long ((PS k).nw)])) : Nat × va_E) ∈ TbW dA ta y ++ (VW dA h ad (VS.s_bO (VS.s_bT (VS.s_abf (VS.s_ahb x bh) bf) bt) bo)) from (List.mem_append_right _ (plm m1)))
              refine gFN (v := .ref po) hx hb hown hE hK hP qp10 ep11 rfl layC 0 (by decide) w1688 rfl d_A_meetPoints_40 ?_
              refine lv_iload hx hb d_A_meetPoints_43 (lv_at hl 0 rfl) ?_
              obtain ⟨qp12, ep13⟩ := List.getElem?_of_mem (show ((po, .inl (dA 1, (PS k).n, .inl (fun z9 => nI (((PS k).o) z9)))) : Nat × va_E) ∈ TbW dA ta y ++ (VW dA h ad (VS.s_bO (VS.s_bT (VS.s_abf (VS.s_ahb x bh) bf) bt) bo)) from (List.mem_append_right _ (plm m2)))
              refine nild (f := (fun z9 => nI (((PS k).o) z9))) (n := (PS k).n) hx hb hK hP (qp12) 1 ep13 rfl (i) (by omega) (by omega) d_A_meetPoints_45 ?_
              refine nild (f := x.aro) (n := 256) hx hb hK hP (43) 1 rfl rfl (((PS k).o) i) (by omega) (by decide) d_A_meetPoints_46 ?_
              refine lv_iconst (v := (-1)) hx hb d_A_meetPoints_47 (by decide) ?_
              refine lv_icmp_eq hx hb d_A_meetPoints_48 (tgt := 92) rfl (fun g14 => ?_) (fun g14 => ?_)
              · have g14 := g14
                refine lv_iinc (k := 0) (v := nI (i + 1)) hx hb d_A_meetPoints_92 hl rfl (iincN (i) 1 1 (by decide)) (by decide) rfl (fun ls hl => ?_)
                have hl : lv_has ls 8 [(7, .int (nI (i + 1))), (6, .ref pp), (5, .int (nI k)), (1, .int fn), (2, .ref (ta 0)), (3, .ref (ad 3)), (4, .ref (ad 1)), (0, .ref (ad 24))] := hl
                refine lv_goto hx hb d_A_meetPoints_95 (tgt := 24) rfl ?_
                exact ih24 _ (by omega) (i + 1) y bh bf bt bo (by omega) (by rw [mmP_f (Or.inl g14)]; exact eM) ky kb rfl H _ ls hP hD hS (lv_sub hl [0, 1, 2, 3, 4, 5, 6, 7] rfl)
              · have g14 := g14
                refine lv_aload_n hx hb d_A_meetPoints_51 rfl (lv_at hl 5 rfl) ?_
                refine lv_aload hx hb d_A_meetPoints_52 (lv_at hl 1 rfl) ?_
                refine lv_iload hx hb d_A_meetPoints_54 (lv_at hl 0 rfl) ?_
                have hPc : va_P D vwCl (VW dA h ad (VS.s_bO (VS.s_bT (VS.s_abf (VS.s_ahb x bh) bf) bt) bo)) H := spP (wr := TbW dA ta y) hP
                have hDc : va_D A (VW dA h ad (VS.s_bO (VS.s_bT (VS.s_abf (VS.s_ahb x bh) bf) bt) bo)) := spD (wr := TbW dA ta y) hD
                refine jkI (wr := TbW dA ta y) (rnV (As := [.ref pp, .int (nI i)]) (rest := []) hx hb hml hown hE hK (hN _ _ hS) hPc hDc (v_sees l D dA H.size h ad (VS.s_bO (VS.s_bT (VS.s_abf (VS.s_ahb x bh) bf) bt) bo) pp (PS k) i hpp0 hpk hs1 hs7 (show i < (PS k).n from by omega)) (q0 := 17) rfl rfl w1178 w1689 w1179 w1180 w583 rfl rfl ⟨⟨by decide, by decide⟩, rfl⟩ ⟨(Nat.le_of_ble_eq_true rfl), (Nat.le_of_ble_eq_true rfl)⟩ rfl hl.1 rfl (Nat.le_of_ble_eq_true rfl) d_A_meetPoints_56 ⟨(Nat.le_of_ble_eq_true rfl), (Nat.le_of_ble_eq_true rfl)⟩) hP hD hS hA (fun r15 u16 H locs hp9 hP hD hS => ?_)
                have hP : va_P D vwCl (TbW dA ta y ++ (VW dA h ad (VS.s_bO (VS.s_bT (VS.s_abf (VS.s_ahb x bh) bf) bt) bo))) H := hP
                have hD : va_D A (TbW dA ta y ++ (VW dA h ad (VS.s_bO (VS.s_bT (VS.s_abf (VS.s_ahb x bh) bf) bt) bo))) := hD
                replace hp9 : bI (x.sePc (PS k) i) = r15 := Eq.symm hp9
                subst hp9
                refine lv_if_eq hx hb d_A_meetPoints_59 (tgt := 92) rfl (fun g17 => ?_) (fun g17 => ?_)
                · have g17 := bI_0 g17
                  refine lv_iinc (k := 0) (v := nI (i + 1)) hx hb d_A_meetPoints_92 hl rfl (iincN (i) 1 1 (by decide)) (by decide) rfl (fun ls hl => ?_)
                  have hl : lv_has ls 8 [(7, .int (nI (i + 1))), (6, .ref pp), (5, .int (nI k)), (1, .int fn), (2, .ref (ta 0)), (3, .ref (ad 3)), (4, .ref (ad 1)), (0, .ref (ad 24))] := hl
                  refine lv_goto hx hb d_A_meetPoints_95 (tgt := 24) rfl ?_
                  exact ih24 _ (by omega) (i + 1) y bh bf bt bo (by omega) (by rw [mmP_f (Or.inr g17)]; exact eM) ky kb rfl H _ ls hP hD hS (lv_sub hl [0, 1, 2, 3, 4, 5, 6, 7] rfl)
                · have g17 := bI_n0 g17
                  refine lv_aload_n hx hb d_A_meetPoints_62 rfl (lv_at hl 7 rfl) ?_
                  refine lv_iload_n hx hb d_A_meetPoints_63 rfl (lv_at hl 3 rfl) ?_
                  refine lv_aload_n hx hb d_A_meetPoints_64 rfl (lv_at hl 4 rfl) ?_
                  refine lv_aload hx hb d_A_meetPoints_65 (lv_at hl 1 rfl) ?_
                  obtain ⟨r9, hr8, hro⟩ := (ha ((PS k).o i) po9.1).resolve_left g14
                  have hr9 : r9 < y.rc := by rw [ky.2.1]; exact hr8
                  obtain ⟨qp18, ep19⟩ := List.getElem?_of_mem (show ((pp, .inr (12, [.ref po, .ref pt, .ref pv, .int (nI (PS k).n), .int (nI (PS k).ch), .int (nI (PS k).bi), .int (nI (PS k).bl), .long ((PS k).nw)])) : Nat × va_E) ∈ TbW dA ta y ++ (VW dA h ad (VS.s_bO (VS.s_bT (VS.s_abf (VS.s_ahb x bh) bf) bt) bo)) from (List.mem_append_right _ (plm m1)))
                  refine gFN (v := .ref po) hx hb hown hE hK hP qp18 ep19 rfl layC 0 (by decide) w1688 rfl d_A_meetPoints_67 ?_
                  refine lv_iload hx hb d_A_meetPoints_70 (lv_at hl 0 rfl) ?_
                  obtain ⟨qp20, ep21⟩ := List.getElem?_of_mem (show ((po, .inl (dA 1, (PS k).n, .inl (fun z9 => nI (((PS k).o) z9)))) : Nat × va_E) ∈ TbW dA ta y ++ (VW dA h ad (VS.s_bO (VS.s_bT (VS.s_abf (VS.s_ahb x bh) bf) bt) bo)) from (List.mem_append_right _ (plm m2)))
                  refine nild (f := (fun z9 => nI (((PS k).o) z9))) (n := (PS k).n) hx hb hK hP (qp20) 1 ep21 rfl (i) (by omega) (by omega) d_A_meetPoints_72 ?_
                  refine lv_aload hx hb d_A_meetPoints_73 (lv_at hl 1 rfl) ?_
                  obtain ⟨qp22, ep23⟩ := List.getElem?_of_mem (show ((pp, .inr (12, [.ref po, .ref pt, .ref pv, .int (nI (PS k).n), .int (nI (PS k).ch), .int (nI (PS k).bi), .int (nI (PS k).bl), .long ((PS k).nw)])) : Nat × va_E) ∈ TbW dA ta y ++ (VW dA h ad (VS.s_bO (VS.s_bT (VS.s_abf (VS.s_ahb x bh) bf) bt) bo)) from (List.mem_append_right _ (plm m1)))
                  refine gFN (v := .ref pt) hx hb hown hE hK hP qp22 ep23 rfl layC 1 (by decide) w1690 rfl d_A_meetPoints_75 ?_
                  refine lv_iload hx hb d_A_meetPoints_78 (lv_at hl 0 rfl) ?_
                  obtain ⟨qp24, ep25⟩ := List.getElem?_of_mem (show ((pt, .inl (dA 2, (PS k).n, .inr (.inl ((PS k).t)))) : Nat × va_E) ∈ TbW dA ta y ++ (VW dA h ad (VS.s_bO (VS.s_bT (VS.s_abf (VS.s_ahb x bh) bf) bt) bo)) from (List.mem_append_right _ (plm m3)))
                  refine nlld (f := ((PS k).t)) (n := (PS k).n) hx hb hK hP (qp24) 2 ep25 rfl (i) (by omega) (by omega) d_A_meetPoints_80 ?_
                  refine lv_aload hx hb d_A_meetPoints_81 (lv_at hl 1 rfl) ?_
                  obtain ⟨qp26, ep27⟩ := List.getElem?_of_mem (show ((pp, .inr (12, [.ref po, .ref pt, .ref pv, .int (nI (PS k).n), .int (nI (PS k).ch), .int (nI (PS k).bi), .int (nI (PS k).bl), .long ((PS k).nw)])) : Nat × va_E) ∈ TbW dA ta y ++ (VW dA h ad (VS.s_bO (VS.s_bT (VS.s_abf (VS.s_ahb x bh) bf) bt) bo)) from (List.mem_append_right _ (plm m1)))
                  refine gFN (v := .ref pv) hx hb hown hE hK hP qp26 ep27 rfl layC 2 (by decide) w1691 rfl d_A_meetPoints_83 ?_
                  refine lv_iload hx hb d_A_meetPoints_86 (lv_at hl 0 rfl) ?_
                  obtain ⟨qp28, ep29⟩ := List.getElem?_of_mem (show ((pv, .inl (dA 2, (PS k).n, .inr (.inl ((PS k).v)))) : Nat × va_E) ∈ TbW dA ta y ++ (VW dA h ad (VS.s_bO (VS.s_bT (VS.s_abf (VS.s_ahb x bh) bf) bt) bo)) from (List.mem_append_right _ (plm m4)))
                  refine nlld (f := ((PS k).v)) (n := (PS k).n) hx hb hK hP (qp28) 2 ep29 rfl (i) (by omega) (by omega) d_A_meetPoints_88 ?_
                  refine jkV (wr := []) (rnV (As := [.int fn, .ref (ta 0), .int (nI (((PS k).o) i)), .long (((PS k).t) i), .long (((PS k).v) i)]) (rest := []) hx hb hml hown hE hK (hN _ _ hS) hP hD (v_meetQ l D dA H.size h ad ta y (VS.s_bO (VS.s_bT (VS.s_abf (VS.s_ahb x bh) bf) bt) bo) fn (((PS k).o) i) (((PS k).t) i) (((PS k).v) i) r9 hwi po9.2 hro hr9 (by rw [ky.2.1]; exact hrc) (by rw [ky.2.2]; exact hcN) (by rw [ky.1]; exact hwt) (by rw [ky.2.1, ky.1, ky.2.2]; exact h1) (Nat.lt_of_lt_of_le po9.1 hns) (by rw [ky.2.1]; exact h4) h5 kb hfn) (q0 := 42) rfl rfl w1683 w1682 w1684 w1685 w846 rfl rfl ⟨⟨by decide, by decide⟩, rfl⟩ ⟨(Nat.le_of_ble_eq_true rfl), (Nat.le_of_ble_eq_true rfl)⟩ rfl hl.1 rfl (Nat.le_of_ble_eq_true rfl) d_A_meetPoints_89 ⟨(Nat.le_of_ble_eq_true rfl), (Nat.le_of_ble_eq_true rfl)⟩) hP hD hS hA (fun u31 H locs hp9 hP hD hS => ?_)
                  obtain ⟨y1, h9u⟩ : ∃ z9, z9 = u31 := ⟨_, rfl⟩
                  subst h9u
                  have hP : va_P D vwCl (TbW dA ta y1 ++ (VW dA h ad (VS.s_bO (VS.s_bT (VS.s_abf (VS.s_ahb x (va_up bh (((PS k).o) i) true)) (va_up bf (((PS k).o) i) (((PS k).v) i))) (mqT fn y (VS.s_bO (VS.s_bT (VS.s_abf (VS.s_ahb x bh) bf) bt) bo) (((PS k).o) i) (((PS k).t) i))) (mqO fn y (VS.s_bO (VS.s_bT (VS.s_abf (VS.s_ahb x bh) bf) bt) bo) (((PS k).o) i) (((PS k).t) i))))) H := hP
                  have hD : va_D A (TbW dA ta y1 ++ (VW dA h ad (VS.s_bO (VS.s_bT (VS.s_abf (VS.s_ahb x (va_up bh (((PS k).o) i) true)) (va_up bf (((PS k).o) i) (((PS k).v) i))) (mqT fn y (VS.s_bO (VS.s_bT (VS.s_abf (VS.s_ahb x bh) bf) bt) bo) (((PS k).o) i) (((PS k).t) i))) (mqO fn y (VS.s_bO (VS.s_bT (VS.s_abf (VS.s_ahb x bh) bf) bt) bo) (((PS k).o) i) (((PS k).t) i))))) := hD
                  have f_e_32 := hp9
                  have ky2 : y1.wi = t.wi ∧ y1.rc = t.rc ∧ y1.cN = t.cN := by rw [f_e_32]; exact ⟨mqY_k.1.trans ky.1, mqY_k.2.1.trans ky.2.1, mqY_k.2.2.trans ky.2.2⟩
                  refine lv_iinc (k := 0) (v := nI (i + 1)) hx hb d_A_meetPoints_92 hl rfl (iincN (i) 1 1 (by decide)) (by decide) rfl (fun ls hl => ?_)
                  have hl : lv_has ls 8 [(7, .int (nI (i + 1))), (6, .ref pp), (5, .int (nI k)), (1, .int fn), (2, .ref (ta 0)), (3, .ref (ad 3)), (4, .ref (ad 1)), (0, .ref (ad 24))] := hl
                  refine lv_goto hx hb d_A_meetPoints_95 (tgt := 24) rfl ?_
                  exact ih24 _ (by omega) (i + 1) y1 (va_up bh (((PS k).o) i) true) (va_up bf (((PS k).o) i) (((PS k).v) i)) (mqT fn y (VS.s_bO (VS.s_bT (VS.s_abf (VS.s_ahb x bh) bf) bt) bo) (((PS k).o) i) (((PS k).t) i)) (mqO fn y (VS.s_bO (VS.s_bT (VS.s_abf (VS.s_ahb x bh) bf) bt) bo) (((PS k).o) i) (((PS k).t) i)) (by omega) (by rw [mmP_t g14 g17, ← eM, f_e_32]; rfl) ky2 (mqO_l kb (Nat.lt_of_lt_of_le po9.1 hns)) rfl H _ ls hP hD hS (lv_sub hl [0, 1, 2, 3, 4, 5, 6, 7] rfl)
        exact L24 _ 0 y bh bf bt bo (Nat.zero_le _) eK ky kb rfl H _ ls hP hD hS (lv_sub hl [0, 1, 2, 3, 4, 5, 6, 7] rfl)
  exact L3 _ 0 t x.ahb x.abf x.bT x.bO (Nat.zero_le _) rfl ⟨rfl, rfl, rfl⟩ h6 rfl H _ ls hP hD hS (lv_sub hl [0, 2, 3, 4, 5, 1] rfl)
