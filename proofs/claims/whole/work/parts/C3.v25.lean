theorem insP_n {n : List Int32} {L : List LB} {k : Nat} (h : k = 0 ∨ ¬ 0 < cmpW (lab L (k - 1)).1 n) : insP n L k = k := by
  cases k with
  | zero => rfl
  | succ k =>
    show (if 0 < cmpW (lab L k).1 n then insP n L k else k + 1) = k + 1
    have h1 : ¬ 0 < cmpW (lab L k).1 n := h.resolve_left (by omega)
    rw [if_neg h1]
theorem insP_y {n : List Int32} {L : List LB} {k : Nat} (h0 : 0 < k) (h : 0 < cmpW (lab L (k - 1)).1 n) : insP n L k = insP n L (k - 1) := by
  obtain ⟨j, rfl⟩ : ∃ j, k = j + 1 := ⟨k - 1, by omega⟩
  show (if 0 < cmpW (lab L j).1 n then insP n L j else j + 1) = _
  have h1 : 0 < cmpW (lab L j).1 n := h
  rw [if_pos h1]
  rfl
theorem d_R_made_0 : decode prog_8_method_9_code 0 = .ok (.aload_n 0, 1) := by decide +kernel
theorem d_R_made_1 : decode prog_8_method_9_code 1 = .ok (.getfield 21, 3) := by decide +kernel
theorem d_R_made_4 : decode prog_8_method_9_code 4 = .ok (.anewarray 59, 3) := by decide +kernel
theorem d_R_made_7 : decode prog_8_method_9_code 7 = .ok (.astore_n 2, 1) := by decide +kernel
theorem d_R_made_8 : decode prog_8_method_9_code 8 = .ok (.aload_n 0, 1) := by decide +kernel
theorem d_R_made_9 : decode prog_8_method_9_code 9 = .ok (.getfield 21, 3) := by decide +kernel
theorem d_R_made_12 : decode prog_8_method_9_code 12 = .ok (.anewarray 59, 3) := by decide +kernel
theorem d_R_made_15 : decode prog_8_method_9_code 15 = .ok (.astore_n 3, 1) := by decide +kernel
theorem d_R_made_16 : decode prog_8_method_9_code 16 = .ok (.iconst 0, 1) := by decide +kernel
theorem d_R_made_17 : decode prog_8_method_9_code 17 = .ok (.istore 4, 2) := by decide +kernel
theorem d_R_made_19 : decode prog_8_method_9_code 19 = .ok (.iload 4, 2) := by decide +kernel
theorem d_R_made_21 : decode prog_8_method_9_code 21 = .ok (.aload_n 0, 1) := by decide +kernel
theorem d_R_made_22 : decode prog_8_method_9_code 22 = .ok (.getfield 21, 3) := by decide +kernel
theorem d_R_made_25 : decode prog_8_method_9_code 25 = .ok (.if_icmp .ge 116, 3) := by decide +kernel
theorem d_R_made_141 : decode prog_8_method_9_code 141 = .ok (.new 68, 3) := by decide +kernel
theorem dfS : ∀ j, j < 4 → defaultValue (tyS j) = vp_V [.null, .null, .null, .null] j := by decide +kernel
theorem d_R_made_144 : decode prog_8_method_9_code 144 = .ok (.dup, 1) := by decide +kernel
theorem d_R_made_145 : decode prog_8_method_9_code 145 = .ok (.aload_n 2, 1) := by decide +kernel
theorem d_R_made_146 : decode prog_8_method_9_code 146 = .ok (.aload_n 3, 1) := by decide +kernel
theorem d_R_made_147 : decode prog_8_method_9_code 147 = .ok (.invokespecial 70, 3) := by decide +kernel
theorem d_R_made_150 : decode prog_8_method_9_code 150 = .ok (.areturn, 1) := by decide +kernel
theorem d_R_made_28 : decode prog_8_method_9_code 28 = .ok (.new 59, 3) := by decide +kernel
theorem d_R_made_31 : decode prog_8_method_9_code 31 = .ok (.dup, 1) := by decide +kernel
theorem d_R_made_32 : decode prog_8_method_9_code 32 = .ok (.aload_n 1, 1) := by decide +kernel
theorem d_R_made_33 : decode prog_8_method_9_code 33 = .ok (.aload_n 0, 1) := by decide +kernel
theorem d_R_made_34 : decode prog_8_method_9_code 34 = .ok (.getfield 9, 3) := by decide +kernel
theorem d_R_made_37 : decode prog_8_method_9_code 37 = .ok (.iload 4, 2) := by decide +kernel
theorem d_R_made_39 : decode prog_8_method_9_code 39 = .ok (.iaload, 1) := by decide +kernel
theorem d_R_made_40 : decode prog_8_method_9_code 40 = .ok (.aload_n 0, 1) := by decide +kernel
theorem d_R_made_41 : decode prog_8_method_9_code 41 = .ok (.getfield 15, 3) := by decide +kernel
theorem d_R_made_44 : decode prog_8_method_9_code 44 = .ok (.iload 4, 2) := by decide +kernel
theorem d_R_made_46 : decode prog_8_method_9_code 46 = .ok (.iaload, 1) := by decide +kernel
theorem d_R_made_47 : decode prog_8_method_9_code 47 = .ok (.invokespecial 61, 3) := by decide +kernel
theorem d_R_made_50 : decode prog_8_method_9_code 50 = .ok (.astore 5, 2) := by decide +kernel
theorem d_R_made_52 : decode prog_8_method_9_code 52 = .ok (.iload 4, 2) := by decide +kernel
theorem d_R_made_54 : decode prog_8_method_9_code 54 = .ok (.istore 6, 2) := by decide +kernel
theorem d_R_made_56 : decode prog_8_method_9_code 56 = .ok (.iload 6, 2) := by decide +kernel
theorem d_R_made_58 : decode prog_8_method_9_code 58 = .ok (.ifCond .le 43, 3) := by decide +kernel
theorem d_R_made_101 : decode prog_8_method_9_code 101 = .ok (.aload_n 2, 1) := by decide +kernel
theorem d_R_made_102 : decode prog_8_method_9_code 102 = .ok (.iload 6, 2) := by decide +kernel
theorem d_R_made_104 : decode prog_8_method_9_code 104 = .ok (.aload 5, 2) := by decide +kernel
theorem d_R_made_106 : decode prog_8_method_9_code 106 = .ok (.aastore, 1) := by decide +kernel
theorem d_R_made_107 : decode prog_8_method_9_code 107 = .ok (.aload_n 3, 1) := by decide +kernel
theorem d_R_made_108 : decode prog_8_method_9_code 108 = .ok (.iload 6, 2) := by decide +kernel
theorem d_R_made_110 : decode prog_8_method_9_code 110 = .ok (.new 59, 3) := by decide +kernel
theorem d_R_made_113 : decode prog_8_method_9_code 113 = .ok (.dup, 1) := by decide +kernel
theorem d_R_made_114 : decode prog_8_method_9_code 114 = .ok (.aload_n 1, 1) := by decide +kernel
theorem d_R_made_115 : decode prog_8_method_9_code 115 = .ok (.aload_n 0, 1) := by decide +kernel
theorem d_R_made_116 : decode prog_8_method_9_code 116 = .ok (.getfield 15, 3) := by decide +kernel
theorem d_R_made_119 : decode prog_8_method_9_code 119 = .ok (.iload 4, 2) := by decide +kernel
theorem d_R_made_121 : decode prog_8_method_9_code 121 = .ok (.iaload, 1) := by decide +kernel
theorem d_R_made_122 : decode prog_8_method_9_code 122 = .ok (.iconst 1, 1) := by decide +kernel
theorem d_R_made_123 : decode prog_8_method_9_code 123 = .ok (.iadd, 1) := by decide +kernel
theorem d_R_made_124 : decode prog_8_method_9_code 124 = .ok (.aload_n 0, 1) := by decide +kernel
theorem d_R_made_125 : decode prog_8_method_9_code 125 = .ok (.getfield 18, 3) := by decide +kernel
theorem d_R_made_128 : decode prog_8_method_9_code 128 = .ok (.iload 4, 2) := by decide +kernel
theorem d_R_made_130 : decode prog_8_method_9_code 130 = .ok (.iaload, 1) := by decide +kernel
theorem d_R_made_131 : decode prog_8_method_9_code 131 = .ok (.invokespecial 61, 3) := by decide +kernel
theorem d_R_made_134 : decode prog_8_method_9_code 134 = .ok (.aastore, 1) := by decide +kernel
theorem d_R_made_135 : decode prog_8_method_9_code 135 = .ok (.iinc 4 1, 3) := by decide +kernel
theorem d_R_made_138 : decode prog_8_method_9_code 138 = .ok (.goto (-119), 3) := by decide +kernel
theorem d_R_made_61 : decode prog_8_method_9_code 61 = .ok (.aload_n 2, 1) := by decide +kernel
theorem d_R_made_62 : decode prog_8_method_9_code 62 = .ok (.iload 6, 2) := by decide +kernel
theorem d_R_made_64 : decode prog_8_method_9_code 64 = .ok (.iconst 1, 1) := by decide +kernel
theorem d_R_made_65 : decode prog_8_method_9_code 65 = .ok (.isub, 1) := by decide +kernel
theorem d_R_made_66 : decode prog_8_method_9_code 66 = .ok (.aaload, 1) := by decide +kernel
theorem d_R_made_67 : decode prog_8_method_9_code 67 = .ok (.aload 5, 2) := by decide +kernel
theorem d_R_made_69 : decode prog_8_method_9_code 69 = .ok (.invokevirtual 64, 3) := by decide +kernel
theorem d_R_made_72 : decode prog_8_method_9_code 72 = .ok (.ifCond .le 29, 3) := by decide +kernel
theorem d_R_made_75 : decode prog_8_method_9_code 75 = .ok (.aload_n 2, 1) := by decide +kernel
theorem d_R_made_76 : decode prog_8_method_9_code 76 = .ok (.iload 6, 2) := by decide +kernel
theorem d_R_made_78 : decode prog_8_method_9_code 78 = .ok (.aload_n 2, 1) := by decide +kernel
theorem d_R_made_79 : decode prog_8_method_9_code 79 = .ok (.iload 6, 2) := by decide +kernel
theorem d_R_made_81 : decode prog_8_method_9_code 81 = .ok (.iconst 1, 1) := by decide +kernel
theorem d_R_made_82 : decode prog_8_method_9_code 82 = .ok (.isub, 1) := by decide +kernel
theorem d_R_made_83 : decode prog_8_method_9_code 83 = .ok (.aaload, 1) := by decide +kernel
theorem d_R_made_84 : decode prog_8_method_9_code 84 = .ok (.aastore, 1) := by decide +kernel
theorem d_R_made_85 : decode prog_8_method_9_code 85 = .ok (.aload_n 3, 1) := by decide +kernel
theorem d_R_made_86 : decode prog_8_method_9_code 86 = .ok (.iload 6, 2) := by decide +kernel
theorem d_R_made_88 : decode prog_8_method_9_code 88 = .ok (.aload_n 3, 1) := by decide +kernel
theorem d_R_made_89 : decode prog_8_method_9_code 89 = .ok (.iload 6, 2) := by decide +kernel
theorem d_R_made_91 : decode prog_8_method_9_code 91 = .ok (.iconst 1, 1) := by decide +kernel
theorem d_R_made_92 : decode prog_8_method_9_code 92 = .ok (.isub, 1) := by decide +kernel
theorem d_R_made_93 : decode prog_8_method_9_code 93 = .ok (.aaload, 1) := by decide +kernel
theorem d_R_made_94 : decode prog_8_method_9_code 94 = .ok (.aastore, 1) := by decide +kernel
theorem d_R_made_95 : decode prog_8_method_9_code 95 = .ok (.iinc 6 (-1), 3) := by decide +kernel
theorem d_R_made_98 : decode prog_8_method_9_code 98 = .ok (.goto (-42), 3) := by decide +kernel
theorem w1310 : Cond.classLink "SeriesVault$SeriesReader" 59 "SeriesVault$Word" ∈ aW := aw_of (tb_3 (List.mem_of_getElem? (i := 226) rfl)) rfl
theorem w1311 : Cond.classLink "SeriesVault$SeriesReader" 68 "SeriesVault$Series" ∈ aW := aw_of (tb_4 (List.mem_of_getElem? (i := 229) rfl)) rfl
theorem w857 : Cond.instantiable "SeriesVault$Series" 4 ∈ aW := aw_of (tb_4 (List.mem_of_getElem? (i := 230) rfl)) rfl
theorem w1313 : Cond.methodLink "SeriesVault$SeriesReader" 70 ⟨"SeriesVault$Series", "<init>", "([LSeriesVault$Word;[LSeriesVault$Word;)V"⟩ ∈ aW := aw_of (tb_4 (List.mem_of_getElem? (i := 231) rfl)) rfl
theorem w1314 : Cond.code ⟨"SeriesVault$Series", "<init>", "([LSeriesVault$Word;[LSeriesVault$Word;)V"⟩ prog_7_method_1_code 4 none ∈ aW := aw_of (tb_4 (List.mem_of_getElem? (i := 233) rfl)) rfl
theorem w1315 : Cond.instanceMethod ⟨"SeriesVault$Series", "<init>", "([LSeriesVault$Word;[LSeriesVault$Word;)V"⟩ ∈ aW := aw_of (tb_4 (List.mem_of_getElem? (i := 232) rfl)) rfl
theorem w1316 : Cond.methodLink "SeriesVault$SeriesReader" 61 ⟨"SeriesVault$Word", "<init>", "([BII)V"⟩ ∈ aW := aw_of (tb_3 (List.mem_of_getElem? (i := 228) rfl)) rfl
theorem w1317 : Cond.methodLink "SeriesVault$SeriesReader" 64 ⟨"SeriesVault$Word", "compare", "(LSeriesVault$Word;)I"⟩ ∈ aW := aw_of (tb_4 (List.mem_of_getElem? (i := 224) rfl)) rfl
theorem w1318 : Cond.code ⟨"SeriesVault$Word", "compare", "(LSeriesVault$Word;)I"⟩ prog_12_method_3_code 4 (some FieldType.int) ∈ aW := aw_of (tb_4 (List.mem_of_getElem? (i := 227) rfl)) rfl
theorem w1319 : Cond.instanceMethod ⟨"SeriesVault$Word", "compare", "(LSeriesVault$Word;)I"⟩ ∈ aW := aw_of (tb_4 (List.mem_of_getElem? (i := 225) rfl)) rfl
theorem w1320 : Cond.selects "SeriesVault$Word" ⟨"SeriesVault$Word", "compare", "(LSeriesVault$Word;)I"⟩ ⟨"SeriesVault$Word", "compare", "(LSeriesVault$Word;)I"⟩ ∈ aW := aw_of (tb_4 (List.mem_of_getElem? (i := 226) rfl)) rfl
set_option maxHeartbeats 4000000 in
set_option maxRecDepth 100000 in
theorem v_made (l : Launch) (D : va_G) (dA : Nat → ClassId) (sz : Nat) (h : Nat) (ad : Nat → Nat) (x : VS) (len : Nat) (hby : byteF x.tape) (h2 : len ≤ x.tpN) (h3 : x.tpN ≤ 131072) (h4 : x.rlab ≤ 6) (h5 : lbOk len x.rlab x.rS x.rE x.rV) : Met l ⟨"SeriesVault$SeriesReader", "made", "([B)LSeriesVault$Series;"⟩ [Cond.code ⟨"SeriesVault$SeriesReader", "made", "([B)LSeriesVault$Series;"⟩ prog_8_method_9_code 7 (some (FieldType.object "SeriesVault$Series"))] { frames := 6, cells := 32, slots := 930, locals := 132 } (pC D dA [.ref (ad 18), .ref x.tpA] (VW dA h ad x) sz) (va_Qr (fun (_ : VS) => True) (fun (u9 : VS) (r9 : Nat) t9 => (x.pk u9 ∧ isSer dA u9.pl r9 (srtL x.tape x.rS x.rE x.rV x.rlab)) ∧ bW D (va_A (VW dA h ad x) sz) (VW dA h ad u9) t9) (va_A (VW dA h ad x) sz)) 32 930 (va_A (VW dA h ad x) sz) := by
  refine mkC (y := ⟨"SeriesVault$SeriesReader", "made", "([B)LSeriesVault$Series;"⟩) (cc := prog_8_method_9_code) (maxL := 7) (av := [.ref (ad 18), .ref x.tpA]) (ws := VW dA h ad x) (sz := sz) (Qc := fun A => va_Qr (fun (_ : VS) => True) (fun (u9 : VS) (r9 : Nat) t9 => (x.pk u9 ∧ isSer dA u9.pl r9 (srtL x.tape x.rS x.rE x.rV x.rlab)) ∧ bW D A (VW dA h ad u9) t9) A) (by decide) (Nat.le_of_ble_eq_true rfl) ?_
  intro A p e s m below meth c ls hsz hB
  obtain ⟨hx, hb, hr, hml, hown, hin, hlk, hE, hK, hP, hD, hS, hA, hN, hl⟩ := hB
  have hown : s.vm.findClass "SeriesVault$SeriesReader" = some m.cls := hown
  have hl : lv_has ls 7 [(0, .ref (ad 18)), (1, .ref x.tpA)] := hl
  obtain ⟨H, hH⟩ : ∃ z, z = s.heap := ⟨_, rfl⟩
  have hP : va_P D vwCl (VW dA h ad x) H := by rw [hH]; exact hP
  have hS : va_S A s.heap H [] := by rw [hH]; exact hS
  rw [← hH]
  refine lv_aload_n hx hb d_R_made_0 rfl (lv_at hl 0 rfl) ?_
  refine gF (v := .int (nI x.rlab)) hx hb hown hE hK hP 32 rfl rfl layR 3 (by decide) w603 rfl d_R_made_1 ?_
  refine nnQ (N' := x.rlab) hx hb hown hE w1310 w783 hK hP hD hS hA 6 rfl (by omega) (show x.rlab * 4 ≤ 536870912 by omega) (show 0 + 1 ≤ 32 by omega) (show 0 + x.rlab ≤ 930 by omega) d_R_made_4 (fun nq H hP hD hS => ?_)
  have hP : va_P D vwCl ([(nq, .inl (dA 6, x.rlab, .inr (.inr (.inr (.inr (fun _ => none))))))] ++ (VW dA h ad x)) H := hP
  have hD : va_D A ([(nq, .inl (dA 6, x.rlab, .inr (.inr (.inr (.inr (fun _ => none))))))] ++ (VW dA h ad x)) := hD
  refine lv_astore_n hx hb d_R_made_7 rfl hl (by decide) rfl (fun ls hl => ?_)
  have hl : lv_has ls 7 [(2, .ref nq), (0, .ref (ad 18)), (1, .ref x.tpA)] := hl
  refine lv_aload_n hx hb d_R_made_8 rfl (lv_at hl 1 rfl) ?_
  refine gF (v := .int (nI x.rlab)) hx hb hown hE hK hP 33 rfl rfl layR 3 (by decide) w603 rfl d_R_made_9 ?_
  refine nnQ (N' := x.rlab) hx hb hown hE w1310 w783 hK hP hD hS hA 6 rfl (by omega) (show x.rlab * 4 ≤ 536870912 by omega) (show (0 + 1) + 1 ≤ 32 by omega) (show (0 + x.rlab) + x.rlab ≤ 930 by omega) d_R_made_12 (fun vq H hP hD hS => ?_)
  have hP : va_P D vwCl ([(vq, .inl (dA 6, x.rlab, .inr (.inr (.inr (.inr (fun _ => none))))))] ++ ([(nq, .inl (dA 6, x.rlab, .inr (.inr (.inr (.inr (fun _ => none))))))] ++ (VW dA h ad x))) H := hP
  have hD : va_D A ([(vq, .inl (dA 6, x.rlab, .inr (.inr (.inr (.inr (fun _ => none))))))] ++ ([(nq, .inl (dA 6, x.rlab, .inr (.inr (.inr (.inr (fun _ => none))))))] ++ (VW dA h ad x))) := hD
  refine lv_astore_n hx hb d_R_made_15 rfl hl (by decide) rfl (fun ls hl => ?_)
  have hl : lv_has ls 7 [(3, .ref vq), (2, .ref nq), (0, .ref (ad 18)), (1, .ref x.tpA)] := hl
  refine lv_iconst (v := 0) hx hb d_R_made_16 (by decide) ?_
  refine lv_istore hx hb d_R_made_17 hl (by decide) rfl (fun ls hl => ?_)
  have hl : lv_has ls 7 [(4, .int 0), (3, .ref vq), (2, .ref nq), (0, .ref (ad 18)), (1, .ref x.tpA)] := hl
  have L19 : ∀ (k9 : Nat) (i : Nat) (fn : Nat → Option Nat) (fv : Nat → Option Nat) (pl : va_W) (i1 : i ≤ x.rlab) (hs : ∀ c, c ∈ x.pl → c ∈ pl) (hel : lbW dA pl fn fv (srtL x.tape x.rS x.rE x.rV i)) (hk9 : x.rlab - i = k9), ∀ (H : Heap) (locs : List Loc) (ls : Array Slot) (hP : va_P D vwCl ([(vq, .inl (dA 6, x.rlab, .inr (.inr (.inr (.inr fv)))))] ++ ([(nq, .inl (dA 6, x.rlab, .inr (.inr (.inr (.inr fn)))))] ++ (VW dA h ad (VS.s_pl x pl)))) H) (hD : va_D A ([(vq, .inl (dA 6, x.rlab, .inr (.inr (.inr (.inr fv)))))] ++ ([(nq, .inl (dA 6, x.rlab, .inr (.inr (.inr (.inr fn)))))] ++ (VW dA h ad (VS.s_pl x pl))))) (hS : va_S A s.heap H locs) (hl : lv_has ls 7 [(0, .ref (ad 18)), (1, .ref x.tpA), (2, .ref nq), (3, .ref vq), (4, .int (nI i))]), W p l e ({ frames := 6, cells := 32, slots := 930, locals := 132 } : Room) s m ([.ref (ad 18), .ref x.tpA] : List Value).toArray below meth c H locs (2 + 4 * i) (2 * x.rlab + 50 * i) (MQ below (va_Qr (fun (_ : VS) => True) (fun (u9 : VS) (r9 : Nat) t9 => (x.pk u9 ∧ isSer dA u9.pl r9 (srtL x.tape x.rS x.rE x.rV x.rlab)) ∧ bW D A (VW dA h ad u9) t9) A) ([.ref (ad 18), .ref x.tpA] : List Value).toArray s 32 930 A) (F0 m 19 ls []) := by
    intro k9
    induction k9 using Nat.strongRecOn with
    | ind k9 ih19 =>
      intro i fn fv pl i1 hs hel hk9 H locs ls hP hD hS hl
      refine lv_iload hx hb d_R_made_19 (lv_at hl 4 rfl) ?_
      refine lv_aload_n hx hb d_R_made_21 rfl (lv_at hl 0 rfl) ?_
      refine gF (v := .int (nI x.rlab)) hx hb hown hE hK hP 34 rfl rfl layR 3 (by decide) w603 rfl d_R_made_22 ?_
      refine lv_icmp_ge hx hb d_R_made_25 (tgt := 141) rfl (fun g1 => ?_) (fun g1 => ?_)
      · have g1 := (nI_leI (a := x.rlab) (b := i) (by omega) (by omega)).mp g1
        have jl := jt_le (S := (srtL x.tape x.rS x.rE x.rV i)) (by rw [show i = x.rlab by omega]; exact srt_sOk h5 h4)
        refine nOf hx hb hown hE hK hP hD hS hA (ci := 11) rfl layS tyS tokS w1311 w857 w1288 (fs := [.null, .null, .null, .null]) dfS (show (2 + 4 * i) + 1 ≤ 32 by omega) (show (2 * x.rlab + 50 * i) + 4 ≤ 930 by omega) d_R_made_141 (fun sp H hP hD hS => ?_)
        have hP : va_P D vwCl ([(sp, .inr (11, [.null, .null, .null, .null]))] ++ ([(vq, .inl (dA 6, x.rlab, .inr (.inr (.inr (.inr fv)))))] ++ ([(nq, .inl (dA 6, x.rlab, .inr (.inr (.inr (.inr fn)))))] ++ (VW dA h ad (VS.s_pl x pl))))) H := hP
        have hD : va_D A ([(sp, .inr (11, [.null, .null, .null, .null]))] ++ ([(vq, .inl (dA 6, x.rlab, .inr (.inr (.inr (.inr fv)))))] ++ ([(nq, .inl (dA 6, x.rlab, .inr (.inr (.inr (.inr fn)))))] ++ (VW dA h ad (VS.s_pl x pl))))) := hD
        refine lv_dup hx hb d_R_made_144 rfl ?_
        refine lv_aload_n hx hb d_R_made_145 rfl (lv_at hl 2 rfl) ?_
        refine lv_aload_n hx hb d_R_made_146 rfl (lv_at hl 3 rfl) ?_
        refine jkV (wr := []) (rnI (As := [.ref nq, .ref vq]) (rest := [.ref sp]) hx hb hml hown hE hK (hN _ _ hS) hP hD (v_Sinit l D dA H.size ([(vq, .inl (dA 6, x.rlab, .inr (.inr (.inr (.inr fv)))))] ++ ([(nq, .inl (dA 6, x.rlab, .inr (.inr (.inr (.inr fn)))))] ++ (VW dA h ad (VS.s_pl x pl)))) sp nq vq (srtL x.tape x.rS x.rE x.rV i) fn fv (by rw [srtL_len, show i = x.rlab by omega]; exact (List.mem_of_getElem? (i := 1) rfl)) (by rw [srtL_len, show i = x.rlab by omega]; exact (List.mem_of_getElem? (i := 0) rfl)) (fun k hk => by obtain ⟨p9, q9, a1, a2, a3, a4⟩ := hel k hk; exact ⟨p9, q9, a1, isWo_m (fun _ hm => (List.mem_append_right _ (List.mem_append_right _ (plm hm)))) a2, a3, isWo_m (fun _ hm => (List.mem_append_right _ (List.mem_append_right _ (plm hm)))) a4⟩) (by rw [show i = x.rlab by omega]; exact srt_sOk h5 h4)) w1314 w1313 w1315 w1288 rfl rfl rfl ⟨⟨by decide, by decide⟩, rfl⟩ ⟨(Nat.le_of_ble_eq_true rfl), (Nat.le_of_ble_eq_true rfl)⟩ rfl hl.1 rfl (Nat.le_of_ble_eq_true rfl) d_R_made_147 ⟨(show 2 + 4 * i + 1 + 5 ≤ 32 by omega), (show 2 * x.rlab + 50 * i + 4 + (2 * (joinT (srtL x.tape x.rS x.rE x.rV i)).length + 2) ≤ 930 by omega)⟩) hP hD hS hA (fun u3 H locs hp9 hP hD hS => ?_)
        obtain ⟨no, tx, bt, bn, gt, gn⟩ := u3
        have hP : va_P D vwCl ([(tx, .inr (10, [.ref bt]))] ++ ([(bt, .inl (dA 0, (joinT (srtL x.tape x.rS x.rE x.rV i)).length, .inl gt))] ++ ([(no, .inr (10, [.ref bn]))] ++ ([(bn, .inl (dA 0, 0, .inl gn))] ++ ([(sp, .inr (11, [.ref nq, .ref vq, .ref no, .ref tx]))] ++ ([(vq, .inl (dA 6, x.rlab, .inr (.inr (.inr (.inr fv)))))] ++ ([(nq, .inl (dA 6, x.rlab, .inr (.inr (.inr (.inr fn)))))] ++ (VW dA h ad (VS.s_pl x pl))))))))) H := hP
        have hD : va_D A ([(tx, .inr (10, [.ref bt]))] ++ ([(bt, .inl (dA 0, (joinT (srtL x.tape x.rS x.rE x.rV i)).length, .inl gt))] ++ ([(no, .inr (10, [.ref bn]))] ++ ([(bn, .inl (dA 0, 0, .inl gn))] ++ ([(sp, .inr (11, [.ref nq, .ref vq, .ref no, .ref tx]))] ++ ([(vq, .inl (dA 6, x.rlab, .inr (.inr (.inr (.inr fv)))))] ++ ([(nq, .inl (dA 6, x.rlab, .inr (.inr (.inr (.inr fn)))))] ++ (VW dA h ad (VS.s_pl x pl))))))))) := hD
        obtain ⟨f_y1_4, f_y2_5, f_y3_6⟩ := hp9
        have hP : va_P D vwCl (VW dA h ad (VS.s_pl x (pl ++ ([(tx, .inr (10, [.ref bt]))] ++ ([(bt, .inl (dA 0, (joinT (srtL x.tape x.rS x.rE x.rV i)).length, .inl gt))] ++ ([(no, .inr (10, [.ref bn]))] ++ ([(bn, .inl (dA 0, 0, .inl gn))] ++ ([(sp, .inr (11, [.ref nq, .ref vq, .ref no, .ref tx]))] ++ ([(vq, .inl (dA 6, x.rlab, .inr (.inr (.inr (.inr fv)))))] ++ ([(nq, .inl (dA 6, x.rlab, .inr (.inr (.inr (.inr fn)))))])))))))))) H := pmP (show List.Perm (α := Nat × va_E) ([(tx, .inr (10, [.ref bt]))] ++ ([(bt, .inl (dA 0, (joinT (srtL x.tape x.rS x.rE x.rV i)).length, .inl gt))] ++ ([(no, .inr (10, [.ref bn]))] ++ ([(bn, .inl (dA 0, 0, .inl gn))] ++ ([(sp, .inr (11, [.ref nq, .ref vq, .ref no, .ref tx]))] ++ ([(vq, .inl (dA 6, x.rlab, .inr (.inr (.inr (.inr fv)))))] ++ ([(nq, .inl (dA 6, x.rlab, .inr (.inr (.inr (.inr fn)))))] ++ (VW dA h ad (VS.s_pl x pl))))))))) (VW dA h ad (VS.s_pl x (pl ++ ([(tx, .inr (10, [.ref bt]))] ++ ([(bt, .inl (dA 0, (joinT (srtL x.tape x.rS x.rE x.rV i)).length, .inl gt))] ++ ([(no, .inr (10, [.ref bn]))] ++ ([(bn, .inl (dA 0, 0, .inl gn))] ++ ([(sp, .inr (11, [.ref nq, .ref vq, .ref no, .ref tx]))] ++ ([(vq, .inl (dA 6, x.rlab, .inr (.inr (.inr (.inr fv)))))] ++ ([(nq, .inl (dA 6, x.rlab, .inr (.inr (.inr (.inr fn)))))])))))))))) from plP7 (dA := dA) (h := h) (ad := ad) (VS.s_pl x pl) ([(tx, .inr (10, [.ref bt]))]) ([(bt, .inl (dA 0, (joinT (srtL x.tape x.rS x.rE x.rV i)).length, .inl gt))]) ([(no, .inr (10, [.ref bn]))]) ([(bn, .inl (dA 0, 0, .inl gn))]) ([(sp, .inr (11, [.ref nq, .ref vq, .ref no, .ref tx]))]) ([(vq, .inl (dA 6, x.rlab, .inr (.inr (.inr (.inr fv)))))]) ([(nq, .inl (dA 6, x.rlab, .inr (.inr (.inr (.inr fn)))))])) hP
        have hD : va_D A (VW dA h ad (VS.s_pl x (pl ++ ([(tx, .inr (10, [.ref bt]))] ++ ([(bt, .inl (dA 0, (joinT (srtL x.tape x.rS x.rE x.rV i)).length, .inl gt))] ++ ([(no, .inr (10, [.ref bn]))] ++ ([(bn, .inl (dA 0, 0, .inl gn))] ++ ([(sp, .inr (11, [.ref nq, .ref vq, .ref no, .ref tx]))] ++ ([(vq, .inl (dA 6, x.rlab, .inr (.inr (.inr (.inr fv)))))] ++ ([(nq, .inl (dA 6, x.rlab, .inr (.inr (.inr (.inr fn)))))])))))))))) := pmD (show List.Perm (α := Nat × va_E) ([(tx, .inr (10, [.ref bt]))] ++ ([(bt, .inl (dA 0, (joinT (srtL x.tape x.rS x.rE x.rV i)).length, .inl gt))] ++ ([(no, .inr (10, [.ref bn]))] ++ ([(bn, .inl (dA 0, 0, .inl gn))] ++ ([(sp, .inr (11, [.ref nq, .ref vq, .ref no, .ref tx]))] ++ ([(vq, .inl (dA 6, x.rlab, .inr (.inr (.inr (.inr fv)))))] ++ ([(nq, .inl (dA 6, x.rlab, .inr (.inr (.inr (.inr fn)))))] ++ (VW dA h ad (VS.s_pl x pl))))))))) (VW dA h ad (VS.s_pl x (pl ++ ([(tx, .inr (10, [.ref bt]))] ++ ([(bt, .inl (dA 0, (joinT (srtL x.tape x.rS x.rE x.rV i)).length, .inl gt))] ++ ([(no, .inr (10, [.ref bn]))] ++ ([(bn, .inl (dA 0, 0, .inl gn))] ++ ([(sp, .inr (11, [.ref nq, .ref vq, .ref no, .ref tx]))] ++ ([(vq, .inl (dA 6, x.rlab, .inr (.inr (.inr (.inr fv)))))] ++ ([(nq, .inl (dA 6, x.rlab, .inr (.inr (.inr (.inr fn)))))])))))))))) from plP7 (dA := dA) (h := h) (ad := ad) (VS.s_pl x pl) ([(tx, .inr (10, [.ref bt]))]) ([(bt, .inl (dA 0, (joinT (srtL x.tape x.rS x.rE x.rV i)).length, .inl gt))]) ([(no, .inr (10, [.ref bn]))]) ([(bn, .inl (dA 0, 0, .inl gn))]) ([(sp, .inr (11, [.ref nq, .ref vq, .ref no, .ref tx]))]) ([(vq, .inl (dA 6, x.rlab, .inr (.inr (.inr (.inr fv)))))]) ([(nq, .inl (dA 6, x.rlab, .inr (.inr (.inr (.inr fn)))))])) hD
        obtain ⟨pl7, e_pl7⟩ : ∃ z, z = pl ++ ([(tx, .inr (10, [.ref bt]))] ++ ([(bt, .inl (dA 0, (joinT (srtL x.tape x.rS x.rE x.rV i)).length, .inl gt))] ++ ([(no, .inr (10, [.ref bn]))] ++ ([(bn, .inl (dA 0, 0, .inl gn))] ++ ([(sp, .inr (11, [.ref nq, .ref vq, .ref no, .ref tx]))] ++ ([(vq, .inl (dA 6, x.rlab, .inr (.inr (.inr (.inr fv)))))] ++ ([(nq, .inl (dA 6, x.rlab, .inr (.inr (.inr (.inr fn)))))]))))))) := ⟨_, rfl⟩
        rw [← e_pl7] at hP hD
        have s_pl7 : ∀ c, c ∈ pl → c ∈ pl7 := by rw [e_pl7]; exact fun _ hm => List.mem_append_left _ hm
        have t_pl7_0 : ((tx, .inr (10, [.ref bt])) : Nat × va_E) ∈ pl7 := by rw [e_pl7]; exact List.mem_append_right _ (List.mem_of_getElem? (i := 0) rfl)
        have t_pl7_1 : ((bt, .inl (dA 0, (joinT (srtL x.tape x.rS x.rE x.rV i)).length, .inl gt)) : Nat × va_E) ∈ pl7 := by rw [e_pl7]; exact List.mem_append_right _ (List.mem_of_getElem? (i := 1) rfl)
        have t_pl7_2 : ((no, .inr (10, [.ref bn])) : Nat × va_E) ∈ pl7 := by rw [e_pl7]; exact List.mem_append_right _ (List.mem_of_getElem? (i := 2) rfl)
        have t_pl7_3 : ((bn, .inl (dA 0, 0, .inl gn)) : Nat × va_E) ∈ pl7 := by rw [e_pl7]; exact List.mem_append_right _ (List.mem_of_getElem? (i := 3) rfl)
        have t_pl7_4 : ((sp, .inr (11, [.ref nq, .ref vq, .ref no, .ref tx])) : Nat × va_E) ∈ pl7 := by rw [e_pl7]; exact List.mem_append_right _ (List.mem_of_getElem? (i := 4) rfl)
        have t_pl7_5 : ((vq, .inl (dA 6, x.rlab, .inr (.inr (.inr (.inr fv))))) : Nat × va_E) ∈ pl7 := by rw [e_pl7]; exact List.mem_append_right _ (List.mem_of_getElem? (i := 5) rfl)
        have t_pl7_6 : ((nq, .inl (dA 6, x.rlab, .inr (.inr (.inr (.inr fn))))) : Nat × va_E) ∈ pl7 := by rw [e_pl7]; exact List.mem_append_right _ (List.mem_of_getElem? (i := 6) rfl)
        have hP : va_P D vwCl (VW dA h ad (VS.s_pl x pl7)) H := hP
        have hD : va_D A (VW dA h ad (VS.s_pl x pl7)) := hD
        have hser : isSer dA pl7 sp (srtL x.tape x.rS x.rE x.rV i) := by
          refine ⟨nq, vq, no, tx, fn, fv, t_pl7_4, ?_, ?_, isWo_n t_pl7_2 t_pl7_3 f_y3_6 rfl (fun q hq => absurd hq (Nat.not_lt_zero q)), isWo_n t_pl7_0 t_pl7_1 f_y1_4 rfl f_y2_5, lbW_m s_pl7 hel⟩
          · rw [srtL_len, show i = x.rlab by omega]; exact t_pl7_6
          · rw [srtL_len, show i = x.rlab by omega]; exact t_pl7_5
        exact rkR hx hb hr (Or.inl ⟨_, rfl⟩) hlk hS (VS.s_pl x pl7) ⟨⟨rfl, fun c hc => s_pl7 c (hs c hc)⟩, by rw [← show i = x.rlab by omega]; exact hser⟩ hP hD (show 2 + 4 * i + 1 + 5 ≤ 32 by omega) (show 2 * x.rlab + 50 * i + 4 + (2 * (joinT (srtL x.tape x.rS x.rE x.rV i)).length + 2) ≤ 930 by omega) d_R_made_150
      · have g1 := mt (nI_leI (a := x.rlab) (b := i) (by omega) (by omega)).mpr g1
        have b5 := h5 i (by omega)
        refine nOf hx hb hown hE hK hP hD hS hA (ci := 10) rfl layW tyW tokW w1310 w856 w1281 (fs := [.null]) dfW (show (2 + 4 * i) + 1 ≤ 32 by omega) (show (2 * x.rlab + 50 * i) + 1 ≤ 930 by omega) d_R_made_28 (fun pp H hP hD hS => ?_)
        have hP : va_P D vwCl ([(pp, .inr (10, [.null]))] ++ ([(vq, .inl (dA 6, x.rlab, .inr (.inr (.inr (.inr fv)))))] ++ ([(nq, .inl (dA 6, x.rlab, .inr (.inr (.inr (.inr fn)))))] ++ (VW dA h ad (VS.s_pl x pl))))) H := hP
        have hD : va_D A ([(pp, .inr (10, [.null]))] ++ ([(vq, .inl (dA 6, x.rlab, .inr (.inr (.inr (.inr fv)))))] ++ ([(nq, .inl (dA 6, x.rlab, .inr (.inr (.inr (.inr fn)))))] ++ (VW dA h ad (VS.s_pl x pl))))) := hD
        refine lv_dup hx hb d_R_made_31 rfl ?_
        refine lv_aload_n hx hb d_R_made_32 rfl (lv_at hl 1 rfl) ?_
        refine lv_aload_n hx hb d_R_made_33 rfl (lv_at hl 0 rfl) ?_
        refine gF (v := .ref (ad 19)) hx hb hown hE hK hP 35 rfl rfl layR 0 (by decide) w206 rfl d_R_made_34 ?_
        refine lv_iload hx hb d_R_made_37 (lv_at hl 4 rfl) ?_
        refine nild (f := (fun z9 => nI (x.rS z9))) (n := 6) hx hb hK hP (36) 1 rfl rfl (i) (by omega) (by decide) d_R_made_39 ?_
        refine lv_aload_n hx hb d_R_made_40 rfl (lv_at hl 0 rfl) ?_
        refine gF (v := .ref (ad 20)) hx hb hown hE hK hP 35 rfl rfl layR 1 (by decide) w207 rfl d_R_made_41 ?_
        refine lv_iload hx hb d_R_made_44 (lv_at hl 4 rfl) ?_
        refine nild (f := (fun z9 => nI (x.rE z9))) (n := 6) hx hb hK hP (37) 1 rfl rfl (i) (by omega) (by decide) d_R_made_46 ?_
        refine jkV (wr := []) (rnI (As := [.ref x.tpA, .int (nI (x.rS i)), .int (nI (x.rE i))]) (rest := [.ref pp]) hx hb hml hown hE hK (hN _ _ hS) hP hD (v_Winit l D dA H.size ([(vq, .inl (dA 6, x.rlab, .inr (.inr (.inr (.inr fv)))))] ++ ([(nq, .inl (dA 6, x.rlab, .inr (.inr (.inr (.inr fn)))))] ++ (VW dA h ad (VS.s_pl x pl)))) pp x.tpA x.tpN x.tape (x.rS i) (x.rE i) (List.mem_of_getElem? (i := 3) rfl) hby (show (x.rS i) ≤ (x.rE i) from by omega) (show (x.rE i) ≤ x.tpN from by omega) (show x.tpN ≤ 131072 from by omega)) w1308 w1316 w1309 w1281 rfl rfl rfl ⟨⟨by decide, by decide⟩, rfl⟩ ⟨(Nat.le_of_ble_eq_true rfl), (Nat.le_of_ble_eq_true rfl)⟩ rfl hl.1 rfl (Nat.le_of_ble_eq_true rfl) d_R_made_47 ⟨(show 2 + 4 * i + 1 + 1 ≤ 32 by omega), (show 2 * x.rlab + 50 * i + 1 + ((x.rE i) - (x.rS i)) ≤ 930 by omega)⟩) hP hD hS hA (fun u9 H locs hp9 hP hD hS => ?_)
        obtain ⟨bq, g1⟩ := u9
        have hP : va_P D vwCl ([(bq, .inl (dA 0, (x.rE i) - (x.rS i), .inl g1))] ++ ([(pp, .inr (10, [.ref bq]))] ++ ([(vq, .inl (dA 6, x.rlab, .inr (.inr (.inr (.inr fv)))))] ++ ([(nq, .inl (dA 6, x.rlab, .inr (.inr (.inr (.inr fn)))))] ++ (VW dA h ad (VS.s_pl x pl)))))) H := hP
        have hD : va_D A ([(bq, .inl (dA 0, (x.rE i) - (x.rS i), .inl g1))] ++ ([(pp, .inr (10, [.ref bq]))] ++ ([(vq, .inl (dA 6, x.rlab, .inr (.inr (.inr (.inr fv)))))] ++ ([(nq, .inl (dA 6, x.rlab, .inr (.inr (.inr (.inr fn)))))] ++ (VW dA h ad (VS.s_pl x pl)))))) := hD
        obtain ⟨f_y_10, f_hg_11⟩ := hp9
        have hP := pmP (show List.Perm (α := Nat × va_E) ([(bq, .inl (dA 0, (x.rE i) - (x.rS i), .inl g1))] ++ ([(pp, .inr (10, [.ref bq]))] ++ ([(vq, .inl (dA 6, x.rlab, .inr (.inr (.inr (.inr fv)))))] ++ ([(nq, .inl (dA 6, x.rlab, .inr (.inr (.inr (.inr fn)))))] ++ (VW dA h ad (VS.s_pl x pl)))))) ([(vq, .inl (dA 6, x.rlab, .inr (.inr (.inr (.inr fv)))))] ++ ([(bq, .inl (dA 0, (x.rE i) - (x.rS i), .inl g1))] ++ ([(pp, .inr (10, [.ref bq]))] ++ ([(nq, .inl (dA 6, x.rlab, .inr (.inr (.inr (.inr fn)))))] ++ (VW dA h ad (VS.s_pl x pl)))))) from (List.Perm.append_left ([(bq, .inl (dA 0, (x.rE i) - (x.rS i), .inl g1))]) (List.perm_append_comm_assoc ([(pp, .inr (10, [.ref bq]))]) ([(vq, .inl (dA 6, x.rlab, .inr (.inr (.inr (.inr fv)))))]) ([(nq, .inl (dA 6, x.rlab, .inr (.inr (.inr (.inr fn)))))] ++ (VW dA h ad (VS.s_pl x pl))))).trans (List.perm_append_comm_assoc ([(bq, .inl (dA 0, (x.rE i) - (x.rS i), .inl g1))]) ([(vq, .inl (dA 6, x.rlab, .inr (.inr (.inr (.inr fv)))))]) ([(pp, .inr (10, [.ref bq]))] ++ ([(nq, .inl (dA 6, x.rlab, .inr (.inr (.inr (.inr fn)))))] ++ (VW dA h ad (VS.s_pl x pl)))))) hP
        have hD := pmD (show List.Perm (α := Nat × va_E) ([(bq, .inl (dA 0, (x.rE i) - (x.rS i), .inl g1))] ++ ([(pp, .inr (10, [.ref bq]))] ++ ([(vq, .inl (dA 6, x.rlab, .inr (.inr (.inr (.inr fv)))))] ++ ([(nq, .inl (dA 6, x.rlab, .inr (.inr (.inr (.inr fn)))))] ++ (VW dA h ad (VS.s_pl x pl)))))) ([(vq, .inl (dA 6, x.rlab, .inr (.inr (.inr (.inr fv)))))] ++ ([(bq, .inl (dA 0, (x.rE i) - (x.rS i), .inl g1))] ++ ([(pp, .inr (10, [.ref bq]))] ++ ([(nq, .inl (dA 6, x.rlab, .inr (.inr (.inr (.inr fn)))))] ++ (VW dA h ad (VS.s_pl x pl)))))) from (List.Perm.append_left ([(bq, .inl (dA 0, (x.rE i) - (x.rS i), .inl g1))]) (List.perm_append_comm_assoc ([(pp, .inr (10, [.ref bq]))]) ([(vq, .inl (dA 6, x.rlab, .inr (.inr (.inr (.inr fv)))))]) ([(nq, .inl (dA 6, x.rlab, .inr (.inr (.inr (.inr fn)))))] ++ (VW dA h ad (VS.s_pl x pl))))).trans (List.perm_append_comm_assoc ([(bq, .inl (dA 0, (x.rE i) - (x.rS i), .inl g1))]) ([(vq, .inl (dA 6, x.rlab, .inr (.inr (.inr (.inr fv)))))]) ([(pp, .inr (10, [.ref bq]))] ++ ([(nq, .inl (dA 6, x.rlab, .inr (.inr (.inr (.inr fn)))))] ++ (VW dA h ad (VS.s_pl x pl)))))) hD
        have hP := pmP (show List.Perm (α := Nat × va_E) ([(vq, .inl (dA 6, x.rlab, .inr (.inr (.inr (.inr fv)))))] ++ ([(bq, .inl (dA 0, (x.rE i) - (x.rS i), .inl g1))] ++ ([(pp, .inr (10, [.ref bq]))] ++ ([(nq, .inl (dA 6, x.rlab, .inr (.inr (.inr (.inr fn)))))] ++ (VW dA h ad (VS.s_pl x pl)))))) ([(vq, .inl (dA 6, x.rlab, .inr (.inr (.inr (.inr fv)))))] ++ ([(nq, .inl (dA 6, x.rlab, .inr (.inr (.inr (.inr fn)))))] ++ ([(bq, .inl (dA 0, (x.rE i) - (x.rS i), .inl g1))] ++ ([(pp, .inr (10, [.ref bq]))] ++ (VW dA h ad (VS.s_pl x pl)))))) from List.Perm.append_left ([(vq, .inl (dA 6, x.rlab, .inr (.inr (.inr (.inr fv)))))]) ((List.Perm.append_left ([(bq, .inl (dA 0, (x.rE i) - (x.rS i), .inl g1))]) (List.perm_append_comm_assoc ([(pp, .inr (10, [.ref bq]))]) ([(nq, .inl (dA 6, x.rlab, .inr (.inr (.inr (.inr fn)))))]) (VW dA h ad (VS.s_pl x pl)))).trans (List.perm_append_comm_assoc ([(bq, .inl (dA 0, (x.rE i) - (x.rS i), .inl g1))]) ([(nq, .inl (dA 6, x.rlab, .inr (.inr (.inr (.inr fn)))))]) ([(pp, .inr (10, [.ref bq]))] ++ (VW dA h ad (VS.s_pl x pl)))))) hP
        have hD := pmD (show List.Perm (α := Nat × va_E) ([(vq, .inl (dA 6, x.rlab, .inr (.inr (.inr (.inr fv)))))] ++ ([(bq, .inl (dA 0, (x.rE i) - (x.rS i), .inl g1))] ++ ([(pp, .inr (10, [.ref bq]))] ++ ([(nq, .inl (dA 6, x.rlab, .inr (.inr (.inr (.inr fn)))))] ++ (VW dA h ad (VS.s_pl x pl)))))) ([(vq, .inl (dA 6, x.rlab, .inr (.inr (.inr (.inr fv)))))] ++ ([(nq, .inl (dA 6, x.rlab, .inr (.inr (.inr (.inr fn)))))] ++ ([(bq, .inl (dA 0, (x.rE i) - (x.rS i), .inl g1))] ++ ([(pp, .inr (10, [.ref bq]))] ++ (VW dA h ad (VS.s_pl x pl)))))) from List.Perm.append_left ([(vq, .inl (dA 6, x.rlab, .inr (.inr (.inr (.inr fv)))))]) ((List.Perm.append_left ([(bq, .inl (dA 0, (x.rE i) - (x.rS i), .inl g1))]) (List.perm_append_comm_assoc ([(pp, .inr (10, [.ref bq]))]) ([(nq, .inl (dA 6, x.rlab, .inr (.inr (.inr (.inr fn)))))]) (VW dA h ad (VS.s_pl x pl)))).trans (List.perm_append_comm_assoc ([(bq, .inl (dA 0, (x.rE i) - (x.rS i), .inl g1))]) ([(nq, .inl (dA 6, x.rlab, .inr (.inr (.inr (.inr fn)))))]) ([(pp, .inr (10, [.ref bq]))] ++ (VW dA h ad (VS.s_pl x pl)))))) hD
        have hP : va_P D vwCl ([(vq, .inl (dA 6, x.rlab, .inr (.inr (.inr (.inr fv)))))] ++ ([(nq, .inl (dA 6, x.rlab, .inr (.inr (.inr (.inr fn)))))] ++ (VW dA h ad (VS.s_pl x (pl ++ ([(bq, .inl (dA 0, (x.rE i) - (x.rS i), .inl g1))] ++ ([(pp, .inr (10, [.ref bq]))]))))))) H := pmP (show List.Perm (α := Nat × va_E) ([(vq, .inl (dA 6, x.rlab, .inr (.inr (.inr (.inr fv)))))] ++ ([(nq, .inl (dA 6, x.rlab, .inr (.inr (.inr (.inr fn)))))] ++ ([(bq, .inl (dA 0, (x.rE i) - (x.rS i), .inl g1))] ++ ([(pp, .inr (10, [.ref bq]))] ++ (VW dA h ad (VS.s_pl x pl)))))) ([(vq, .inl (dA 6, x.rlab, .inr (.inr (.inr (.inr fv)))))] ++ ([(nq, .inl (dA 6, x.rlab, .inr (.inr (.inr (.inr fn)))))] ++ (VW dA h ad (VS.s_pl x (pl ++ ([(bq, .inl (dA 0, (x.rE i) - (x.rS i), .inl g1))] ++ ([(pp, .inr (10, [.ref bq]))]))))))) from List.Perm.append_left ([(vq, .inl (dA 6, x.rlab, .inr (.inr (.inr (.inr fv)))))]) (List.Perm.append_left ([(nq, .inl (dA 6, x.rlab, .inr (.inr (.inr (.inr fn)))))]) (plP2 (dA := dA) (h := h) (ad := ad) (VS.s_pl x pl) ([(bq, .inl (dA 0, (x.rE i) - (x.rS i), .inl g1))]) ([(pp, .inr (10, [.ref bq]))])))) hP
        have hD : va_D A ([(vq, .inl (dA 6, x.rlab, .inr (.inr (.inr (.inr fv)))))] ++ ([(nq, .inl (dA 6, x.rlab, .inr (.inr (.inr (.inr fn)))))] ++ (VW dA h ad (VS.s_pl x (pl ++ ([(bq, .inl (dA 0, (x.rE i) - (x.rS i), .inl g1))] ++ ([(pp, .inr (10, [.ref bq]))]))))))) := pmD (show List.Perm (α := Nat × va_E) ([(vq, .inl (dA 6, x.rlab, .inr (.inr (.inr (.inr fv)))))] ++ ([(nq, .inl (dA 6, x.rlab, .inr (.inr (.inr (.inr fn)))))] ++ ([(bq, .inl (dA 0, (x.rE i) - (x.rS i), .inl g1))] ++ ([(pp, .inr (10, [.ref bq]))] ++ (VW dA h ad (VS.s_pl x pl)))))) ([(vq, .inl (dA 6, x.rlab, .inr (.inr (.inr (.inr fv)))))] ++ ([(nq, .inl (dA 6, x.rlab, .inr (.inr (.inr (.inr fn)))))] ++ (VW dA h ad (VS.s_pl x (pl ++ ([(bq, .inl (dA 0, (x.rE i) - (x.rS i), .inl g1))] ++ ([(pp, .inr (10, [.ref bq]))]))))))) from List.Perm.append_left ([(vq, .inl (dA 6, x.rlab, .inr (.inr (.inr (.inr fv)))))]) (List.Perm.append_left ([(nq, .inl (dA 6, x.rlab, .inr (.inr (.inr (.inr fn)))))]) (plP2 (dA := dA) (h := h) (ad := ad) (VS.s_pl x pl) ([(bq, .inl (dA 0, (x.rE i) - (x.rS i), .inl g1))]) ([(pp, .inr (10, [.ref bq]))])))) hD
        obtain ⟨pl12, e_pl12⟩ : ∃ z, z = pl ++ ([(bq, .inl (dA 0, (x.rE i) - (x.rS i), .inl g1))] ++ ([(pp, .inr (10, [.ref bq]))])) := ⟨_, rfl⟩
        rw [← e_pl12] at hP hD
        have s_pl12 : ∀ c, c ∈ pl → c ∈ pl12 := by rw [e_pl12]; exact fun _ hm => List.mem_append_left _ hm
        have t_pl12_0 : ((bq, .inl (dA 0, (x.rE i) - (x.rS i), .inl g1)) : Nat × va_E) ∈ pl12 := by rw [e_pl12]; exact List.mem_append_right _ (List.mem_of_getElem? (i := 0) rfl)
        have t_pl12_1 : ((pp, .inr (10, [.ref bq])) : Nat × va_E) ∈ pl12 := by rw [e_pl12]; exact List.mem_append_right _ (List.mem_of_getElem? (i := 1) rfl)
        have hP : va_P D vwCl ([(vq, .inl (dA 6, x.rlab, .inr (.inr (.inr (.inr fv)))))] ++ ([(nq, .inl (dA 6, x.rlab, .inr (.inr (.inr (.inr fn)))))] ++ (VW dA h ad (VS.s_pl x pl12)))) H := hP
        have hD : va_D A ([(vq, .inl (dA 6, x.rlab, .inr (.inr (.inr (.inr fv)))))] ++ ([(nq, .inl (dA 6, x.rlab, .inr (.inr (.inr (.inr fn)))))] ++ (VW dA h ad (VS.s_pl x pl12)))) := hD
        have kpp := t_pl12_1
        have wpp : isWo dA pl12 pp (rawL x.tape x.rS x.rE x.rV i).1 := isWo_n t_pl12_1 t_pl12_0 f_y_10 (seg_len _ _ _) (fun k hk => (f_hg_11 k hk).trans (seg_get _ hk).symm)
        have hel1 : lbW dA pl12 fn fv (srtL x.tape x.rS x.rE x.rV i) := lbW_m s_pl12 hel
        have hs1 : ∀ c, c ∈ x.pl → c ∈ pl12 := fun c hc => s_pl12 c (hs c hc)
        refine lv_astore hx hb d_R_made_50 hl (by decide) rfl (fun ls hl => ?_)
        have hl : lv_has ls 7 [(5, .ref pp), (0, .ref (ad 18)), (1, .ref x.tpA), (2, .ref nq), (3, .ref vq), (4, .int (nI i))] := hl
        refine lv_iload hx hb d_R_made_52 (lv_at hl 5 rfl) ?_
        refine lv_istore hx hb d_R_made_54 hl (by decide) rfl (fun ls hl => ?_)
        have hl : lv_has ls 7 [(6, .int (nI i)), (5, .ref pp), (0, .ref (ad 18)), (1, .ref x.tpA), (2, .ref nq), (3, .ref vq), (4, .int (nI i))] := hl
        have L56 : ∀ (k9 : Nat) (pz : Nat) (gn : Nat → Option Nat) (gv : Nat → Option Nat) (pi : pz ≤ i) (en : gn = shU fn pz i) (ev : gv = shU fv pz i) (ip : insP (rawL x.tape x.rS x.rE x.rV i).1 (srtL x.tape x.rS x.rE x.rV i) pz = insP (rawL x.tape x.rS x.rE x.rV i).1 (srtL x.tape x.rS x.rE x.rV i) i) (hk9 : pz = k9), ∀ (H : Heap) (locs : List Loc) (ls : Array Slot) (hP : va_P D vwCl ([(vq, .inl (dA 6, x.rlab, .inr (.inr (.inr (.inr gv)))))] ++ ([(nq, .inl (dA 6, x.rlab, .inr (.inr (.inr (.inr gn)))))] ++ (VW dA h ad (VS.s_pl x pl12)))) H) (hD : va_D A ([(vq, .inl (dA 6, x.rlab, .inr (.inr (.inr (.inr gv)))))] ++ ([(nq, .inl (dA 6, x.rlab, .inr (.inr (.inr (.inr gn)))))] ++ (VW dA h ad (VS.s_pl x pl12))))) (hS : va_S A s.heap H locs) (hl : lv_has ls 7 [(6, .int (nI pz)), (5, .ref pp), (0, .ref (ad 18)), (1, .ref x.tpA), (2, .ref nq), (3, .ref vq), (4, .int (nI i))]), W p l e ({ frames := 6, cells := 32, slots := 930, locals := 132 } : Room) s m ([.ref (ad 18), .ref x.tpA] : List Value).toArray below meth c H locs (2 + 4 * i + 1 + 1) (2 * x.rlab + 50 * i + 1 + ((x.rE i) - (x.rS i))) (MQ below (va_Qr (fun (_ : VS) => True) (fun (u9 : VS) (r9 : Nat) t9 => (x.pk u9 ∧ isSer dA u9.pl r9 (srtL x.tape x.rS x.rE x.rV x.rlab)) ∧ bW D A (VW dA h ad u9) t9) A) ([.ref (ad 18), .ref x.tpA] : List Value).toArray s 32 930 A) (F0 m 56 ls []) := by
          intro k9
          induction k9 using Nat.strongRecOn with
          | ind k9 ih56 =>
            intro pz gn gv pi en ev ip hk9 H locs ls hP hD hS hl
            refine lv_iload hx hb d_R_made_56 (lv_at hl 0 rfl) ?_
            refine lv_if_le hx hb d_R_made_58 (tgt := 101) rfl (fun g13 => ?_) (fun g13 => ?_)
            · have g13 := (nI_leI (a := pz) (b := 0) (by omega) (by decide)).mp g13
              refine lv_aload_n hx hb d_R_made_101 rfl (lv_at hl 4 rfl) ?_
              refine lv_iload hx hb d_R_made_102 (lv_at hl 0 rfl) ?_
              refine lv_aload hx hb d_R_made_104 (lv_at hl 1 rfl) ?_
              obtain ⟨qp14, ep15⟩ := List.getElem?_of_mem (show ((pp, .inr (10, [.ref bq])) : Nat × va_E) ∈ [(vq, .inl (dA 6, x.rlab, .inr (.inr (.inr (.inr gv)))))] ++ ([(nq, .inl (dA 6, x.rlab, .inr (.inr (.inr (.inr gn)))))] ++ (VW dA h ad (VS.s_pl x pl12))) from (List.mem_append_right _ (List.mem_append_right _ (plm kpp))))
              refine nqst (r := ("SeriesVault$Word", TW, 1)) (f := gn) (n := x.rlab) hx hb hK hP hD hS (1) 6 (qp14) 10 rfl rfl ep15 rfl (pz) (by omega) (by omega) d_R_made_106 (fun H locs hP hD hS => ?_)
              have hP : va_P D vwCl ([(vq, .inl (dA 6, x.rlab, .inr (.inr (.inr (.inr gv)))))] ++ ([(nq, .inl (dA 6, x.rlab, .inr (.inr (.inr (.inr (va_up gn pz (some pp)))))))] ++ (VW dA h ad (VS.s_pl x pl12)))) H := hP
              have hD : va_D A ([(vq, .inl (dA 6, x.rlab, .inr (.inr (.inr (.inr gv)))))] ++ ([(nq, .inl (dA 6, x.rlab, .inr (.inr (.inr (.inr (va_up gn pz (some pp)))))))] ++ (VW dA h ad (VS.s_pl x pl12)))) := hD
              refine lv_aload_n hx hb d_R_made_107 rfl (lv_at hl 5 rfl) ?_
              refine lv_iload hx hb d_R_made_108 (lv_at hl 0 rfl) ?_
              refine nOf hx hb hown hE hK hP hD hS hA (ci := 10) rfl layW tyW tokW w1310 w856 w1281 (fs := [.null]) dfW (show (2 + 4 * i + 1 + 1) + 1 ≤ 32 by omega) (show (2 * x.rlab + 50 * i + 1 + ((x.rE i) - (x.rS i))) + 1 ≤ 930 by omega) d_R_made_110 (fun pp2 H hP hD hS => ?_)
              have hP : va_P D vwCl ([(pp2, .inr (10, [.null]))] ++ ([(vq, .inl (dA 6, x.rlab, .inr (.inr (.inr (.inr gv)))))] ++ ([(nq, .inl (dA 6, x.rlab, .inr (.inr (.inr (.inr (va_up gn pz (some pp)))))))] ++ (VW dA h ad (VS.s_pl x pl12))))) H := hP
              have hD : va_D A ([(pp2, .inr (10, [.null]))] ++ ([(vq, .inl (dA 6, x.rlab, .inr (.inr (.inr (.inr gv)))))] ++ ([(nq, .inl (dA 6, x.rlab, .inr (.inr (.inr (.inr (va_up gn pz (some pp)))))))] ++ (VW dA h ad (VS.s_pl x pl12))))) := hD
              refine lv_dup hx hb d_R_made_113 rfl ?_
              refine lv_aload_n hx hb d_R_made_114 rfl (lv_at hl 3 rfl) ?_
              refine lv_aload_n hx hb d_R_made_115 rfl (lv_at hl 2 rfl) ?_
              refine gF (v := .ref (ad 20)) hx hb hown hE hK hP 35 rfl rfl layR 1 (by decide) w207 rfl d_R_made_116 ?_
              refine lv_iload hx hb d_R_made_119 (lv_at hl 6 rfl) ?_
              refine nild (f := (fun z9 => nI (x.rE z9))) (n := 6) hx hb hK hP (37) 1 rfl rfl (i) (by omega) (by decide) d_R_made_121 ?_
              refine lv_iconst (v := 1) hx hb d_R_made_122 (by decide) ?_
              refine lv_iadd hx hb d_R_made_123 (tpi (y := nI (x.rE i + 1)) (nI_add (x.rE i) (1)) ?_)
              refine lv_aload_n hx hb d_R_made_124 rfl (lv_at hl 2 rfl) ?_
              refine gF (v := .ref (ad 21)) hx hb hown hE hK hP 35 rfl rfl layR 2 (by decide) w208 rfl d_R_made_125 ?_
              refine lv_iload hx hb d_R_made_128 (lv_at hl 6 rfl) ?_
              refine nild (f := (fun z9 => nI (x.rV z9))) (n := 6) hx hb hK hP (38) 1 rfl rfl (i) (by omega) (by decide) d_R_made_130 ?_
              refine jkV (wr := []) (rnI (As := [.ref x.tpA, .int (nI (x.rE i + 1)), .int (nI (x.rV i))]) (rest := [.ref pp2, .int (nI pz), .ref vq]) hx hb hml hown hE hK (hN _ _ hS) hP hD (v_Winit l D dA H.size ([(vq, .inl (dA 6, x.rlab, .inr (.inr (.inr (.inr gv)))))] ++ ([(nq, .inl (dA 6, x.rlab, .inr (.inr (.inr (.inr (va_up gn pz (some pp)))))))] ++ (VW dA h ad (VS.s_pl x pl12)))) pp2 x.tpA x.tpN x.tape (x.rE i + 1) (x.rV i) (List.mem_of_getElem? (i := 3) rfl) hby (show (x.rE i + 1) ≤ (x.rV i) from by omega) (show (x.rV i) ≤ x.tpN from by omega) (show x.tpN ≤ 131072 from by omega)) w1308 w1316 w1309 w1281 rfl rfl rfl ⟨⟨by decide, by decide⟩, rfl⟩ ⟨(Nat.le_of_ble_eq_true rfl), (Nat.le_of_ble_eq_true rfl)⟩ rfl hl.1 rfl (Nat.le_of_ble_eq_true rfl) d_R_made_131 ⟨(show 2 + 4 * i + 1 + 1 + 1 + 1 ≤ 32 by omega), (show 2 * x.rlab + 50 * i + 1 + ((x.rE i) - (x.rS i)) + 1 + ((x.rV i) - (x.rE i + 1)) ≤ 930 by omega)⟩) hP hD hS hA (fun u17 H locs hp9 hP hD hS => ?_)
              obtain ⟨bq2, g2⟩ := u17
              have hP : va_P D vwCl ([(bq2, .inl (dA 0, (x.rV i) - (x.rE i + 1), .inl g2))] ++ ([(pp2, .inr (10, [.ref bq2]))] ++ ([(vq, .inl (dA 6, x.rlab, .inr (.inr (.inr (.inr gv)))))] ++ ([(nq, .inl (dA 6, x.rlab, .inr (.inr (.inr (.inr (va_up gn pz (some pp)))))))] ++ (VW dA h ad (VS.s_pl x pl12)))))) H := hP
              have hD : va_D A ([(bq2, .inl (dA 0, (x.rV i) - (x.rE i + 1), .inl g2))] ++ ([(pp2, .inr (10, [.ref bq2]))] ++ ([(vq, .inl (dA 6, x.rlab, .inr (.inr (.inr (.inr gv)))))] ++ ([(nq, .inl (dA 6, x.rlab, .inr (.inr (.inr (.inr (va_up gn pz (some pp)))))))] ++ (VW dA h ad (VS.s_pl x pl12)))))) := hD
              obtain ⟨f_y_18, f_hg_19⟩ := hp9
              refine nqst (r := ("SeriesVault$Word", TW, 1)) (f := gv) (n := x.rlab) hx hb hK hP hD hS (2) 6 (1) 10 rfl rfl rfl rfl (pz) (by omega) (by omega) d_R_made_134 (fun H locs hP hD hS => ?_)
              have hP : va_P D vwCl ([(bq2, .inl (dA 0, (x.rV i) - (x.rE i + 1), .inl g2))] ++ ([(pp2, .inr (10, [.ref bq2]))] ++ ([(vq, .inl (dA 6, x.rlab, .inr (.inr (.inr (.inr (va_up gv pz (some pp2)))))))] ++ ([(nq, .inl (dA 6, x.rlab, .inr (.inr (.inr (.inr (va_up gn pz (some pp)))))))] ++ (VW dA h ad (VS.s_pl x pl12)))))) H := hP
              have hD : va_D A ([(bq2, .inl (dA 0, (x.rV i) - (x.rE i + 1), .inl g2))] ++ ([(pp2, .inr (10, [.ref bq2]))] ++ ([(vq, .inl (dA 6, x.rlab, .inr (.inr (.inr (.inr (va_up gv pz (some pp2)))))))] ++ ([(nq, .inl (dA 6, x.rlab, .inr (.inr (.inr (.inr (va_up gn pz (some pp)))))))] ++ (VW dA h ad (VS.s_pl x pl12)))))) := hD
              have hP := pmP (show List.Perm (α := Nat × va_E) ([(bq2, .inl (dA 0, (x.rV i) - (x.rE i + 1), .inl g2))] ++ ([(pp2, .inr (10, [.ref bq2]))] ++ ([(vq, .inl (dA 6, x.rlab, .inr (.inr (.inr (.inr (va_up gv pz (some pp2)))))))] ++ ([(nq, .inl (dA 6, x.rlab, .inr (.inr (.inr (.inr (va_up gn pz (some pp)))))))] ++ (VW dA h ad (VS.s_pl x pl12)))))) ([(vq, .inl (dA 6, x.rlab, .inr (.inr (.inr (.inr (va_up gv pz (some pp2)))))))] ++ ([(bq2, .inl (dA 0, (x.rV i) - (x.rE i + 1), .inl g2))] ++ ([(pp2, .inr (10, [.ref bq2]))] ++ ([(nq, .inl (dA 6, x.rlab, .inr (.inr (.inr (.inr (va_up gn pz (some pp)))))))] ++ (VW dA h ad (VS.s_pl x pl12)))))) from (List.Perm.append_left ([(bq2, .inl (dA 0, (x.rV i) - (x.rE i + 1), .inl g2))]) (List.perm_append_comm_assoc ([(pp2, .inr (10, [.ref bq2]))]) ([(vq, .inl (dA 6, x.rlab, .inr (.inr (.inr (.inr (va_up gv pz (some pp2)))))))]) ([(nq, .inl (dA 6, x.rlab, .inr (.inr (.inr (.inr (va_up gn pz (some pp)))))))] ++ (VW dA h ad (VS.s_pl x pl12))))).trans (List.perm_append_comm_assoc ([(bq2, .inl (dA 0, (x.rV i) - (x.rE i + 1), .inl g2))]) ([(vq, .inl (dA 6, x.rlab, .inr (.inr (.inr (.inr (va_up gv pz (some pp2)))))))]) ([(pp2, .inr (10, [.ref bq2]))] ++ ([(nq, .inl (dA 6, x.rlab, .inr (.inr (.inr (.inr (va_up gn pz (some pp)))))))] ++ (VW dA h ad (VS.s_pl x pl12)))))) hP
              have hD := pmD (show List.Perm (α := Nat × va_E) ([(bq2, .inl (dA 0, (x.rV i) - (x.rE i + 1), .inl g2))] ++ ([(pp2, .inr (10, [.ref bq2]))] ++ ([(vq, .inl (dA 6, x.rlab, .inr (.inr (.inr (.inr (va_up gv pz (some pp2)))))))] ++ ([(nq, .inl (dA 6, x.rlab, .inr (.inr (.inr (.inr (va_up gn pz (some pp)))))))] ++ (VW dA h ad (VS.s_pl x pl12)))))) ([(vq, .inl (dA 6, x.rlab, .inr (.inr (.inr (.inr (va_up gv pz (some pp2)))))))] ++ ([(bq2, .inl (dA 0, (x.rV i) - (x.rE i + 1), .inl g2))] ++ ([(pp2, .inr (10, [.ref bq2]))] ++ ([(nq, .inl (dA 6, x.rlab, .inr (.inr (.inr (.inr (va_up gn pz (some pp)))))))] ++ (VW dA h ad (VS.s_pl x pl12)))))) from (List.Perm.append_left ([(bq2, .inl (dA 0, (x.rV i) - (x.rE i + 1), .inl g2))]) (List.perm_append_comm_assoc ([(pp2, .inr (10, [.ref bq2]))]) ([(vq, .inl (dA 6, x.rlab, .inr (.inr (.inr (.inr (va_up gv pz (some pp2)))))))]) ([(nq, .inl (dA 6, x.rlab, .inr (.inr (.inr (.inr (va_up gn pz (some pp)))))))] ++ (VW dA h ad (VS.s_pl x pl12))))).trans (List.perm_append_comm_assoc ([(bq2, .inl (dA 0, (x.rV i) - (x.rE i + 1), .inl g2))]) ([(vq, .inl (dA 6, x.rlab, .inr (.inr (.inr (.inr (va_up gv pz (some pp2)))))))]) ([(pp2, .inr (10, [.ref bq2]))] ++ ([(nq, .inl (dA 6, x.rlab, .inr (.inr (.inr (.inr (va_up gn pz (some pp)))))))] ++ (VW dA h ad (VS.s_pl x pl12)))))) hD
              have hP := pmP (show List.Perm (α := Nat × va_E) ([(vq, .inl (dA 6, x.rlab, .inr (.inr (.inr (.inr (va_up gv pz (some pp2)))))))] ++ ([(bq2, .inl (dA 0, (x.rV i) - (x.rE i + 1), .inl g2))] ++ ([(pp2, .inr (10, [.ref bq2]))] ++ ([(nq, .inl (dA 6, x.rlab, .inr (.inr (.inr (.inr (va_up gn pz (some pp)))))))] ++ (VW dA h ad (VS.s_pl x pl12)))))) ([(vq, .inl (dA 6, x.rlab, .inr (.inr (.inr (.inr (va_up gv pz (some pp2)))))))] ++ ([(nq, .inl (dA 6, x.rlab, .inr (.inr (.inr (.inr (va_up gn pz (some pp)))))))] ++ ([(bq2, .inl (dA 0, (x.rV i) - (x.rE i + 1), .inl g2))] ++ ([(pp2, .inr (10, [.ref bq2]))] ++ (VW dA h ad (VS.s_pl x pl12)))))) from List.Perm.append_left ([(vq, .inl (dA 6, x.rlab, .inr (.inr (.inr (.inr (va_up gv pz (some pp2)))))))]) ((List.Perm.append_left ([(bq2, .inl (dA 0, (x.rV i) - (x.rE i + 1), .inl g2))]) (List.perm_append_comm_assoc ([(pp2, .inr (10, [.ref bq2]))]) ([(nq, .inl (dA 6, x.rlab, .inr (.inr (.inr (.inr (va_up gn pz (some pp)))))))]) (VW dA h ad (VS.s_pl x pl12)))).trans (List.perm_append_comm_assoc ([(bq2, .inl (dA 0, (x.rV i) - (x.rE i + 1), .inl g2))]) ([(nq, .inl (dA 6, x.rlab, .inr (.inr (.inr (.inr (va_up gn pz (some pp)))))))]) ([(pp2, .inr (10, [.ref bq2]))] ++ (VW dA h ad (VS.s_pl x pl12)))))) hP
              have hD := pmD (show List.Perm (α := Nat × va_E) ([(vq, .inl (dA 6, x.rlab, .inr (.inr (.inr (.inr (va_up gv pz (some pp2)))))))] ++ ([(bq2, .inl (dA 0, (x.rV i) - (x.rE i + 1), .inl g2))] ++ ([(pp2, .inr (10, [.ref bq2]))] ++ ([(nq, .inl (dA 6, x.rlab, .inr (.inr (.inr (.inr (va_up gn pz (some pp)))))))] ++ (VW dA h ad (VS.s_pl x pl12)))))) ([(vq, .inl (dA 6, x.rlab, .inr (.inr (.inr (.inr (va_up gv pz (some pp2)))))))] ++ ([(nq, .inl (dA 6, x.rlab, .inr (.inr (.inr (.inr (va_up gn pz (some pp)))))))] ++ ([(bq2, .inl (dA 0, (x.rV i) - (x.rE i + 1), .inl g2))] ++ ([(pp2, .inr (10, [.ref bq2]))] ++ (VW dA h ad (VS.s_pl x pl12)))))) from List.Perm.append_left ([(vq, .inl (dA 6, x.rlab, .inr (.inr (.inr (.inr (va_up gv pz (some pp2)))))))]) ((List.Perm.append_left ([(bq2, .inl (dA 0, (x.rV i) - (x.rE i + 1), .inl g2))]) (List.perm_append_comm_assoc ([(pp2, .inr (10, [.ref bq2]))]) ([(nq, .inl (dA 6, x.rlab, .inr (.inr (.inr (.inr (va_up gn pz (some pp)))))))]) (VW dA h ad (VS.s_pl x pl12)))).trans (List.perm_append_comm_assoc ([(bq2, .inl (dA 0, (x.rV i) - (x.rE i + 1), .inl g2))]) ([(nq, .inl (dA 6, x.rlab, .inr (.inr (.inr (.inr (va_up gn pz (some pp)))))))]) ([(pp2, .inr (10, [.ref bq2]))] ++ (VW dA h ad (VS.s_pl x pl12)))))) hD
              have hP : va_P D vwCl ([(vq, .inl (dA 6, x.rlab, .inr (.inr (.inr (.inr (va_up gv pz (some pp2)))))))] ++ ([(nq, .inl (dA 6, x.rlab, .inr (.inr (.inr (.inr (va_up gn pz (some pp)))))))] ++ (VW dA h ad (VS.s_pl x (pl12 ++ ([(bq2, .inl (dA 0, (x.rV i) - (x.rE i + 1), .inl g2))] ++ ([(pp2, .inr (10, [.ref bq2]))]))))))) H := pmP (show List.Perm (α := Nat × va_E) ([(vq, .inl (dA 6, x.rlab, .inr (.inr (.inr (.inr (va_up gv pz (some pp2)))))))] ++ ([(nq, .inl (dA 6, x.rlab, .inr (.inr (.inr (.inr (va_up gn pz (some pp)))))))] ++ ([(bq2, .inl (dA 0, (x.rV i) - (x.rE i + 1), .inl g2))] ++ ([(pp2, .inr (10, [.ref bq2]))] ++ (VW dA h ad (VS.s_pl x pl12)))))) ([(vq, .inl (dA 6, x.rlab, .inr (.inr (.inr (.inr (va_up gv pz (some pp2)))))))] ++ ([(nq, .inl (dA 6, x.rlab, .inr (.inr (.inr (.inr (va_up gn pz (some pp)))))))] ++ (VW dA h ad (VS.s_pl x (pl12 ++ ([(bq2, .inl (dA 0, (x.rV i) - (x.rE i + 1), .inl g2))] ++ ([(pp2, .inr (10, [.ref bq2]))]))))))) from List.Perm.append_left ([(vq, .inl (dA 6, x.rlab, .inr (.inr (.inr (.inr (va_up gv pz (some pp2)))))))]) (List.Perm.append_left ([(nq, .inl (dA 6, x.rlab, .inr (.inr (.inr (.inr (va_up gn pz (some pp)))))))]) (plP2 (dA := dA) (h := h) (ad := ad) (VS.s_pl x pl12) ([(bq2, .inl (dA 0, (x.rV i) - (x.rE i + 1), .inl g2))]) ([(pp2, .inr (10, [.ref bq2]))])))) hP
              have hD : va_D A ([(vq, .inl (dA 6, x.rlab, .inr (.inr (.inr (.inr (va_up gv pz (some pp2)))))))] ++ ([(nq, .inl (dA 6, x.rlab, .inr (.inr (.inr (.inr (va_up gn pz (some pp)))))))] ++ (VW dA h ad (VS.s_pl x (pl12 ++ ([(bq2, .inl (dA 0, (x.rV i) - (x.rE i + 1), .inl g2))] ++ ([(pp2, .inr (10, [.ref bq2]))]))))))) := pmD (show List.Perm (α := Nat × va_E) ([(vq, .inl (dA 6, x.rlab, .inr (.inr (.inr (.inr (va_up gv pz (some pp2)))))))] ++ ([(nq, .inl (dA 6, x.rlab, .inr (.inr (.inr (.inr (va_up gn pz (some pp)))))))] ++ ([(bq2, .inl (dA 0, (x.rV i) - (x.rE i + 1), .inl g2))] ++ ([(pp2, .inr (10, [.ref bq2]))] ++ (VW dA h ad (VS.s_pl x pl12)))))) ([(vq, .inl (dA 6, x.rlab, .inr (.inr (.inr (.inr (va_up gv pz (some pp2)))))))] ++ ([(nq, .inl (dA 6, x.rlab, .inr (.inr (.inr (.inr (va_up gn pz (some pp)))))))] ++ (VW dA h ad (VS.s_pl x (pl12 ++ ([(bq2, .inl (dA 0, (x.rV i) - (x.rE i + 1), .inl g2))] ++ ([(pp2, .inr (10, [.ref bq2]))]))))))) from List.Perm.append_left ([(vq, .inl (dA 6, x.rlab, .inr (.inr (.inr (.inr (va_up gv pz (some pp2)))))))]) (List.Perm.append_left ([(nq, .inl (dA 6, x.rlab, .inr (.inr (.inr (.inr (va_up gn pz (some pp)))))))]) (plP2 (dA := dA) (h := h) (ad := ad) (VS.s_pl x pl12) ([(bq2, .inl (dA 0, (x.rV i) - (x.rE i + 1), .inl g2))]) ([(pp2, .inr (10, [.ref bq2]))])))) hD
              obtain ⟨pl20, e_pl20⟩ : ∃ z, z = pl12 ++ ([(bq2, .inl (dA 0, (x.rV i) - (x.rE i + 1), .inl g2))] ++ ([(pp2, .inr (10, [.ref bq2]))])) := ⟨_, rfl⟩
              rw [← e_pl20] at hP hD
              have s_pl20 : ∀ c, c ∈ pl12 → c ∈ pl20 := by rw [e_pl20]; exact fun _ hm => List.mem_append_left _ hm
              have t_pl20_0 : ((bq2, .inl (dA 0, (x.rV i) - (x.rE i + 1), .inl g2)) : Nat × va_E) ∈ pl20 := by rw [e_pl20]; exact List.mem_append_right _ (List.mem_of_getElem? (i := 0) rfl)
              have t_pl20_1 : ((pp2, .inr (10, [.ref bq2])) : Nat × va_E) ∈ pl20 := by rw [e_pl20]; exact List.mem_append_right _ (List.mem_of_getElem? (i := 1) rfl)
              have hP : va_P D vwCl ([(vq, .inl (dA 6, x.rlab, .inr (.inr (.inr (.inr (va_up gv pz (some pp2)))))))] ++ ([(nq, .inl (dA 6, x.rlab, .inr (.inr (.inr (.inr (va_up gn pz (some pp)))))))] ++ (VW dA h ad (VS.s_pl x pl20)))) H := hP
              have hD : va_D A ([(vq, .inl (dA 6, x.rlab, .inr (.inr (.inr (.inr (va_up gv pz (some pp2)))))))] ++ ([(nq, .inl (dA 6, x.rlab, .inr (.inr (.inr (.inr (va_up gn pz (some pp)))))))] ++ (VW dA h ad (VS.s_pl x pl20)))) := hD
              have wpp2 : isWo dA pl20 pp2 (rawL x.tape x.rS x.rE x.rV i).2 := isWo_n t_pl20_1 t_pl20_0 f_y_18 (seg_len _ _ _) (fun k hk => (f_hg_19 k hk).trans (seg_get _ hk).symm)
              have ip0 : insP (rawL x.tape x.rS x.rE x.rV i).1 (srtL x.tape x.rS x.rE x.rV i) (srtL x.tape x.rS x.rE x.rV i).length = pz := by rw [srtL_len, ← ip]; exact insP_n (Or.inl (by omega))
              have hel2 : lbW dA pl20 (va_up gn pz (some pp)) (va_up gv pz (some pp2)) (srtL x.tape x.rS x.rE x.rV (i + 1)) := by
                have h9 := lbW_ins (l := (rawL x.tape x.rS x.rE x.rV i)) (lbW_m s_pl20 hel1) (isWo_m s_pl20 wpp) wpp2
                rw [ip0, srtL_len] at h9
                rw [en, ev]
                exact h9
              have hs2 : ∀ c, c ∈ x.pl → c ∈ pl20 := fun c hc => s_pl20 c (hs1 c hc)
              refine lv_iinc (k := 6) (v := nI (i + 1)) hx hb d_R_made_135 hl rfl (iincN (i) 1 1 (by decide)) (by decide) rfl (fun ls hl => ?_)
              have hl : lv_has ls 7 [(4, .int (nI (i + 1))), (6, .int (nI pz)), (5, .ref pp), (0, .ref (ad 18)), (1, .ref x.tpA), (2, .ref nq), (3, .ref vq)] := hl
              refine lv_goto hx hb d_R_made_138 (tgt := 19) rfl ?_
              refine W.widen (k := 2 + 4 * (i + 1)) (n := 2 * x.rlab + 50 * (i + 1)) (show 2 + 4 * i + 1 + 1 + 1 + 1 ≤ 2 + 4 * (i + 1) from by omega) (show 2 * x.rlab + 50 * i + 1 + ((x.rE i) - (x.rS i)) + 1 + ((x.rV i) - (x.rE i + 1)) ≤ 2 * x.rlab + 50 * (i + 1) from by omega) ?_
              exact ih19 _ (by omega) (i + 1) (va_up gn pz (some pp)) (va_up gv pz (some pp2)) pl20 (by omega) hs2 hel2 rfl H _ ls hP hD hS (lv_sub hl [3, 4, 5, 6, 0] rfl)
            · have g13 := mt (nI_leI (a := pz) (b := 0) (by omega) (by decide)).mpr g13
              obtain ⟨p1, q1, e1, w1, e2, w2⟩ := hel1 (pz - 1) (by rw [srtL_len]; omega)
              have w1c := w1
              have w2c := w2
              obtain ⟨bb1, ff1, kk1, kk2, yy1, hff1⟩ := w1c
              obtain ⟨bb2, ff2, kk3, kk4, yy2, hff2⟩ := w2c
              have sk := srt_ok (f := x.tape) h5 (i := i) (by omega) (pz - 1) (by omega)
              refine lv_aload_n hx hb d_R_made_61 rfl (lv_at hl 4 rfl) ?_
              refine lv_iload hx hb d_R_made_62 (lv_at hl 0 rfl) ?_
              refine lv_iconst (v := 1) hx hb d_R_made_64 (by decide) ?_
              refine lv_isub hx hb d_R_made_65 (tpi (y := nI (pz - 1)) (pk_sub (a := pz) (b := 1) (by omega)) ?_)
              refine nqld (f := gn) (n := x.rlab) hx hb hK hP (1) 6 rfl rfl (pz - 1) (by omega) (by omega) (by rw [en]; exact (shU_lt fn (by omega)).trans e1) d_R_made_66 ?_
              refine lv_aload hx hb d_R_made_67 (lv_at hl 1 rfl) ?_
              obtain ⟨qp21, ep22⟩ := List.getElem?_of_mem (show ((p1, .inr (10, [.ref bb1])) : Nat × va_E) ∈ [(vq, .inl (dA 6, x.rlab, .inr (.inr (.inr (.inr gv)))))] ++ ([(nq, .inl (dA 6, x.rlab, .inr (.inr (.inr (.inr gn)))))] ++ (VW dA h ad (VS.s_pl x pl12))) from (List.mem_append_right _ (List.mem_append_right _ (plm kk1))))
              refine jkI (wr := []) (rnV (As := [.ref pp]) (rest := []) hx hb hml hown hE hK (hN _ _ hS) hP hD (v_Wcmp l D dA H.size ([(vq, .inl (dA 6, x.rlab, .inr (.inr (.inr (.inr gv)))))] ++ ([(nq, .inl (dA 6, x.rlab, .inr (.inr (.inr (.inr gn)))))] ++ (VW dA h ad (VS.s_pl x pl12)))) p1 ((lab (srtL x.tape x.rS x.rE x.rV i) (pz - 1)).1) pp ((rawL x.tape x.rS x.rE x.rV i).1) (isWo_m (fun _ hm => (List.mem_append_right _ (List.mem_append_right _ (plm hm)))) w1) (show (lab (srtL x.tape x.rS x.rE x.rV i) (pz - 1)).1.length ≤ 65536 by omega) (isWo_m (fun _ hm => (List.mem_append_right _ (List.mem_append_right _ (plm hm)))) wpp) (show (seg x.tape (x.rS i) (x.rE i)).length ≤ 65536 by rw [seg_len]; omega)) (q0 := qp21) ep22 rfl w1318 w1317 w1319 w1320 w1281 rfl rfl ⟨⟨by decide, by decide⟩, rfl⟩ ⟨(Nat.le_of_ble_eq_true rfl), (Nat.le_of_ble_eq_true rfl)⟩ rfl hl.1 rfl (Nat.le_of_ble_eq_true rfl) d_R_made_69 ⟨(show 2 + 4 * i + 1 + 1 + 0 ≤ 32 by omega), (show 2 * x.rlab + 50 * i + 1 + ((x.rE i) - (x.rS i)) + 0 ≤ 930 by omega)⟩) hP hD hS hA (fun r23 u24 H locs hp9 hP hD hS => ?_)
              have hP : va_P D vwCl ([(vq, .inl (dA 6, x.rlab, .inr (.inr (.inr (.inr gv)))))] ++ ([(nq, .inl (dA 6, x.rlab, .inr (.inr (.inr (.inr gn)))))] ++ (VW dA h ad (VS.s_pl x pl12)))) H := hP
              have hD : va_D A ([(vq, .inl (dA 6, x.rlab, .inr (.inr (.inr (.inr gv)))))] ++ ([(nq, .inl (dA 6, x.rlab, .inr (.inr (.inr (.inr gn)))))] ++ (VW dA h ad (VS.s_pl x pl12)))) := hD
              replace hp9 : cmpW ((lab (srtL x.tape x.rS x.rE x.rV i) (pz - 1)).1) ((rawL x.tape x.rS x.rE x.rV i).1) = r23 := Eq.symm hp9
              subst hp9
              refine lv_if_le hx hb d_R_made_72 (tgt := 101) rfl (fun g25 => ?_) (fun g25 => ?_)
              · have g25 := g25
                refine lv_aload_n hx hb d_R_made_101 rfl (lv_at hl 4 rfl) ?_
                refine lv_iload hx hb d_R_made_102 (lv_at hl 0 rfl) ?_
                refine lv_aload hx hb d_R_made_104 (lv_at hl 1 rfl) ?_
                obtain ⟨qp26, ep27⟩ := List.getElem?_of_mem (show ((pp, .inr (10, [.ref bq])) : Nat × va_E) ∈ [(vq, .inl (dA 6, x.rlab, .inr (.inr (.inr (.inr gv)))))] ++ ([(nq, .inl (dA 6, x.rlab, .inr (.inr (.inr (.inr gn)))))] ++ (VW dA h ad (VS.s_pl x pl12))) from (List.mem_append_right _ (List.mem_append_right _ (plm kpp))))
                refine nqst (r := ("SeriesVault$Word", TW, 1)) (f := gn) (n := x.rlab) hx hb hK hP hD hS (1) 6 (qp26) 10 rfl rfl ep27 rfl (pz) (by omega) (by omega) d_R_made_106 (fun H locs hP hD hS => ?_)
                have hP : va_P D vwCl ([(vq, .inl (dA 6, x.rlab, .inr (.inr (.inr (.inr gv)))))] ++ ([(nq, .inl (dA 6, x.rlab, .inr (.inr (.inr (.inr (va_up gn pz (some pp)))))))] ++ (VW dA h ad (VS.s_pl x pl12)))) H := hP
                have hD : va_D A ([(vq, .inl (dA 6, x.rlab, .inr (.inr (.inr (.inr gv)))))] ++ ([(nq, .inl (dA 6, x.rlab, .inr (.inr (.inr (.inr (va_up gn pz (some pp)))))))] ++ (VW dA h ad (VS.s_pl x pl12)))) := hD
                refine lv_aload_n hx hb d_R_made_107 rfl (lv_at hl 5 rfl) ?_
                refine lv_iload hx hb d_R_made_108 (lv_at hl 0 rfl) ?_
                refine nOf hx hb hown hE hK hP hD hS hA (ci := 10) rfl layW tyW tokW w1310 w856 w1281 (fs := [.null]) dfW (show (2 + 4 * i + 1 + 1 + 0) + 1 ≤ 32 by omega) (show (2 * x.rlab + 50 * i + 1 + ((x.rE i) - (x.rS i)) + 0) + 1 ≤ 930 by omega) d_R_made_110 (fun pp2 H hP hD hS => ?_)
                have hP : va_P D vwCl ([(pp2, .inr (10, [.null]))] ++ ([(vq, .inl (dA 6, x.rlab, .inr (.inr (.inr (.inr gv)))))] ++ ([(nq, .inl (dA 6, x.rlab, .inr (.inr (.inr (.inr (va_up gn pz (some pp)))))))] ++ (VW dA h ad (VS.s_pl x pl12))))) H := hP
                have hD : va_D A ([(pp2, .inr (10, [.null]))] ++ ([(vq, .inl (dA 6, x.rlab, .inr (.inr (.inr (.inr gv)))))] ++ ([(nq, .inl (dA 6, x.rlab, .inr (.inr (.inr (.inr (va_up gn pz (some pp)))))))] ++ (VW dA h ad (VS.s_pl x pl12))))) := hD
                refine lv_dup hx hb d_R_made_113 rfl ?_
                refine lv_aload_n hx hb d_R_made_114 rfl (lv_at hl 3 rfl) ?_
                refine lv_aload_n hx hb d_R_made_115 rfl (lv_at hl 2 rfl) ?_
                refine gF (v := .ref (ad 20)) hx hb hown hE hK hP 35 rfl rfl layR 1 (by decide) w207 rfl d_R_made_116 ?_
                refine lv_iload hx hb d_R_made_119 (lv_at hl 6 rfl) ?_
                refine nild (f := (fun z9 => nI (x.rE z9))) (n := 6) hx hb hK hP (37) 1 rfl rfl (i) (by omega) (by decide) d_R_made_121 ?_
                refine lv_iconst (v := 1) hx hb d_R_made_122 (by decide) ?_
                refine lv_iadd hx hb d_R_made_123 (tpi (y := nI (x.rE i + 1)) (nI_add (x.rE i) (1)) ?_)
                refine lv_aload_n hx hb d_R_made_124 rfl (lv_at hl 2 rfl) ?_
                refine gF (v := .ref (ad 21)) hx hb hown hE hK hP 35 rfl rfl layR 2 (by decide) w208 rfl d_R_made_125 ?_
                refine lv_iload hx hb d_R_made_128 (lv_at hl 6 rfl) ?_
                refine nild (f := (fun z9 => nI (x.rV z9))) (n := 6) hx hb hK hP (38) 1 rfl rfl (i) (by omega) (by decide) d_R_made_130 ?_
                refine jkV (wr := []) (rnI (As := [.ref x.tpA, .int (nI (x.rE i + 1)), .int (nI (x.rV i))]) (rest := [.ref pp2, .int (nI pz), .ref vq]) hx hb hml hown hE hK (hN _ _ hS) hP hD (v_Winit l D dA H.size ([(vq, .inl (dA 6, x.rlab, .inr (.inr (.inr (.inr gv)))))] ++ ([(nq, .inl (dA 6, x.rlab, .inr (.inr (.inr (.inr (va_up gn pz (some pp)))))))] ++ (VW dA h ad (VS.s_pl x pl12)))) pp2 x.tpA x.tpN x.tape (x.rE i + 1) (x.rV i) (List.mem_of_getElem? (i := 3) rfl) hby (show (x.rE i + 1) ≤ (x.rV i) from by omega) (show (x.rV i) ≤ x.tpN from by omega) (show x.tpN ≤ 131072 from by omega)) w1308 w1316 w1309 w1281 rfl rfl rfl ⟨⟨by decide, by decide⟩, rfl⟩ ⟨(Nat.le_of_ble_eq_true rfl), (Nat.le_of_ble_eq_true rfl)⟩ rfl hl.1 rfl (Nat.le_of_ble_eq_true rfl) d_R_made_131 ⟨(show 2 + 4 * i + 1 + 1 + 0 + 1 + 1 ≤ 32 by omega), (show 2 * x.rlab + 50 * i + 1 + ((x.rE i) - (x.rS i)) + 0 + 1 + ((x.rV i) - (x.rE i + 1)) ≤ 930 by omega)⟩) hP hD hS hA (fun u29 H locs hp9 hP hD hS => ?_)
                obtain ⟨bq2, g2⟩ := u29
                have hP : va_P D vwCl ([(bq2, .inl (dA 0, (x.rV i) - (x.rE i + 1), .inl g2))] ++ ([(pp2, .inr (10, [.ref bq2]))] ++ ([(vq, .inl (dA 6, x.rlab, .inr (.inr (.inr (.inr gv)))))] ++ ([(nq, .inl (dA 6, x.rlab, .inr (.inr (.inr (.inr (va_up gn pz (some pp)))))))] ++ (VW dA h ad (VS.s_pl x pl12)))))) H := hP
                have hD : va_D A ([(bq2, .inl (dA 0, (x.rV i) - (x.rE i + 1), .inl g2))] ++ ([(pp2, .inr (10, [.ref bq2]))] ++ ([(vq, .inl (dA 6, x.rlab, .inr (.inr (.inr (.inr gv)))))] ++ ([(nq, .inl (dA 6, x.rlab, .inr (.inr (.inr (.inr (va_up gn pz (some pp)))))))] ++ (VW dA h ad (VS.s_pl x pl12)))))) := hD
                obtain ⟨f_y_30, f_hg_31⟩ := hp9
                refine nqst (r := ("SeriesVault$Word", TW, 1)) (f := gv) (n := x.rlab) hx hb hK hP hD hS (2) 6 (1) 10 rfl rfl rfl rfl (pz) (by omega) (by omega) d_R_made_134 (fun H locs hP hD hS => ?_)
                have hP : va_P D vwCl ([(bq2, .inl (dA 0, (x.rV i) - (x.rE i + 1), .inl g2))] ++ ([(pp2, .inr (10, [.ref bq2]))] ++ ([(vq, .inl (dA 6, x.rlab, .inr (.inr (.inr (.inr (va_up gv pz (some pp2)))))))] ++ ([(nq, .inl (dA 6, x.rlab, .inr (.inr (.inr (.inr (va_up gn pz (some pp)))))))] ++ (VW dA h ad (VS.s_pl x pl12)))))) H := hP
                have hD : va_D A ([(bq2, .inl (dA 0, (x.rV i) - (x.rE i + 1), .inl g2))] ++ ([(pp2, .inr (10, [.ref bq2]))] ++ ([(vq, .inl (dA 6, x.rlab, .inr (.inr (.inr (.inr (va_up gv pz (some pp2)))))))] ++ ([(nq, .inl (dA 6, x.rlab, .inr (.inr (.inr (.inr (va_up gn pz (some pp)))))))] ++ (VW dA h ad (VS.s_pl x pl12)))))) := hD
                have hP := pmP (show List.Perm (α := Nat × va_E) ([(bq2, .inl (dA 0, (x.rV i) - (x.rE i + 1), .inl g2))] ++ ([(pp2, .inr (10, [.ref bq2]))] ++ ([(vq, .inl (dA 6, x.rlab, .inr (.inr (.inr (.inr (va_up gv pz (some pp2)))))))] ++ ([(nq, .inl (dA 6, x.rlab, .inr (.inr (.inr (.inr (va_up gn pz (some pp)))))))] ++ (VW dA h ad (VS.s_pl x pl12)))))) ([(vq, .inl (dA 6, x.rlab, .inr (.inr (.inr (.inr (va_up gv pz (some pp2)))))))] ++ ([(bq2, .inl (dA 0, (x.rV i) - (x.rE i + 1), .inl g2))] ++ ([(pp2, .inr (10, [.ref bq2]))] ++ ([(nq, .inl (dA 6, x.rlab, .inr (.inr (.inr (.inr (va_up gn pz (some pp)))))))] ++ (VW dA h ad (VS.s_pl x pl12)))))) from (List.Perm.append_left ([(bq2, .inl (dA 0, (x.rV i) - (x.rE i + 1), .inl g2))]) (List.perm_append_comm_assoc ([(pp2, .inr (10, [.ref bq2]))]) ([(vq, .inl (dA 6, x.rlab, .inr (.inr (.inr (.inr (va_up gv pz (some pp2)))))))]) ([(nq, .inl (dA 6, x.rlab, .inr (.inr (.inr (.inr (va_up gn pz (some pp)))))))] ++ (VW dA h ad (VS.s_pl x pl12))))).trans (List.perm_append_comm_assoc ([(bq2, .inl (dA 0, (x.rV i) - (x.rE i + 1), .inl g2))]) ([(vq, .inl (dA 6, x.rlab, .inr (.inr (.inr (.inr (va_up gv pz (some pp2)))))))]) ([(pp2, .inr (10, [.ref bq2]))] ++ ([(nq, .inl (dA 6, x.rlab, .inr (.inr (.inr (.inr (va_up gn pz (some pp)))))))] ++ (VW dA h ad (VS.s_pl x pl12)))))) hP
                have hD := pmD (show List.Perm (α := Nat × va_E) ([(bq2, .inl (dA 0, (x.rV i) - (x.rE i + 1), .inl g2))] ++ ([(pp2, .inr (10, [.ref bq2]))] ++ ([(vq, .inl (dA 6, x.rlab, .inr (.inr (.inr (.inr (va_up gv pz (some pp2)))))))] ++ ([(nq, .inl (dA 6, x.rlab, .inr (.inr (.inr (.inr (va_up gn pz (some pp)))))))] ++ (VW dA h ad (VS.s_pl x pl12)))))) ([(vq, .inl (dA 6, x.rlab, .inr (.inr (.inr (.inr (va_up gv pz (some pp2)))))))] ++ ([(bq2, .inl (dA 0, (x.rV i) - (x.rE i + 1), .inl g2))] ++ ([(pp2, .inr (10, [.ref bq2]))] ++ ([(nq, .inl (dA 6, x.rlab, .inr (.inr (.inr (.inr (va_up gn pz (some pp)))))))] ++ (VW dA h ad (VS.s_pl x pl12)))))) from (List.Perm.append_left ([(bq2, .inl (dA 0, (x.rV i) - (x.rE i + 1), .inl g2))]) (List.perm_append_comm_assoc ([(pp2, .inr (10, [.ref bq2]))]) ([(vq, .inl (dA 6, x.rlab, .inr (.inr (.inr (.inr (va_up gv pz (some pp2)))))))]) ([(nq, .inl (dA 6, x.rlab, .inr (.inr (.inr (.inr (va_up gn pz (some pp)))))))] ++ (VW dA h ad (VS.s_pl x pl12))))).trans (List.perm_append_comm_assoc ([(bq2, .inl (dA 0, (x.rV i) - (x.rE i + 1), .inl g2))]) ([(vq, .inl (dA 6, x.rlab, .inr (.inr (.inr (.inr (va_up gv pz (some pp2)))))))]) ([(pp2, .inr (10, [.ref bq2]))] ++ ([(nq, .inl (dA 6, x.rlab, .inr (.inr (.inr (.inr (va_up gn pz (some pp)))))))] ++ (VW dA h ad (VS.s_pl x pl12)))))) hD
                have hP := pmP (show List.Perm (α := Nat × va_E) ([(vq, .inl (dA 6, x.rlab, .inr (.inr (.inr (.inr (va_up gv pz (some pp2)))))))] ++ ([(bq2, .inl (dA 0, (x.rV i) - (x.rE i + 1), .inl g2))] ++ ([(pp2, .inr (10, [.ref bq2]))] ++ ([(nq, .inl (dA 6, x.rlab, .inr (.inr (.inr (.inr (va_up gn pz (some pp)))))))] ++ (VW dA h ad (VS.s_pl x pl12)))))) ([(vq, .inl (dA 6, x.rlab, .inr (.inr (.inr (.inr (va_up gv pz (some pp2)))))))] ++ ([(nq, .inl (dA 6, x.rlab, .inr (.inr (.inr (.inr (va_up gn pz (some pp)))))))] ++ ([(bq2, .inl (dA 0, (x.rV i) - (x.rE i + 1), .inl g2))] ++ ([(pp2, .inr (10, [.ref bq2]))] ++ (VW dA h ad (VS.s_pl x pl12)))))) from List.Perm.append_left ([(vq, .inl (dA 6, x.rlab, .inr (.inr (.inr (.inr (va_up gv pz (some pp2)))))))]) ((List.Perm.append_left ([(bq2, .inl (dA 0, (x.rV i) - (x.rE i + 1), .inl g2))]) (List.perm_append_comm_assoc ([(pp2, .inr (10, [.ref bq2]))]) ([(nq, .inl (dA 6, x.rlab, .inr (.inr (.inr (.inr (va_up gn pz (some pp)))))))]) (VW dA h ad (VS.s_pl x pl12)))).trans (List.perm_append_comm_assoc ([(bq2, .inl (dA 0, (x.rV i) - (x.rE i + 1), .inl g2))]) ([(nq, .inl (dA 6, x.rlab, .inr (.inr (.inr (.inr (va_up gn pz (some pp)))))))]) ([(pp2, .inr (10, [.ref bq2]))] ++ (VW dA h ad (VS.s_pl x pl12)))))) hP
                have hD := pmD (show List.Perm (α := Nat × va_E) ([(vq, .inl (dA 6, x.rlab, .inr (.inr (.inr (.inr (va_up gv pz (some pp2)))))))] ++ ([(bq2, .inl (dA 0, (x.rV i) - (x.rE i + 1), .inl g2))] ++ ([(pp2, .inr (10, [.ref bq2]))] ++ ([(nq, .inl (dA 6, x.rlab, .inr (.inr (.inr (.inr (va_up gn pz (some pp)))))))] ++ (VW dA h ad (VS.s_pl x pl12)))))) ([(vq, .inl (dA 6, x.rlab, .inr (.inr (.inr (.inr (va_up gv pz (some pp2)))))))] ++ ([(nq, .inl (dA 6, x.rlab, .inr (.inr (.inr (.inr (va_up gn pz (some pp)))))))] ++ ([(bq2, .inl (dA 0, (x.rV i) - (x.rE i + 1), .inl g2))] ++ ([(pp2, .inr (10, [.ref bq2]))] ++ (VW dA h ad (VS.s_pl x pl12)))))) from List.Perm.append_left ([(vq, .inl (dA 6, x.rlab, .inr (.inr (.inr (.inr (va_up gv pz (some pp2)))))))]) ((List.Perm.append_left ([(bq2, .inl (dA 0, (x.rV i) - (x.rE i + 1), .inl g2))]) (List.perm_append_comm_assoc ([(pp2, .inr (10, [.ref bq2]))]) ([(nq, .inl (dA 6, x.rlab, .inr (.inr (.inr (.inr (va_up gn pz (some pp)))))))]) (VW dA h ad (VS.s_pl x pl12)))).trans (List.perm_append_comm_assoc ([(bq2, .inl (dA 0, (x.rV i) - (x.rE i + 1), .inl g2))]) ([(nq, .inl (dA 6, x.rlab, .inr (.inr (.inr (.inr (va_up gn pz (some pp)))))))]) ([(pp2, .inr (10, [.ref bq2]))] ++ (VW dA h ad (VS.s_pl x pl12)))))) hD
                have hP : va_P D vwCl ([(vq, .inl (dA 6, x.rlab, .inr (.inr (.inr (.inr (va_up gv pz (some pp2)))))))] ++ ([(nq, .inl (dA 6, x.rlab, .inr (.inr (.inr (.inr (va_up gn pz (some pp)))))))] ++ (VW dA h ad (VS.s_pl x (pl12 ++ ([(bq2, .inl (dA 0, (x.rV i) - (x.rE i + 1), .inl g2))] ++ ([(pp2, .inr (10, [.ref bq2]))]))))))) H := pmP (show List.Perm (α := Nat × va_E) ([(vq, .inl (dA 6, x.rlab, .inr (.inr (.inr (.inr (va_up gv pz (some pp2)))))))] ++ ([(nq, .inl (dA 6, x.rlab, .inr (.inr (.inr (.inr (va_up gn pz (some pp)))))))] ++ ([(bq2, .inl (dA 0, (x.rV i) - (x.rE i + 1), .inl g2))] ++ ([(pp2, .inr (10, [.ref bq2]))] ++ (VW dA h ad (VS.s_pl x pl12)))))) ([(vq, .inl (dA 6, x.rlab, .inr (.inr (.inr (.inr (va_up gv pz (some pp2)))))))] ++ ([(nq, .inl (dA 6, x.rlab, .inr (.inr (.inr (.inr (va_up gn pz (some pp)))))))] ++ (VW dA h ad (VS.s_pl x (pl12 ++ ([(bq2, .inl (dA 0, (x.rV i) - (x.rE i + 1), .inl g2))] ++ ([(pp2, .inr (10, [.ref bq2]))]))))))) from List.Perm.append_left ([(vq, .inl (dA 6, x.rlab, .inr (.inr (.inr (.inr (va_up gv pz (some pp2)))))))]) (List.Perm.append_left ([(nq, .inl (dA 6, x.rlab, .inr (.inr (.inr (.inr (va_up gn pz (some pp)))))))]) (plP2 (dA := dA) (h := h) (ad := ad) (VS.s_pl x pl12) ([(bq2, .inl (dA 0, (x.rV i) - (x.rE i + 1), .inl g2))]) ([(pp2, .inr (10, [.ref bq2]))])))) hP
                have hD : va_D A ([(vq, .inl (dA 6, x.rlab, .inr (.inr (.inr (.inr (va_up gv pz (some pp2)))))))] ++ ([(nq, .inl (dA 6, x.rlab, .inr (.inr (.inr (.inr (va_up gn pz (some pp)))))))] ++ (VW dA h ad (VS.s_pl x (pl12 ++ ([(bq2, .inl (dA 0, (x.rV i) - (x.rE i + 1), .inl g2))] ++ ([(pp2, .inr (10, [.ref bq2]))]))))))) := pmD (show List.Perm (α := Nat × va_E) ([(vq, .inl (dA 6, x.rlab, .inr (.inr (.inr (.inr (va_up gv pz (some pp2)))))))] ++ ([(nq, .inl (dA 6, x.rlab, .inr (.inr (.inr (.inr (va_up gn pz (some pp)))))))] ++ ([(bq2, .inl (dA 0, (x.rV i) - (x.rE i + 1), .inl g2))] ++ ([(pp2, .inr (10, [.ref bq2]))] ++ (VW dA h ad (VS.s_pl x pl12)))))) ([(vq, .inl (dA 6, x.rlab, .inr (.inr (.inr (.inr (va_up gv pz (some pp2)))))))] ++ ([(nq, .inl (dA 6, x.rlab, .inr (.inr (.inr (.inr (va_up gn pz (some pp)))))))] ++ (VW dA h ad (VS.s_pl x (pl12 ++ ([(bq2, .inl (dA 0, (x.rV i) - (x.rE i + 1), .inl g2))] ++ ([(pp2, .inr (10, [.ref bq2]))]))))))) from List.Perm.append_left ([(vq, .inl (dA 6, x.rlab, .inr (.inr (.inr (.inr (va_up gv pz (some pp2)))))))]) (List.Perm.append_left ([(nq, .inl (dA 6, x.rlab, .inr (.inr (.inr (.inr (va_up gn pz (some pp)))))))]) (plP2 (dA := dA) (h := h) (ad := ad) (VS.s_pl x pl12) ([(bq2, .inl (dA 0, (x.rV i) - (x.rE i + 1), .inl g2))]) ([(pp2, .inr (10, [.ref bq2]))])))) hD
                obtain ⟨pl32, e_pl32⟩ : ∃ z, z = pl12 ++ ([(bq2, .inl (dA 0, (x.rV i) - (x.rE i + 1), .inl g2))] ++ ([(pp2, .inr (10, [.ref bq2]))])) := ⟨_, rfl⟩
                rw [← e_pl32] at hP hD
                have s_pl32 : ∀ c, c ∈ pl12 → c ∈ pl32 := by rw [e_pl32]; exact fun _ hm => List.mem_append_left _ hm
                have t_pl32_0 : ((bq2, .inl (dA 0, (x.rV i) - (x.rE i + 1), .inl g2)) : Nat × va_E) ∈ pl32 := by rw [e_pl32]; exact List.mem_append_right _ (List.mem_of_getElem? (i := 0) rfl)
                have t_pl32_1 : ((pp2, .inr (10, [.ref bq2])) : Nat × va_E) ∈ pl32 := by rw [e_pl32]; exact List.mem_append_right _ (List.mem_of_getElem? (i := 1) rfl)
                have hP : va_P D vwCl ([(vq, .inl (dA 6, x.rlab, .inr (.inr (.inr (.inr (va_up gv pz (some pp2)))))))] ++ ([(nq, .inl (dA 6, x.rlab, .inr (.inr (.inr (.inr (va_up gn pz (some pp)))))))] ++ (VW dA h ad (VS.s_pl x pl32)))) H := hP
                have hD : va_D A ([(vq, .inl (dA 6, x.rlab, .inr (.inr (.inr (.inr (va_up gv pz (some pp2)))))))] ++ ([(nq, .inl (dA 6, x.rlab, .inr (.inr (.inr (.inr (va_up gn pz (some pp)))))))] ++ (VW dA h ad (VS.s_pl x pl32)))) := hD
                have wpp2 : isWo dA pl32 pp2 (rawL x.tape x.rS x.rE x.rV i).2 := isWo_n t_pl32_1 t_pl32_0 f_y_30 (seg_len _ _ _) (fun k hk => (f_hg_31 k hk).trans (seg_get _ hk).symm)
                have ip0 : insP (rawL x.tape x.rS x.rE x.rV i).1 (srtL x.tape x.rS x.rE x.rV i) (srtL x.tape x.rS x.rE x.rV i).length = pz := by rw [srtL_len, ← ip]; exact insP_n (Or.inr (Int32.not_lt.mpr g25))
                have hel2 : lbW dA pl32 (va_up gn pz (some pp)) (va_up gv pz (some pp2)) (srtL x.tape x.rS x.rE x.rV (i + 1)) := by
                  have h9 := lbW_ins (l := (rawL x.tape x.rS x.rE x.rV i)) (lbW_m s_pl32 hel1) (isWo_m s_pl32 wpp) wpp2
                  rw [ip0, srtL_len] at h9
                  rw [en, ev]
                  exact h9
                have hs2 : ∀ c, c ∈ x.pl → c ∈ pl32 := fun c hc => s_pl32 c (hs1 c hc)
                refine lv_iinc (k := 6) (v := nI (i + 1)) hx hb d_R_made_135 hl rfl (iincN (i) 1 1 (by decide)) (by decide) rfl (fun ls hl => ?_)
                have hl : lv_has ls 7 [(4, .int (nI (i + 1))), (6, .int (nI pz)), (5, .ref pp), (0, .ref (ad 18)), (1, .ref x.tpA), (2, .ref nq), (3, .ref vq)] := hl
                refine lv_goto hx hb d_R_made_138 (tgt := 19) rfl ?_
                refine W.widen (k := 2 + 4 * (i + 1)) (n := 2 * x.rlab + 50 * (i + 1)) (show 2 + 4 * i + 1 + 1 + 0 + 1 + 1 ≤ 2 + 4 * (i + 1) from by omega) (show 2 * x.rlab + 50 * i + 1 + ((x.rE i) - (x.rS i)) + 0 + 1 + ((x.rV i) - (x.rE i + 1)) ≤ 2 * x.rlab + 50 * (i + 1) from by omega) ?_
                exact ih19 _ (by omega) (i + 1) (va_up gn pz (some pp)) (va_up gv pz (some pp2)) pl32 (by omega) hs2 hel2 rfl H _ ls hP hD hS (lv_sub hl [3, 4, 5, 6, 0] rfl)
              · have g25 := g25
                refine lv_aload_n hx hb d_R_made_75 rfl (lv_at hl 4 rfl) ?_
                refine lv_iload hx hb d_R_made_76 (lv_at hl 0 rfl) ?_
                refine lv_aload_n hx hb d_R_made_78 rfl (lv_at hl 4 rfl) ?_
                refine lv_iload hx hb d_R_made_79 (lv_at hl 0 rfl) ?_
                refine lv_iconst (v := 1) hx hb d_R_made_81 (by decide) ?_
                refine lv_isub hx hb d_R_made_82 (tpi (y := nI (pz - 1)) (pk_sub (a := pz) (b := 1) (by omega)) ?_)
                refine nqld (f := gn) (n := x.rlab) hx hb hK hP (1) 6 rfl rfl (pz - 1) (by omega) (by omega) (by rw [en]; exact (shU_lt fn (by omega)).trans e1) d_R_made_83 ?_
                obtain ⟨qp33, ep34⟩ := List.getElem?_of_mem (show ((p1, .inr (10, [.ref bb1])) : Nat × va_E) ∈ [(vq, .inl (dA 6, x.rlab, .inr (.inr (.inr (.inr gv)))))] ++ ([(nq, .inl (dA 6, x.rlab, .inr (.inr (.inr (.inr gn)))))] ++ (VW dA h ad (VS.s_pl x pl12))) from (List.mem_append_right _ (List.mem_append_right _ (plm kk1))))
                refine nqst (r := ("SeriesVault$Word", TW, 1)) (f := gn) (n := x.rlab) hx hb hK hP hD hS (1) 6 (qp33) 10 rfl rfl ep34 rfl (pz) (by omega) (by omega) d_R_made_84 (fun H locs hP hD hS => ?_)
                have hP : va_P D vwCl ([(vq, .inl (dA 6, x.rlab, .inr (.inr (.inr (.inr gv)))))] ++ ([(nq, .inl (dA 6, x.rlab, .inr (.inr (.inr (.inr (va_up gn pz (some p1)))))))] ++ (VW dA h ad (VS.s_pl x pl12)))) H := hP
                have hD : va_D A ([(vq, .inl (dA 6, x.rlab, .inr (.inr (.inr (.inr gv)))))] ++ ([(nq, .inl (dA 6, x.rlab, .inr (.inr (.inr (.inr (va_up gn pz (some p1)))))))] ++ (VW dA h ad (VS.s_pl x pl12)))) := hD
                refine lv_aload_n hx hb d_R_made_85 rfl (lv_at hl 5 rfl) ?_
                refine lv_iload hx hb d_R_made_86 (lv_at hl 0 rfl) ?_
                refine lv_aload_n hx hb d_R_made_88 rfl (lv_at hl 5 rfl) ?_
                refine lv_iload hx hb d_R_made_89 (lv_at hl 0 rfl) ?_
                refine lv_iconst (v := 1) hx hb d_R_made_91 (by decide) ?_
                refine lv_isub hx hb d_R_made_92 (tpi (y := nI (pz - 1)) (pk_sub (a := pz) (b := 1) (by omega)) ?_)
                refine nqld (f := gv) (n := x.rlab) hx hb hK hP (0) 6 rfl rfl (pz - 1) (by omega) (by omega) (by rw [ev]; exact (shU_lt fv (by omega)).trans e2) d_R_made_93 ?_
                obtain ⟨qp35, ep36⟩ := List.getElem?_of_mem (show ((q1, .inr (10, [.ref bb2])) : Nat × va_E) ∈ [(vq, .inl (dA 6, x.rlab, .inr (.inr (.inr (.inr gv)))))] ++ ([(nq, .inl (dA 6, x.rlab, .inr (.inr (.inr (.inr (va_up gn pz (some p1)))))))] ++ (VW dA h ad (VS.s_pl x pl12))) from (List.mem_append_right _ (List.mem_append_right _ (plm kk3))))
                refine nqst (r := ("SeriesVault$Word", TW, 1)) (f := gv) (n := x.rlab) hx hb hK hP hD hS (0) 6 (qp35) 10 rfl rfl ep36 rfl (pz) (by omega) (by omega) d_R_made_94 (fun H locs hP hD hS => ?_)
                have hP : va_P D vwCl ([(vq, .inl (dA 6, x.rlab, .inr (.inr (.inr (.inr (va_up gv pz (some q1)))))))] ++ ([(nq, .inl (dA 6, x.rlab, .inr (.inr (.inr (.inr (va_up gn pz (some p1)))))))] ++ (VW dA h ad (VS.s_pl x pl12)))) H := hP
                have hD : va_D A ([(vq, .inl (dA 6, x.rlab, .inr (.inr (.inr (.inr (va_up gv pz (some q1)))))))] ++ ([(nq, .inl (dA 6, x.rlab, .inr (.inr (.inr (.inr (va_up gn pz (some p1)))))))] ++ (VW dA h ad (VS.s_pl x pl12)))) := hD
                refine lv_iinc (k := 0) (v := nI (pz - 1)) hx hb d_R_made_95 hl rfl (iincM (by omega)) (by decide) rfl (fun ls hl => ?_)
                have hl : lv_has ls 7 [(6, .int (nI (pz - 1))), (5, .ref pp), (0, .ref (ad 18)), (1, .ref x.tpA), (2, .ref nq), (3, .ref vq), (4, .int (nI i))] := hl
                refine lv_goto hx hb d_R_made_98 (tgt := 56) rfl ?_
                exact ih56 _ (by omega) (pz - 1) (va_up gn pz (some p1)) (va_up gv pz (some q1)) (by omega) (by rw [en]; exact shU_s (by omega) pi e1.symm) (by rw [ev]; exact shU_s (by omega) pi e2.symm) (by rw [← ip, insP_y (by omega) (Int32.not_le.mp g25)]) rfl H _ ls hP hD hS (lv_sub hl [0, 1, 2, 3, 4, 5, 6] rfl)
        exact L56 _ i fn fv (by omega) (shU_0 fn i).symm (shU_0 fv i).symm rfl rfl H _ ls hP hD hS (lv_sub hl [0, 1, 2, 3, 4, 5, 6] rfl)
  refine W.widen (k := 2 + 4 * 0) (n := 2 * x.rlab + 50 * 0) (show 0 + 1 + 1 ≤ 2 + 4 * 0 from by omega) (show 0 + x.rlab + x.rlab ≤ 2 * x.rlab + 50 * 0 from by omega) ?_
  exact L19 _ 0 (fun _ => none) (fun _ => none) x.pl (Nat.zero_le _) (fun _ hc => hc) (fun k hk => absurd hk (Nat.not_lt_zero k)) rfl H _ ls hP hD hS (lv_sub hl [3, 4, 2, 1, 0] rfl)
