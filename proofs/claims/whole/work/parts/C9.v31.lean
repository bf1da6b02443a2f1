theorem psOk_m {dA : Nat → ClassId} {nP : Nat → Option Nat} {n : Nat} {pl pl2 : va_W} {PS : Nat → PT} (hs : ∀ c, c ∈ pl → c ∈ pl2) (h : psOk dA nP n pl PS) : psOk dA nP n pl2 PS := by
  intro k hk
  obtain ⟨pp, e, hp, ho⟩ := h k hk
  obtain ⟨o, t, v, m1, m2, m3, m4⟩ := hp
  exact ⟨pp, e, ⟨o, t, v, hs _ m1, hs _ m2, hs _ m3, hs _ m4⟩, ho⟩
theorem psOk_a {dA : Nat → ClassId} {nP : Nat → Option Nat} {n pp : Nat} {pl : va_W} {PS : Nat → PT} {P : PT} (h : psOk dA nP n pl PS) (hp : isPc dA pl pp P) (ho : pcOk P) : psOk dA (va_up nP n (some pp)) (n + 1) pl (va_up PS n P) := by
  intro k hk
  by_cases e : k = n
  · subst e
    rw [va_up_self, va_up_self]
    exact ⟨pp, rfl, hp, ho⟩
  · rw [va_up_ne _ _ e, va_up_ne _ _ e]
    exact h k (by omega)
theorem knOk_m {dA : Nat → ClassId} {kn : Nat → Option Nat} {n : Nat} {pl pl2 : va_W} {SS : Nat → List LB} (hs : ∀ c, c ∈ pl → c ∈ pl2) (h : knOk dA kn n pl SS) : knOk dA kn n pl2 SS := by
  intro k hk
  obtain ⟨a, e, hp, ho⟩ := h k hk
  exact ⟨a, e, isSer_m hs hp, ho⟩
theorem mkP_ok {n : Nat} {O : Nat → Nat} {T V : Nat → Int64} (hn : n ≤ 12000) (h : ∀ q, O q < 256) : pcOk (mkP n O T V) := ⟨hn, fun i _ => h i⟩
set_option maxHeartbeats 4000000 in
set_option maxRecDepth 100000 in
theorem v_flush_z (l : Launch) (D : va_G) (dA : Nat → ClassId) (sz : Nat) (h : Nat) (ad : Nat → Nat) (x : VS) (ho : x.powered = true) (hj0 : x.jsize = 0) : Met l ⟨"SeriesVault", "flush", "()I"⟩ [Cond.code ⟨"SeriesVault", "flush", "()I"⟩ prog_1_method_36_code 4 (some FieldType.int)] { frames := 2, cells := 0, slots := 0, locals := 20 } (pC D dA [.ref h] (VW dA h ad x) sz) (va_Qi (fun (r9 : Int32) (u9 : Unit) => r9 = 0) (fun (u9 : Unit) t9 => bW D (va_A (VW dA h ad x) sz) (VW dA h ad x) t9) (va_A (VW dA h ad x) sz)) 0 0 (va_A (VW dA h ad x) sz) := by
  refine mkC (y := ⟨"SeriesVault", "flush", "()I"⟩) (cc := prog_1_method_36_code) (maxL := 4) (av := [.ref h]) (ws := VW dA h ad x) (sz := sz) (Qc := fun A => va_Qi (fun (r9 : Int32) (u9 : Unit) => r9 = 0) (fun (u9 : Unit) t9 => bW D A (VW dA h ad x) t9) A) (by decide) (Nat.le_of_ble_eq_true rfl) ?_
  intro A p e s m below meth c ls hsz hB
  obtain ⟨hx, hb, hr, hml, hown, hin, hlk, hE, hK, hP, hD, hS, hA, hN, hl⟩ := hB
  have hown : s.vm.findClass "SeriesVault" = some m.cls := hown
  have hl : lv_has ls 4 [(0, .ref h)] := hl
  obtain ⟨H, hH⟩ : ∃ z, z = s.heap := ⟨_, rfl⟩
  have hP : va_P D vwCl (VW dA h ad x) H := by rw [hH]; exact hP
  have hS : va_S A s.heap H [] := by rw [hH]; exact hS
  rw [← hH]
  refine lv_aload_n hx hb d_V_flush_0 rfl (lv_at hl 0 rfl) ?_
  refine jkV (wr := []) (rnV (As := []) (rest := []) hx hb hml hown hE hK (hN _ _ hS) hP hD (v_checkPower l D dA H.size h ad x ho) (q0 := 0) rfl rfl w278 w276 w279 w280 w277 rfl rfl ⟨⟨by decide, by decide⟩, rfl⟩ ⟨(Nat.le_of_ble_eq_true rfl), (Nat.le_of_ble_eq_true rfl)⟩ rfl hl.1 rfl (Nat.le_of_ble_eq_true rfl) d_V_flush_1 ⟨(Nat.le_of_ble_eq_true rfl), (Nat.le_of_ble_eq_true rfl)⟩) hP hD hS hA (fun u2 H locs hp9 hP hD hS => ?_)
  have hP : va_P D vwCl (VW dA h ad x) H := hP
  have hD : va_D A (VW dA h ad x) := hD
  refine lv_aload_n hx hb d_V_flush_4 rfl (lv_at hl 0 rfl) ?_
  refine gF (v := .ref (ad 0)) hx hb hown hE hK hP 0 rfl rfl layV 8 (by decide) w312 rfl d_V_flush_5 ?_
  refine gFN (v := .int (nI x.jsize)) hx hb hown hE hK hP 2 rfl rfl layJ 6 (by decide) w318 rfl d_V_flush_8 ?_
  refine lv_if_ne hx hb d_V_flush_11 (tgt := 16) rfl (fun h9 => absurd ((nI_eq (a := x.jsize) (b := 0) (by omega) (by omega)).mpr hj0) h9) (fun _ => ?_)
  refine lv_iconst (v := 0) hx hb d_V_flush_14 (by decide) ?_
  exact rfI hx hb hr hlk hS () rfl hP hD (Nat.le_of_ble_eq_true rfl) (Nat.le_of_ble_eq_true rfl) d_V_flush_15
theorem d_V_flush_16 : decode prog_1_method_36_code 16 = .ok (.aload_n 0, 1) := by decide +kernel
theorem d_V_flush_17 : decode prog_1_method_36_code 17 = .ok (.aload_n 0, 1) := by decide +kernel
theorem d_V_flush_18 : decode prog_1_method_36_code 18 = .ok (.getfield 23, 3) := by decide +kernel
theorem d_V_flush_21 : decode prog_1_method_36_code 21 = .ok (.invokevirtual 294, 3) := by decide +kernel
theorem d_V_flush_24 : decode prog_1_method_36_code 24 = .ok (.astore_n 1, 1) := by decide +kernel
theorem d_V_flush_25 : decode prog_1_method_36_code 25 = .ok (.aload_n 0, 1) := by decide +kernel
theorem d_V_flush_26 : decode prog_1_method_36_code 26 = .ok (.invokevirtual 298, 3) := by decide +kernel
theorem d_V_flush_29 : decode prog_1_method_36_code 29 = .ok (.istore_n 2, 1) := by decide +kernel
theorem d_V_flush_30 : decode prog_1_method_36_code 30 = .ok (.aload_n 1, 1) := by decide +kernel
theorem d_V_flush_31 : decode prog_1_method_36_code 31 = .ok (.invokestatic 301, 3) := by decide +kernel
theorem d_V_flush_34 : decode prog_1_method_36_code 34 = .ok (.iload_n 2, 1) := by decide +kernel
theorem d_V_flush_35 : decode prog_1_method_36_code 35 = .ok (.iadd, 1) := by decide +kernel
theorem d_V_flush_36 : decode prog_1_method_36_code 36 = .ok (.istore_n 3, 1) := by decide +kernel
theorem d_V_flush_37 : decode prog_1_method_36_code 37 = .ok (.aload_n 1, 1) := by decide +kernel
theorem d_V_flush_38 : decode prog_1_method_36_code 38 = .ok (.ifnull 15, 3) := by decide +kernel
theorem d_V_flush_53 : decode prog_1_method_36_code 53 = .ok (.iload_n 3, 1) := by decide +kernel
theorem d_V_flush_54 : decode prog_1_method_36_code 54 = .ok (.aload_n 0, 1) := by decide +kernel
theorem d_V_flush_55 : decode prog_1_method_36_code 55 = .ok (.invokevirtual 308, 3) := by decide +kernel
theorem d_V_flush_58 : decode prog_1_method_36_code 58 = .ok (.if_icmp .le 11, 3) := by decide +kernel
theorem d_V_flush_69 : decode prog_1_method_36_code 69 = .ok (.aload_n 0, 1) := by decide +kernel
theorem d_V_flush_70 : decode prog_1_method_36_code 70 = .ok (.iload_n 3, 1) := by decide +kernel
theorem d_V_flush_71 : decode prog_1_method_36_code 71 = .ok (.iconst 1, 1) := by decide +kernel
theorem d_V_flush_72 : decode prog_1_method_36_code 72 = .ok (.iadd, 1) := by decide +kernel
theorem d_V_flush_73 : decode prog_1_method_36_code 73 = .ok (.invokevirtual 311, 3) := by decide +kernel
theorem d_V_flush_76 : decode prog_1_method_36_code 76 = .ok (.aload_n 0, 1) := by decide +kernel
theorem d_V_flush_77 : decode prog_1_method_36_code 77 = .ok (.getfield 33, 3) := by decide +kernel
theorem d_V_flush_80 : decode prog_1_method_36_code 80 = .ok (.aload_n 1, 1) := by decide +kernel
theorem d_V_flush_81 : decode prog_1_method_36_code 81 = .ok (.invokevirtual 314, 3) := by decide +kernel
theorem d_V_flush_84 : decode prog_1_method_36_code 84 = .ok (.aload_n 0, 1) := by decide +kernel
theorem d_V_flush_85 : decode prog_1_method_36_code 85 = .ok (.getfield 33, 3) := by decide +kernel
theorem d_V_flush_88 : decode prog_1_method_36_code 88 = .ok (.iload_n 2, 1) := by decide +kernel
theorem d_V_flush_89 : decode prog_1_method_36_code 89 = .ok (.putfield 318, 3) := by decide +kernel
theorem d_V_flush_92 : decode prog_1_method_36_code 92 = .ok (.aload_n 0, 1) := by decide +kernel
theorem d_V_flush_93 : decode prog_1_method_36_code 93 = .ok (.getfield 37, 3) := by decide +kernel
theorem d_V_flush_96 : decode prog_1_method_36_code 96 = .ok (.aload_n 0, 1) := by decide +kernel
theorem d_V_flush_97 : decode prog_1_method_36_code 97 = .ok (.getfield 33, 3) := by decide +kernel
theorem d_V_flush_100 : decode prog_1_method_36_code 100 = .ok (.invokevirtual 143, 3) := by decide +kernel
theorem d_V_flush_103 : decode prog_1_method_36_code 103 = .ok (.aload_n 0, 1) := by decide +kernel
theorem d_V_flush_104 : decode prog_1_method_36_code 104 = .ok (.getfield 37, 3) := by decide +kernel
theorem d_V_flush_107 : decode prog_1_method_36_code 107 = .ok (.aload_n 0, 1) := by decide +kernel
theorem d_V_flush_108 : decode prog_1_method_36_code 108 = .ok (.getfield 33, 3) := by decide +kernel
theorem d_V_flush_111 : decode prog_1_method_36_code 111 = .ok (.invokevirtual 147, 3) := by decide +kernel
theorem d_V_flush_114 : decode prog_1_method_36_code 114 = .ok (.aload_n 0, 1) := by decide +kernel
theorem d_V_flush_115 : decode prog_1_method_36_code 115 = .ok (.getfield 23, 3) := by decide +kernel
theorem d_V_flush_118 : decode prog_1_method_36_code 118 = .ok (.invokevirtual 120, 3) := by decide +kernel
theorem d_V_flush_121 : decode prog_1_method_36_code 121 = .ok (.aload_n 0, 1) := by decide +kernel
theorem d_V_flush_122 : decode prog_1_method_36_code 122 = .ok (.getfield 16, 3) := by decide +kernel
theorem d_V_flush_125 : decode prog_1_method_36_code 125 = .ok (.invokevirtual 320, 3) := by decide +kernel
theorem d_V_flush_128 : decode prog_1_method_36_code 128 = .ok (.iload_n 3, 1) := by decide +kernel
theorem d_V_flush_129 : decode prog_1_method_36_code 129 = .ok (.iconst 1, 1) := by decide +kernel
theorem d_V_flush_130 : decode prog_1_method_36_code 130 = .ok (.iadd, 1) := by decide +kernel
theorem d_V_flush_131 : decode prog_1_method_36_code 131 = .ok (.ireturn, 1) := by decide +kernel
theorem w1382 : Cond.methodLink "SeriesVault" 294 ⟨"SeriesVault", "packed", "(LSeriesVault$Points;)LSeriesVault$Parcel;"⟩ ∈ aW := aw_of (tb_5 (List.mem_of_getElem? (i := 237) rfl)) rfl
theorem w1383 : Cond.code ⟨"SeriesVault", "packed", "(LSeriesVault$Points;)LSeriesVault$Parcel;"⟩ prog_1_method_37_code 2 (some (FieldType.object "SeriesVault$Parcel")) ∈ aW := aw_of (tb_6 (List.mem_of_getElem? (i := 0) rfl)) rfl
theorem w1384 : Cond.instanceMethod ⟨"SeriesVault", "packed", "(LSeriesVault$Points;)LSeriesVault$Parcel;"⟩ ∈ aW := aw_of (tb_5 (List.mem_of_getElem? (i := 239) rfl)) rfl
theorem w1385 : Cond.selects "SeriesVault" ⟨"SeriesVault", "packed", "(LSeriesVault$Points;)LSeriesVault$Parcel;"⟩ ⟨"SeriesVault", "packed", "(LSeriesVault$Points;)LSeriesVault$Parcel;"⟩ ∈ aW := aw_pr (List.mem_map.mpr ⟨_, pv_2 (List.mem_of_getElem? (i := 11) rfl), rfl⟩) rfl
theorem w1386 : Cond.methodLink "SeriesVault" 298 ⟨"SeriesVault", "catalogBlocks", "()I"⟩ ∈ aW := aw_of (tb_6 (List.mem_of_getElem? (i := 83) rfl)) rfl
theorem w1387 : Cond.code ⟨"SeriesVault", "catalogBlocks", "()I"⟩ prog_1_method_39_code 5 (some FieldType.int) ∈ aW := aw_of (tb_6 (List.mem_of_getElem? (i := 86) rfl)) rfl
theorem w1388 : Cond.instanceMethod ⟨"SeriesVault", "catalogBlocks", "()I"⟩ ∈ aW := aw_of (tb_6 (List.mem_of_getElem? (i := 85) rfl)) rfl
theorem w1389 : Cond.selects "SeriesVault" ⟨"SeriesVault", "catalogBlocks", "()I"⟩ ⟨"SeriesVault", "catalogBlocks", "()I"⟩ ∈ aW := aw_pr (List.mem_map.mpr ⟨_, pv_2 (List.mem_of_getElem? (i := 12) rfl), rfl⟩) rfl
theorem w1390 : Cond.methodLink "SeriesVault" 301 ⟨"SeriesVault", "blocksOf", "(LSeriesVault$Parcel;)I"⟩ ∈ aW := aw_of (tb_6 (List.mem_of_getElem? (i := 87) rfl)) rfl
theorem w1391 : Cond.code ⟨"SeriesVault", "blocksOf", "(LSeriesVault$Parcel;)I"⟩ prog_1_method_38_code 1 (some FieldType.int) ∈ aW := aw_of (tb_6 (List.mem_of_getElem? (i := 89) rfl)) rfl
theorem w1392 : Cond.static ⟨"SeriesVault", "blocksOf", "(LSeriesVault$Parcel;)I"⟩ ∈ aW := aw_of (tb_6 (List.mem_of_getElem? (i := 88) rfl)) rfl
theorem w1393 : Cond.methodLink "SeriesVault" 311 ⟨"SeriesVault", "writeBlocks", "(I)V"⟩ ∈ aW := aw_of (tb_6 (List.mem_of_getElem? (i := 98) rfl)) rfl
theorem w1394 : Cond.code ⟨"SeriesVault", "writeBlocks", "(I)V"⟩ prog_1_method_16_code 3 none ∈ aW := aw_of (tb_6 (List.mem_of_getElem? (i := 101) rfl)) rfl
theorem w1395 : Cond.instanceMethod ⟨"SeriesVault", "writeBlocks", "(I)V"⟩ ∈ aW := aw_of (tb_6 (List.mem_of_getElem? (i := 100) rfl)) rfl
theorem w1396 : Cond.selects "SeriesVault" ⟨"SeriesVault", "writeBlocks", "(I)V"⟩ ⟨"SeriesVault", "writeBlocks", "(I)V"⟩ ∈ aW := aw_pr (List.mem_map.mpr ⟨_, pv_2 (List.mem_of_getElem? (i := 14) rfl), rfl⟩) rfl
theorem w1397 : Cond.methodLink "SeriesVault" 314 ⟨"SeriesVault$Shelf", "addParcel", "(LSeriesVault$Parcel;)V"⟩ ∈ aW := aw_of (tb_6 (List.mem_of_getElem? (i := 102) rfl)) rfl
theorem w1398 : Cond.code ⟨"SeriesVault$Shelf", "addParcel", "(LSeriesVault$Parcel;)V"⟩ prog_9_method_7_code 2 none ∈ aW := aw_of (tb_6 (List.mem_of_getElem? (i := 105) rfl)) rfl
theorem w1399 : Cond.instanceMethod ⟨"SeriesVault$Shelf", "addParcel", "(LSeriesVault$Parcel;)V"⟩ ∈ aW := aw_of (tb_6 (List.mem_of_getElem? (i := 103) rfl)) rfl
theorem w1400 : Cond.selects "SeriesVault$Shelf" ⟨"SeriesVault$Shelf", "addParcel", "(LSeriesVault$Parcel;)V"⟩ ⟨"SeriesVault$Shelf", "addParcel", "(LSeriesVault$Parcel;)V"⟩ ∈ aW := aw_of (tb_6 (List.mem_of_getElem? (i := 104) rfl)) rfl
theorem w1401 : Cond.fieldLinkNest "SeriesVault" 318 "SeriesVault$Shelf" "catalogBlocks" "I" "SeriesVault" ∈ aW := aw_of (tb_1 (List.mem_of_getElem? (i := 160) rfl)) rfl
theorem w1402 : Cond.methodLink "SeriesVault" 147 ⟨"SeriesVault$Shelf", "takeCatalog", "(LSeriesVault$Shelf;)V"⟩ ∈ aW := aw_of (tb_6 (List.mem_of_getElem? (i := 111) rfl)) rfl
theorem w1403 : Cond.code ⟨"SeriesVault$Shelf", "takeCatalog", "(LSeriesVault$Shelf;)V"⟩ prog_9_method_4_code 2 none ∈ aW := aw_of (tb_6 (List.mem_of_getElem? (i := 114) rfl)) rfl
theorem w1404 : Cond.instanceMethod ⟨"SeriesVault$Shelf", "takeCatalog", "(LSeriesVault$Shelf;)V"⟩ ∈ aW := aw_of (tb_6 (List.mem_of_getElem? (i := 112) rfl)) rfl
theorem w1405 : Cond.selects "SeriesVault$Shelf" ⟨"SeriesVault$Shelf", "takeCatalog", "(LSeriesVault$Shelf;)V"⟩ ⟨"SeriesVault$Shelf", "takeCatalog", "(LSeriesVault$Shelf;)V"⟩ ∈ aW := aw_of (tb_6 (List.mem_of_getElem? (i := 113) rfl)) rfl
theorem w1406 : Cond.methodLink "SeriesVault" 320 ⟨"SeriesVault$Journal", "clear", "()V"⟩ ∈ aW := aw_of (tb_6 (List.mem_of_getElem? (i := 115) rfl)) rfl
set_option maxHeartbeats 4000000 in
set_option maxRecDepth 100000 in
theorem v_flush_0 (l : Launch) (D : va_G) (dA : Nat → ClassId) (sz : Nat) (h : Nat) (ad : Nat → Nat) (x : VS) (PS : Nat → PT) (SS : Nat → List LB) (ho : x.powered = true) (hj0 : 0 < x.jsize) (hj1 : x.jsize < 2 ^ 31) (hps : psOk dA x.nP x.npc x.pl PS) (hpn : x.npc ≤ 32) (hfr : x.jlimit + 2 + (x.ncat + sumN x.npc (blN PS)) ≤ x.diskBlocks) (hkn : knOk dA x.kn x.nser x.pl SS) (hn : x.nser ≤ 256) (hdk : x.diskBlocks ≤ 256) (hj2 : x.jN ≤ 65536) (hj3 : x.jkept < 2 ^ 31) (h2 : x.nsc ≤ 64) (hz : x.hsize = 0) (hf : (ctG2 SS x.nser).1 ≤ x.fr PS) (hcz : ∀ j : Nat, j < (ctG2 SS x.nser).1 + 1 → ¬ cutN x.cutLeft j = 0) : Met l ⟨"SeriesVault", "flush", "()I"⟩ [Cond.code ⟨"SeriesVault", "flush", "()I"⟩ prog_1_method_36_code 4 (some FieldType.int)] { frames := 3, cells := 0, slots := 0, locals := 61 } (pC D dA [.ref h] (VW dA h ad x) sz) (va_Qi (fun (r9 : Int32) (u9 : Unit) => r9 = nI ((ctG2 SS x.nser).1 + 1)) (fun (u9 : Unit) t9 => bW D (va_A (VW dA h ad x) sz) (VW dA h ad (VS.s_scat (VS.s_slast (VS.s_sser (VS.s_shor (VS.s_ssc (VS.s_ssT (VS.s_ssF (VS.s_ssO (VS.s_spc (VS.s_sP (VS.s_ncat (VS.s_hsize (VS.s_jch (VS.s_jfill (VS.s_jblock (VS.s_junits (VS.s_jkept (VS.s_jsize (VS.s_writes (VS.s_cutLeft x (cutN x.cutLeft ((ctG2 SS x.nser).1 + 1))) (x.writes + ((ctG2 SS x.nser).1 + 1))) 0) 0) 0) 0) 0) false) 0) ((ctG2 SS x.nser).1)) (va_cpy x.nP x.sP 0 0 x.npc)) x.npc) (va_cpy x.nsO x.ssO 0 0 x.nsc)) (va_cpy x.nsF x.ssF 0 0 x.nsc)) (va_cpy x.nsT x.ssT 0 0 x.nsc)) x.nsc) x.nhor) x.nser) (va_cpy x.nlast x.slast 0 0 x.nser)) ((ctG2 SS x.nser).1))) t9) (va_A (VW dA h ad x) sz)) 0 0 (va_A (VW dA h ad x) sz) := by
  refine mkC (y := ⟨"SeriesVault", "flush", "()I"⟩) (cc := prog_1_method_36_code) (maxL := 4) (av := [.ref h]) (ws := VW dA h ad x) (sz := sz) (Qc := fun A => va_Qi (fun (r9 : Int32) (u9 : Unit) => r9 = nI ((ctG2 SS x.nser).1 + 1)) (fun (u9 : Unit) t9 => bW D A (VW dA h ad (VS.s_scat (VS.s_slast (VS.s_sser (VS.s_shor (VS.s_ssc (VS.s_ssT (VS.s_ssF (VS.s_ssO (VS.s_spc (VS.s_sP (VS.s_ncat (VS.s_hsize (VS.s_jch (VS.s_jfill (VS.s_jblock (VS.s_junits (VS.s_jkept (VS.s_jsize (VS.s_writes (VS.s_cutLeft x (cutN x.cutLeft ((ctG2 SS x.nser).1 + 1))) (x.writes + ((ctG2 SS x.nser).1 + 1))) 0) 0) 0) 0) 0) false) 0) ((ctG2 SS x.nser).1)) (va_cpy x.nP x.sP 0 0 x.npc)) x.npc) (va_cpy x.nsO x.ssO 0 0 x.nsc)) (va_cpy x.nsF x.ssF 0 0 x.nsc)) (va_cpy x.nsT x.ssT 0 0 x.nsc)) x.nsc) x.nhor) x.nser) (va_cpy x.nlast x.slast 0 0 x.nser)) ((ctG2 SS x.nser).1))) t9) A) (by decide) (Nat.le_of_ble_eq_true rfl) ?_
  intro A p e s m below meth c ls hsz hB
  obtain ⟨hx, hb, hr, hml, hown, hin, hlk, hE, hK, hP, hD, hS, hA, hN, hl⟩ := hB
  have hown : s.vm.findClass "SeriesVault" = some m.cls := hown
  have hl : lv_has ls 4 [(0, .ref h)] := hl
  obtain ⟨H, hH⟩ : ∃ z, z = s.heap := ⟨_, rfl⟩
  have hP : va_P D vwCl (VW dA h ad x) H := by rw [hH]; exact hP
  have hS : va_S A s.heap H [] := by rw [hH]; exact hS
  rw [← hH]
  refine lv_aload_n hx hb d_V_flush_0 rfl (lv_at hl 0 rfl) ?_
  refine jkV (wr := []) (rnV (As := []) (rest := []) hx hb hml hown hE hK (hN _ _ hS) hP hD (v_checkPower l D dA H.size h ad x ho) (q0 := 0) rfl rfl w278 w276 w279 w280 w277 rfl rfl ⟨⟨by decide, by decide⟩, rfl⟩ ⟨(Nat.le_of_ble_eq_true rfl), (Nat.le_of_ble_eq_true rfl)⟩ rfl hl.1 rfl (Nat.le_of_ble_eq_true rfl) d_V_flush_1 ⟨(Nat.le_of_ble_eq_true rfl), (Nat.le_of_ble_eq_true rfl)⟩) hP hD hS hA (fun u2 H locs hp9 hP hD hS => ?_)
  have hP : va_P D vwCl (VW dA h ad x) H := hP
  have hD : va_D A (VW dA h ad x) := hD
  refine lv_aload_n hx hb d_V_flush_4 rfl (lv_at hl 0 rfl) ?_
  refine gF (v := .ref (ad 0)) hx hb hown hE hK hP 0 rfl rfl layV 8 (by decide) w312 rfl d_V_flush_5 ?_
  refine gFN (v := .int (nI x.jsize)) hx hb hown hE hK hP 2 rfl rfl layJ 6 (by decide) w318 rfl d_V_flush_8 ?_
  refine lv_if_ne hx hb d_V_flush_11 (tgt := 16) rfl (fun g3 => ?_) (fun g3 => ?_)
  rotate_left
  · have g3 := (nI_eq (a := x.jsize) (b := 0) (by omega) (by decide)).mp g3; exfalso; omega
  have g3 := mt (nI_eq (a := x.jsize) (b := 0) (by omega) (by decide)).mpr g3
  refine lv_aload_n hx hb d_V_flush_16 rfl (lv_at hl 0 rfl) ?_
  refine lv_aload_n hx hb d_V_flush_17 rfl (lv_at hl 0 rfl) ?_
  refine gF (v := .ref (ad 1)) hx hb hown hE hK hP 0 rfl rfl layV 9 (by decide) w576 rfl d_V_flush_18 ?_
  refine jkN (wr := []) (rnV (As := [.ref (ad 1)]) (rest := []) hx hb hml hown hE hK (hN _ _ hS) hP hD (v_packed_0h l D dA H.size h ad x hz) (q0 := 0) rfl rfl w1383 w1382 w1384 w1385 w277 rfl rfl ⟨⟨by decide, by decide⟩, rfl⟩ ⟨(Nat.le_of_ble_eq_true rfl), (Nat.le_of_ble_eq_true rfl)⟩ rfl hl.1 rfl (Nat.le_of_ble_eq_true rfl) d_V_flush_21 ⟨(Nat.le_of_ble_eq_true rfl), (Nat.le_of_ble_eq_true rfl)⟩) hP hD hS hA (fun u5 H locs hp9 hP hD hS => ?_)
  have hP : va_P D vwCl (VW dA h ad x) H := hP
  have hD : va_D A (VW dA h ad x) := hD
  refine lv_astore_nN hx hb d_V_flush_24 rfl hl (by decide) rfl (fun ls hl => ?_)
  have hl : lv_has ls 4 [(1, .null), (0, .ref h)] := hl
  refine lv_aload_n hx hb d_V_flush_25 rfl (lv_at hl 1 rfl) ?_
  refine jkI (wr := []) (rnV (As := []) (rest := []) hx hb hml hown hE hK (hN _ _ hS) hP hD (v_catalogBlocks l D dA H.size h ad x SS hkn (show x.nser ≤ 256 from by omega)) (q0 := 0) rfl rfl w1387 w1386 w1388 w1389 w277 rfl rfl ⟨⟨by decide, by decide⟩, rfl⟩ ⟨(Nat.le_of_ble_eq_true rfl), (Nat.le_of_ble_eq_true rfl)⟩ rfl hl.1 rfl (Nat.le_of_ble_eq_true rfl) d_V_flush_26 ⟨(Nat.le_of_ble_eq_true rfl), (Nat.le_of_ble_eq_true rfl)⟩) hP hD hS hA (fun r6 u7 H locs hp9 hP hD hS => ?_)
  have hP : va_P D vwCl (VW dA h ad x) H := hP
  have hD : va_D A (VW dA h ad x) := hD
  replace hp9 : nI (ctG2 SS x.nser).1 = r6 := Eq.symm hp9
  subst hp9
  refine lv_istore_n hx hb d_V_flush_29 rfl hl (by decide) rfl (fun ls hl => ?_)
  have hl : lv_has ls 4 [(2, .int (nI (ctG2 SS x.nser).1)), (1, .null), (0, .ref h)] := hl
  refine lv_aload_nN hx hb d_V_flush_30 rfl (lv_at hl 1 rfl) ?_
  have hPc := hP.sub (ws' := []) [] rfl
  have hDc := hD.sub (ws' := []) [] (by decide) rfl
  refine jpI (rnS (As := [.null]) (rest := []) hx hb hml hown hE hK (hN _ _ hS) hPc hDc (v_blocksOf_0 l D dA H.size ) w1391 w1390 w1392 w277 rfl rfl ⟨⟨by decide, by decide⟩, rfl⟩ ⟨(Nat.le_of_ble_eq_true rfl), (Nat.le_of_ble_eq_true rfl)⟩ rfl hl.1 rfl (Nat.le_of_ble_eq_true rfl) d_V_flush_31 ⟨(Nat.le_of_ble_eq_true rfl), (Nat.le_of_ble_eq_true rfl)⟩) hP hD hS hA (fun r8 u9 H locs hp9 hP hD hS => ?_)
  have hP : va_P D vwCl (VW dA h ad x) H := hP
  have hD : va_D A (VW dA h ad x) := hD
  replace hp9 : 0 = r8 := Eq.symm hp9
  subst hp9
  refine lv_iload_n hx hb d_V_flush_34 rfl (lv_at hl 0 rfl) ?_
  refine lv_iadd hx hb d_V_flush_35 (tpi (y := nI ((ctG2 SS x.nser).1)) ((nI_add 0 ((ctG2 SS x.nser).1)).trans (congrArg nI (Nat.zero_add _))) ?_)
  refine lv_istore_n hx hb d_V_flush_36 rfl hl (by decide) rfl (fun ls hl => ?_)
  have hl : lv_has ls 4 [(3, .int (nI ((ctG2 SS x.nser).1))), (2, .int (nI (ctG2 SS x.nser).1)), (1, .null), (0, .ref h)] := hl
  refine lv_aload_nN hx hb d_V_flush_37 rfl (lv_at hl 2 rfl) ?_
  refine lv_ifnullN hx hb d_V_flush_38 (tgt := 53) rfl ?_
  have fe : x.fr PS = x.diskBlocks - 2 - x.jlimit - (x.ncat + sumN x.npc (blN PS)) := rfl
  refine lv_iload_n hx hb d_V_flush_53 rfl (lv_at hl 0 rfl) ?_
  refine lv_aload_n hx hb d_V_flush_54 rfl (lv_at hl 3 rfl) ?_
  refine jkI (wr := []) (rnV (As := []) (rest := [.int (nI ((ctG2 SS x.nser).1))]) hx hb hml hown hE hK (hN _ _ hS) hP hD (v_freeBlocks l D dA H.size h ad x PS hps (show x.npc ≤ 32 from by omega) (show x.jlimit + 2 + (x.ncat + sumN x.npc (blN PS)) ≤ x.diskBlocks from by omega)) (q0 := 0) rfl rfl w644 w643 w645 w646 w277 rfl rfl ⟨⟨by decide, by decide⟩, rfl⟩ ⟨(Nat.le_of_ble_eq_true rfl), (Nat.le_of_ble_eq_true rfl)⟩ rfl hl.1 rfl (Nat.le_of_ble_eq_true rfl) d_V_flush_55 ⟨(Nat.le_of_ble_eq_true rfl), (Nat.le_of_ble_eq_true rfl)⟩) hP hD hS hA (fun r10 u11 H locs hp9 hP hD hS => ?_)
  have hP : va_P D vwCl (VW dA h ad x) H := hP
  have hD : va_D A (VW dA h ad x) := hD
  replace hp9 : nI (x.fr PS) = r10 := Eq.symm hp9
  subst hp9
  refine lv_icmp_le hx hb d_V_flush_58 (tgt := 69) rfl (fun _ => ?_) (fun h9 => absurd ((nI_leI (a := (ctG2 SS x.nser).1) (b := x.fr PS) (by omega) (by omega)).mpr hf) h9)
  refine lv_aload_n hx hb d_V_flush_69 rfl (lv_at hl 3 rfl) ?_
  refine lv_iload_n hx hb d_V_flush_70 rfl (lv_at hl 0 rfl) ?_
  refine lv_iconst (v := 1) hx hb d_V_flush_71 (by decide) ?_
  refine lv_iadd hx hb d_V_flush_72 (tpi (y := nI (((ctG2 SS x.nser).1) + 1)) (nI_add ((ctG2 SS x.nser).1) (1)) ?_)
  refine jkV (wr := []) (rnV (As := [.int (nI (((ctG2 SS x.nser).1) + 1))]) (rest := []) hx hb hml hown hE hK (hN _ _ hS) hP hD (v_writeBlocks l D dA H.size h ad x (((ctG2 SS x.nser).1) + 1) (show (((ctG2 SS x.nser).1) + 1) < 2 ^ 31 from by omega) hcz) (q0 := 0) rfl rfl w1394 w1393 w1395 w1396 w277 rfl rfl ⟨⟨by decide, by decide⟩, rfl⟩ ⟨(Nat.le_of_ble_eq_true rfl), (Nat.le_of_ble_eq_true rfl)⟩ rfl hl.1 rfl (Nat.le_of_ble_eq_true rfl) d_V_flush_73 ⟨(Nat.le_of_ble_eq_true rfl), (Nat.le_of_ble_eq_true rfl)⟩) hP hD hS hA (fun u13 H locs hp9 hP hD hS => ?_)
  have hP : va_P D vwCl (VW dA h ad (VS.s_writes (VS.s_cutLeft x (cutN x.cutLeft (((ctG2 SS x.nser).1) + 1))) (x.writes + (((ctG2 SS x.nser).1) + 1)))) H := hP
  have hD : va_D A (VW dA h ad (VS.s_writes (VS.s_cutLeft x (cutN x.cutLeft (((ctG2 SS x.nser).1) + 1))) (x.writes + (((ctG2 SS x.nser).1) + 1)))) := hD
  refine lv_aload_n hx hb d_V_flush_76 rfl (lv_at hl 3 rfl) ?_
  refine gF (v := .ref (ad 3)) hx hb hown hE hK hP 0 rfl rfl layV 11 (by decide) w297 rfl d_V_flush_77 ?_
  refine lv_aload_nN hx hb d_V_flush_80 rfl (lv_at hl 2 rfl) ?_
  refine jkV (wr := []) (rnV (As := [.null]) (rest := []) hx hb hml hown hE hK (hN _ _ hS) hP hD (v_addParcel_0 l D dA H.size h ad (VS.s_writes (VS.s_cutLeft x (cutN x.cutLeft (((ctG2 SS x.nser).1) + 1))) (x.writes + (((ctG2 SS x.nser).1) + 1)))) (q0 := 17) rfl rfl w1398 w1397 w1399 w1400 w583 rfl rfl ⟨⟨by decide, by decide⟩, rfl⟩ ⟨(Nat.le_of_ble_eq_true rfl), (Nat.le_of_ble_eq_true rfl)⟩ rfl hl.1 rfl (Nat.le_of_ble_eq_true rfl) d_V_flush_81 ⟨(Nat.le_of_ble_eq_true rfl), (Nat.le_of_ble_eq_true rfl)⟩) hP hD hS hA (fun u15 H locs hp9 hP hD hS => ?_)
  have hP : va_P D vwCl (VW dA h ad (VS.s_writes (VS.s_cutLeft x (cutN x.cutLeft (((ctG2 SS x.nser).1) + 1))) (x.writes + (((ctG2 SS x.nser).1) + 1)))) H := hP
  have hD : va_D A (VW dA h ad (VS.s_writes (VS.s_cutLeft x (cutN x.cutLeft (((ctG2 SS x.nser).1) + 1))) (x.writes + (((ctG2 SS x.nser).1) + 1)))) := hD
  refine lv_aload_n hx hb d_V_flush_84 rfl (lv_at hl 3 rfl) ?_
  refine gF (v := .ref (ad 3)) hx hb hown hE hK hP 0 rfl rfl layV 11 (by decide) w297 rfl d_V_flush_85 ?_
  refine lv_iload_n hx hb d_V_flush_88 rfl (lv_at hl 1 rfl) ?_
  refine pFN (v := .int (nI ((ctG2 SS x.nser).1))) hx hb hown hE hK hP hD hS 17 rfl rfl layH tyH tokH nmH 10 (by decide) w1401 rfl rfl rfl (Nat.le_of_ble_eq_true rfl) d_V_flush_89 (fun H locs hP hD hS => ?_)
  have hP : va_P D vwCl (VW dA h ad (VS.s_ncat (VS.s_writes (VS.s_cutLeft x (cutN x.cutLeft (((ctG2 SS x.nser).1) + 1))) (x.writes + (((ctG2 SS x.nser).1) + 1))) ((ctG2 SS x.nser).1))) H := hP
  have hD : va_D A (VW dA h ad (VS.s_ncat (VS.s_writes (VS.s_cutLeft x (cutN x.cutLeft (((ctG2 SS x.nser).1) + 1))) (x.writes + (((ctG2 SS x.nser).1) + 1))) ((ctG2 SS x.nser).1))) := hD
  refine lv_aload_n hx hb d_V_flush_92 rfl (lv_at hl 3 rfl) ?_
  refine gF (v := .ref (ad 10)) hx hb hown hE hK hP 0 rfl rfl layV 12 (by decide) w587 rfl d_V_flush_93 ?_
  refine lv_aload_n hx hb d_V_flush_96 rfl (lv_at hl 3 rfl) ?_
  refine gF (v := .ref (ad 3)) hx hb hown hE hK hP 0 rfl rfl layV 11 (by decide) w297 rfl d_V_flush_97 ?_
  refine jkV (wr := []) (rnV (As := [.ref (ad 3)]) (rest := []) hx hb hml hown hE hK (hN _ _ hS) hP hD (v_takeParcels_s l D dA H.size h ad (VS.s_ncat (VS.s_writes (VS.s_cutLeft x (cutN x.cutLeft (((ctG2 SS x.nser).1) + 1))) (x.writes + (((ctG2 SS x.nser).1) + 1))) ((ctG2 SS x.nser).1)) PS hps (show x.npc ≤ 32 from by omega) (show x.nsc ≤ 64 from by omega)) (q0 := 24) rfl rfl w728 w727 w729 w730 w583 rfl rfl ⟨⟨by decide, by decide⟩, rfl⟩ ⟨(Nat.le_of_ble_eq_true rfl), (Nat.le_of_ble_eq_true rfl)⟩ rfl hl.1 rfl (Nat.le_of_ble_eq_true rfl) d_V_flush_100 ⟨(Nat.le_of_ble_eq_true rfl), (Nat.le_of_ble_eq_true rfl)⟩) hP hD hS hA (fun u17 H locs hp9 hP hD hS => ?_)
  have hP : va_P D vwCl (VW dA h ad (VS.s_shor (VS.s_ssc (VS.s_ssT (VS.s_ssF (VS.s_ssO (VS.s_spc (VS.s_sP (VS.s_ncat (VS.s_writes (VS.s_cutLeft x (cutN x.cutLeft (((ctG2 SS x.nser).1) + 1))) (x.writes + (((ctG2 SS x.nser).1) + 1))) ((ctG2 SS x.nser).1)) (va_cpy x.nP x.sP 0 0 x.npc)) x.npc) (va_cpy x.nsO x.ssO 0 0 x.nsc)) (va_cpy x.nsF x.ssF 0 0 x.nsc)) (va_cpy x.nsT x.ssT 0 0 x.nsc)) x.nsc) x.nhor)) H := hP
  have hD : va_D A (VW dA h ad (VS.s_shor (VS.s_ssc (VS.s_ssT (VS.s_ssF (VS.s_ssO (VS.s_spc (VS.s_sP (VS.s_ncat (VS.s_writes (VS.s_cutLeft x (cutN x.cutLeft (((ctG2 SS x.nser).1) + 1))) (x.writes + (((ctG2 SS x.nser).1) + 1))) ((ctG2 SS x.nser).1)) (va_cpy x.nP x.sP 0 0 x.npc)) x.npc) (va_cpy x.nsO x.ssO 0 0 x.nsc)) (va_cpy x.nsF x.ssF 0 0 x.nsc)) (va_cpy x.nsT x.ssT 0 0 x.nsc)) x.nsc) x.nhor)) := hD
  refine lv_aload_n hx hb d_V_flush_103 rfl (lv_at hl 3 rfl) ?_
  refine gF (v := .ref (ad 10)) hx hb hown hE hK hP 0 rfl rfl layV 12 (by decide) w587 rfl d_V_flush_104 ?_
  refine lv_aload_n hx hb d_V_flush_107 rfl (lv_at hl 3 rfl) ?_
  refine gF (v := .ref (ad 3)) hx hb hown hE hK hP 0 rfl rfl layV 11 (by decide) w297 rfl d_V_flush_108 ?_
  refine jkV (wr := []) (rnV (As := [.ref (ad 3)]) (rest := []) hx hb hml hown hE hK (hN _ _ hS) hP hD (v_takeCatalog_s l D dA H.size h ad (VS.s_shor (VS.s_ssc (VS.s_ssT (VS.s_ssF (VS.s_ssO (VS.s_spc (VS.s_sP (VS.s_ncat (VS.s_writes (VS.s_cutLeft x (cutN x.cutLeft (((ctG2 SS x.nser).1) + 1))) (x.writes + (((ctG2 SS x.nser).1) + 1))) ((ctG2 SS x.nser).1)) (va_cpy x.nP x.sP 0 0 x.npc)) x.npc) (va_cpy x.nsO x.ssO 0 0 x.nsc)) (va_cpy x.nsF x.ssF 0 0 x.nsc)) (va_cpy x.nsT x.ssT 0 0 x.nsc)) x.nsc) x.nhor) (show x.nser ≤ 256 from by omega)) (q0 := 24) rfl rfl w1403 w1402 w1404 w1405 w583 rfl rfl ⟨⟨by decide, by decide⟩, rfl⟩ ⟨(Nat.le_of_ble_eq_true rfl), (Nat.le_of_ble_eq_true rfl)⟩ rfl hl.1 rfl (Nat.le_of_ble_eq_true rfl) d_V_flush_111 ⟨(Nat.le_of_ble_eq_true rfl), (Nat.le_of_ble_eq_true rfl)⟩) hP hD hS hA (fun u19 H locs hp9 hP hD hS => ?_)
  have hP : va_P D vwCl (VW dA h ad (VS.s_scat (VS.s_slast (VS.s_sser (VS.s_shor (VS.s_ssc (VS.s_ssT (VS.s_ssF (VS.s_ssO (VS.s_spc (VS.s_sP (VS.s_ncat (VS.s_writes (VS.s_cutLeft x (cutN x.cutLeft (((ctG2 SS x.nser).1) + 1))) (x.writes + (((ctG2 SS x.nser).1) + 1))) ((ctG2 SS x.nser).1)) (va_cpy x.nP x.sP 0 0 x.npc)) x.npc) (va_cpy x.nsO x.ssO 0 0 x.nsc)) (va_cpy x.nsF x.ssF 0 0 x.nsc)) (va_cpy x.nsT x.ssT 0 0 x.nsc)) x.nsc) x.nhor) x.nser) (va_cpy x.nlast x.slast 0 0 x.nser)) ((ctG2 SS x.nser).1))) H := hP
  have hD : va_D A (VW dA h ad (VS.s_scat (VS.s_slast (VS.s_sser (VS.s_shor (VS.s_ssc (VS.s_ssT (VS.s_ssF (VS.s_ssO (VS.s_spc (VS.s_sP (VS.s_ncat (VS.s_writes (VS.s_cutLeft x (cutN x.cutLeft (((ctG2 SS x.nser).1) + 1))) (x.writes + (((ctG2 SS x.nser).1) + 1))) ((ctG2 SS x.nser).1)) (va_cpy x.nP x.sP 0 0 x.npc)) x.npc) (va_cpy x.nsO x.ssO 0 0 x.nsc)) (va_cpy x.nsF x.ssF 0 0 x.nsc)) (va_cpy x.nsT x.ssT 0 0 x.nsc)) x.nsc) x.nhor) x.nser) (va_cpy x.nlast x.slast 0 0 x.nser)) ((ctG2 SS x.nser).1))) := hD
  refine lv_aload_n hx hb d_V_flush_114 rfl (lv_at hl 3 rfl) ?_
  refine gF (v := .ref (ad 1)) hx hb hown hE hK hP 0 rfl rfl layV 9 (by decide) w576 rfl d_V_flush_115 ?_
  refine jkV (wr := []) (rnV (As := []) (rest := []) hx hb hml hown hE hK (hN _ _ hS) hP hD (v_pclear_h l D dA H.size h ad (VS.s_scat (VS.s_slast (VS.s_sser (VS.s_shor (VS.s_ssc (VS.s_ssT (VS.s_ssF (VS.s_ssO (VS.s_spc (VS.s_sP (VS.s_ncat (VS.s_writes (VS.s_cutLeft x (cutN x.cutLeft (((ctG2 SS x.nser).1) + 1))) (x.writes + (((ctG2 SS x.nser).1) + 1))) ((ctG2 SS x.nser).1)) (va_cpy x.nP x.sP 0 0 x.npc)) x.npc) (va_cpy x.nsO x.ssO 0 0 x.nsc)) (va_cpy x.nsF x.ssF 0 0 x.nsc)) (va_cpy x.nsT x.ssT 0 0 x.nsc)) x.nsc) x.nhor) x.nser) (va_cpy x.nlast x.slast 0 0 x.nser)) ((ctG2 SS x.nser).1))) (q0 := 9) rfl rfl w579 w577 w580 w581 w578 rfl rfl ⟨⟨by decide, by decide⟩, rfl⟩ ⟨(Nat.le_of_ble_eq_true rfl), (Nat.le_of_ble_eq_true rfl)⟩ rfl hl.1 rfl (Nat.le_of_ble_eq_true rfl) d_V_flush_118 ⟨(Nat.le_of_ble_eq_true rfl), (Nat.le_of_ble_eq_true rfl)⟩) hP hD hS hA (fun u21 H locs hp9 hP hD hS => ?_)
  have hP : va_P D vwCl (VW dA h ad (VS.s_scat (VS.s_slast (VS.s_sser (VS.s_shor (VS.s_ssc (VS.s_ssT (VS.s_ssF (VS.s_ssO (VS.s_spc (VS.s_sP (VS.s_ncat (VS.s_hsize (VS.s_writes (VS.s_cutLeft x (cutN x.cutLeft (((ctG2 SS x.nser).1) + 1))) (x.writes + (((ctG2 SS x.nser).1) + 1))) 0) ((ctG2 SS x.nser).1)) (va_cpy x.nP x.sP 0 0 x.npc)) x.npc) (va_cpy x.nsO x.ssO 0 0 x.nsc)) (va_cpy x.nsF x.ssF 0 0 x.nsc)) (va_cpy x.nsT x.ssT 0 0 x.nsc)) x.nsc) x.nhor) x.nser) (va_cpy x.nlast x.slast 0 0 x.nser)) ((ctG2 SS x.nser).1))) H := hP
  have hD : va_D A (VW dA h ad (VS.s_scat (VS.s_slast (VS.s_sser (VS.s_shor (VS.s_ssc (VS.s_ssT (VS.s_ssF (VS.s_ssO (VS.s_spc (VS.s_sP (VS.s_ncat (VS.s_hsize (VS.s_writes (VS.s_cutLeft x (cutN x.cutLeft (((ctG2 SS x.nser).1) + 1))) (x.writes + (((ctG2 SS x.nser).1) + 1))) 0) ((ctG2 SS x.nser).1)) (va_cpy x.nP x.sP 0 0 x.npc)) x.npc) (va_cpy x.nsO x.ssO 0 0 x.nsc)) (va_cpy x.nsF x.ssF 0 0 x.nsc)) (va_cpy x.nsT x.ssT 0 0 x.nsc)) x.nsc) x.nhor) x.nser) (va_cpy x.nlast x.slast 0 0 x.nser)) ((ctG2 SS x.nser).1))) := hD
  refine lv_aload_n hx hb d_V_flush_121 rfl (lv_at hl 3 rfl) ?_
  refine gF (v := .ref (ad 0)) hx hb hown hE hK hP 0 rfl rfl layV 8 (by decide) w312 rfl d_V_flush_122 ?_
  refine jkV (wr := []) (rnV (As := []) (rest := []) hx hb hml hown hE hK (hN _ _ hS) hP hD (v_jclear l D dA H.size h ad (VS.s_scat (VS.s_slast (VS.s_sser (VS.s_shor (VS.s_ssc (VS.s_ssT (VS.s_ssF (VS.s_ssO (VS.s_spc (VS.s_sP (VS.s_ncat (VS.s_hsize (VS.s_writes (VS.s_cutLeft x (cutN x.cutLeft (((ctG2 SS x.nser).1) + 1))) (x.writes + (((ctG2 SS x.nser).1) + 1))) 0) ((ctG2 SS x.nser).1)) (va_cpy x.nP x.sP 0 0 x.npc)) x.npc) (va_cpy x.nsO x.ssO 0 0 x.nsc)) (va_cpy x.nsF x.ssF 0 0 x.nsc)) (va_cpy x.nsT x.ssT 0 0 x.nsc)) x.nsc) x.nhor) x.nser) (va_cpy x.nlast x.slast 0 0 x.nser)) ((ctG2 SS x.nser).1)) (show x.jN ≤ 65536 from by omega) (show x.jkept < 2 ^ 31 from by omega)) (q0 := 2) rfl rfl w562 w1406 w563 w564 w556 rfl rfl ⟨⟨by decide, by decide⟩, rfl⟩ ⟨(Nat.le_of_ble_eq_true rfl), (Nat.le_of_ble_eq_true rfl)⟩ rfl hl.1 rfl (Nat.le_of_ble_eq_true rfl) d_V_flush_125 ⟨(Nat.le_of_ble_eq_true rfl), (Nat.le_of_ble_eq_true rfl)⟩) hP hD hS hA (fun u23 H locs hp9 hP hD hS => ?_)
  have hP : va_P D vwCl (VW dA h ad (VS.s_scat (VS.s_slast (VS.s_sser (VS.s_shor (VS.s_ssc (VS.s_ssT (VS.s_ssF (VS.s_ssO (VS.s_spc (VS.s_sP (VS.s_ncat (VS.s_hsize (VS.s_jch (VS.s_jfill (VS.s_jblock (VS.s_junits (VS.s_jkept (VS.s_jsize (VS.s_writes (VS.s_cutLeft x (cutN x.cutLeft (((ctG2 SS x.nser).1) + 1))) (x.writes + (((ctG2 SS x.nser).1) + 1))) 0) 0) 0) 0) 0) false) 0) ((ctG2 SS x.nser).1)) (va_cpy x.nP x.sP 0 0 x.npc)) x.npc) (va_cpy x.nsO x.ssO 0 0 x.nsc)) (va_cpy x.nsF x.ssF 0 0 x.nsc)) (va_cpy x.nsT x.ssT 0 0 x.nsc)) x.nsc) x.nhor) x.nser) (va_cpy x.nlast x.slast 0 0 x.nser)) ((ctG2 SS x.nser).1))) H := hP
  have hD : va_D A (VW dA h ad (VS.s_scat (VS.s_slast (VS.s_sser (VS.s_shor (VS.s_ssc (VS.s_ssT (VS.s_ssF (VS.s_ssO (VS.s_spc (VS.s_sP (VS.s_ncat (VS.s_hsize (VS.s_jch (VS.s_jfill (VS.s_jblock (VS.s_junits (VS.s_jkept (VS.s_jsize (VS.s_writes (VS.s_cutLeft x (cutN x.cutLeft (((ctG2 SS x.nser).1) + 1))) (x.writes + (((ctG2 SS x.nser).1) + 1))) 0) 0) 0) 0) 0) false) 0) ((ctG2 SS x.nser).1)) (va_cpy x.nP x.sP 0 0 x.npc)) x.npc) (va_cpy x.nsO x.ssO 0 0 x.nsc)) (va_cpy x.nsF x.ssF 0 0 x.nsc)) (va_cpy x.nsT x.ssT 0 0 x.nsc)) x.nsc) x.nhor) x.nser) (va_cpy x.nlast x.slast 0 0 x.nser)) ((ctG2 SS x.nser).1))) := hD
  refine lv_iload_n hx hb d_V_flush_128 rfl (lv_at hl 0 rfl) ?_
  refine lv_iconst (v := 1) hx hb d_V_flush_129 (by decide) ?_
  refine lv_iadd hx hb d_V_flush_130 (tpi (y := nI (((ctG2 SS x.nser).1) + 1)) (nI_add ((ctG2 SS x.nser).1) (1)) ?_)
  have e9 : (VS.s_scat (VS.s_slast (VS.s_sser (VS.s_shor (VS.s_ssc (VS.s_ssT (VS.s_ssF (VS.s_ssO (VS.s_spc (VS.s_sP (VS.s_ncat (VS.s_hsize (VS.s_jch (VS.s_jfill (VS.s_jblock (VS.s_junits (VS.s_jkept (VS.s_jsize (VS.s_writes (VS.s_cutLeft x (cutN x.cutLeft (((ctG2 SS x.nser).1) + 1))) (x.writes + (((ctG2 SS x.nser).1) + 1))) 0) 0) 0) 0) 0) false) 0) ((ctG2 SS x.nser).1)) (va_cpy x.nP x.sP 0 0 x.npc)) x.npc) (va_cpy x.nsO x.ssO 0 0 x.nsc)) (va_cpy x.nsF x.ssF 0 0 x.nsc)) (va_cpy x.nsT x.ssT 0 0 x.nsc)) x.nsc) x.nhor) x.nser) (va_cpy x.nlast x.slast 0 0 x.nser)) ((ctG2 SS x.nser).1) : VS) = VS.s_scat (VS.s_slast (VS.s_sser (VS.s_shor (VS.s_ssc (VS.s_ssT (VS.s_ssF (VS.s_ssO (VS.s_spc (VS.s_sP (VS.s_ncat (VS.s_hsize (VS.s_jch (VS.s_jfill (VS.s_jblock (VS.s_junits (VS.s_jkept (VS.s_jsize (VS.s_writes (VS.s_cutLeft x (cutN x.cutLeft ((ctG2 SS x.nser).1 + 1))) (x.writes + ((ctG2 SS x.nser).1 + 1))) 0) 0) 0) 0) 0) false) 0) ((ctG2 SS x.nser).1)) (va_cpy x.nP x.sP 0 0 x.npc)) x.npc) (va_cpy x.nsO x.ssO 0 0 x.nsc)) (va_cpy x.nsF x.ssF 0 0 x.nsc)) (va_cpy x.nsT x.ssT 0 0 x.nsc)) x.nsc) x.nhor) x.nser) (va_cpy x.nlast x.slast 0 0 x.nser)) ((ctG2 SS x.nser).1) := by rw [show (cutN x.cutLeft ((ctG2 SS x.nser).1 + 1)) = (cutN x.cutLeft (((ctG2 SS x.nser).1) + 1)) from by rfl, show (x.writes + ((ctG2 SS x.nser).1 + 1)) = (x.writes + (((ctG2 SS x.nser).1) + 1)) from by rfl] <;> rfl
  rw [e9] at hP hD
  exact rfI hx hb hr hlk hS () rfl hP hD (Nat.le_of_ble_eq_true rfl) (Nat.le_of_ble_eq_true rfl) d_V_flush_131
theorem d_V_flush_61 : decode prog_1_method_36_code 61 = .ok (.new 76, 3) := by decide +kernel
theorem d_V_flush_64 : decode prog_1_method_36_code 64 = .ok (.dup, 1) := by decide +kernel
theorem d_V_flush_65 : decode prog_1_method_36_code 65 = .ok (.invokespecial 78, 3) := by decide +kernel
theorem d_V_flush_68 : decode prog_1_method_36_code 68 = .ok (.athrow, 1) := by decide +kernel
set_option maxHeartbeats 4000000 in
set_option maxRecDepth 100000 in
theorem v_flush_u0 (l : Launch) (htr : l.stackTraces = false) (D : va_G) (dA : Nat → ClassId) (sz : Nat) (h : Nat) (ad : Nat → Nat) (x : VS) (PS : Nat → PT) (SS : Nat → List LB) (ho : x.powered = true) (hj0 : 0 < x.jsize) (hj1 : x.jsize < 2 ^ 31) (hps : psOk dA x.nP x.npc x.pl PS) (hpn : x.npc ≤ 32) (hfr : x.jlimit + 2 + (x.ncat + sumN x.npc (blN PS)) ≤ x.diskBlocks) (hkn : knOk dA x.kn x.nser x.pl SS) (hn : x.nser ≤ 256) (hdk : x.diskBlocks ≤ 256) (hz : x.hsize = 0) (hf : x.fr PS < (ctG2 SS x.nser).1) (hc9 : (ctG2 SS x.nser).1 < 2 ^ 31) : mX l ⟨"SeriesVault", "flush", "()I"⟩ [Cond.code ⟨"SeriesVault", "flush", "()I"⟩ prog_1_method_36_code 4 (some FieldType.int)] { frames := 6, cells := 1, slots := 6, locals := 81 } (pC D dA [.ref h] (VW dA h ad x) sz) "java/lang/UnsupportedOperationException" (fun st9 t9 => va_F (va_A (VW dA h ad x) sz) st9 t9 ∧ ∃ u9 : Unit, (True) ∧ bW D (va_A (VW dA h ad x) sz) (VW dA h ad x) t9) 1 6 (va_A (VW dA h ad x) sz) := by
  refine mkX (y := ⟨"SeriesVault", "flush", "()I"⟩) (cc := prog_1_method_36_code) (maxL := 4) (av := [.ref h]) (ws := VW dA h ad x) (sz := sz) (B := fun A => (fun st9 t9 => va_F A st9 t9 ∧ ∃ u9 : Unit, (True) ∧ bW D A (VW dA h ad x) t9)) (by decide) (Nat.le_of_ble_eq_true rfl) ?_
  intro A p e s m below meth c ls hsz hno hB
  obtain ⟨hx, hb, hr, hml, hown, hin, hlk, hE, hK, hP, hD, hS, hA, hN, hl⟩ := hB
  have hown : s.vm.findClass "SeriesVault" = some m.cls := hown
  have hl : lv_has ls 4 [(0, .ref h)] := hl
  obtain ⟨H, hH⟩ : ∃ z, z = s.heap := ⟨_, rfl⟩
  have hP : va_P D vwCl (VW dA h ad x) H := by rw [hH]; exact hP
  have hS : va_S A s.heap H [] := by rw [hH]; exact hS
  rw [← hH]
  refine lv_aload_n hx hb d_V_flush_0 rfl (lv_at hl 0 rfl) ?_
  refine jkV (wr := []) (rnV (As := []) (rest := []) hx hb hml hown hE hK (hN _ _ hS) hP hD (v_checkPower l D dA H.size h ad x ho) (q0 := 0) rfl rfl w278 w276 w279 w280 w277 rfl rfl ⟨⟨by decide, by decide⟩, rfl⟩ ⟨(Nat.le_of_ble_eq_true rfl), (Nat.le_of_ble_eq_true rfl)⟩ rfl hl.1 rfl (Nat.le_of_ble_eq_true rfl) d_V_flush_1 ⟨(show 0 + 0 ≤ 1 by omega), (show 0 + 0 ≤ 6 by omega)⟩) hP hD hS hA (fun u2 H locs hp9 hP hD hS => ?_)
  have hP : va_P D vwCl (VW dA h ad x) H := hP
  have hD : va_D A (VW dA h ad x) := hD
  refine lv_aload_n hx hb d_V_flush_4 rfl (lv_at hl 0 rfl) ?_
  refine gF (v := .ref (ad 0)) hx hb hown hE hK hP 0 rfl rfl layV 8 (by decide) w312 rfl d_V_flush_5 ?_
  refine gFN (v := .int (nI x.jsize)) hx hb hown hE hK hP 2 rfl rfl layJ 6 (by decide) w318 rfl d_V_flush_8 ?_
  refine lv_if_ne hx hb d_V_flush_11 (tgt := 16) rfl (fun g3 => ?_) (fun g3 => ?_)
  rotate_left
  · have g3 := (nI_eq (a := x.jsize) (b := 0) (by omega) (by decide)).mp g3; exfalso; omega
  have g3 := mt (nI_eq (a := x.jsize) (b := 0) (by omega) (by decide)).mpr g3
  refine lv_aload_n hx hb d_V_flush_16 rfl (lv_at hl 0 rfl) ?_
  refine lv_aload_n hx hb d_V_flush_17 rfl (lv_at hl 0 rfl) ?_
  refine gF (v := .ref (ad 1)) hx hb hown hE hK hP 0 rfl rfl layV 9 (by decide) w576 rfl d_V_flush_18 ?_
  refine jkN (wr := []) (rnV (As := [.ref (ad 1)]) (rest := []) hx hb hml hown hE hK (hN _ _ hS) hP hD (v_packed_0h l D dA H.size h ad x hz) (q0 := 0) rfl rfl w1383 w1382 w1384 w1385 w277 rfl rfl ⟨⟨by decide, by decide⟩, rfl⟩ ⟨(Nat.le_of_ble_eq_true rfl), (Nat.le_of_ble_eq_true rfl)⟩ rfl hl.1 rfl (Nat.le_of_ble_eq_true rfl) d_V_flush_21 ⟨(show 0 + 0 + 0 ≤ 1 by omega), (show 0 + 0 + 0 ≤ 6 by omega)⟩) hP hD hS hA (fun u5 H locs hp9 hP hD hS => ?_)
  have hP : va_P D vwCl (VW dA h ad x) H := hP
  have hD : va_D A (VW dA h ad x) := hD
  refine lv_astore_nN hx hb d_V_flush_24 rfl hl (by decide) rfl (fun ls hl => ?_)
  have hl : lv_has ls 4 [(1, .null), (0, .ref h)] := hl
  refine lv_aload_n hx hb d_V_flush_25 rfl (lv_at hl 1 rfl) ?_
  refine jkI (wr := []) (rnV (As := []) (rest := []) hx hb hml hown hE hK (hN _ _ hS) hP hD (v_catalogBlocks l D dA H.size h ad x SS hkn (show x.nser ≤ 256 from by omega)) (q0 := 0) rfl rfl w1387 w1386 w1388 w1389 w277 rfl rfl ⟨⟨by decide, by decide⟩, rfl⟩ ⟨(Nat.le_of_ble_eq_true rfl), (Nat.le_of_ble_eq_true rfl)⟩ rfl hl.1 rfl (Nat.le_of_ble_eq_true rfl) d_V_flush_26 ⟨(show 0 + 0 + 0 + 0 ≤ 1 by omega), (show 0 + 0 + 0 + 0 ≤ 6 by omega)⟩) hP hD hS hA (fun r6 u7 H locs hp9 hP hD hS => ?_)
  have hP : va_P D vwCl (VW dA h ad x) H := hP
  have hD : va_D A (VW dA h ad x) := hD
  replace hp9 : nI (ctG2 SS x.nser).1 = r6 := Eq.symm hp9
  subst hp9
  refine lv_istore_n hx hb d_V_flush_29 rfl hl (by decide) rfl (fun ls hl => ?_)
  have hl : lv_has ls 4 [(2, .int (nI (ctG2 SS x.nser).1)), (1, .null), (0, .ref h)] := hl
  refine lv_aload_nN hx hb d_V_flush_30 rfl (lv_at hl 1 rfl) ?_
  have hPc := hP.sub (ws' := []) [] rfl
  have hDc := hD.sub (ws' := []) [] (by decide) rfl
  refine jpI (rnS (As := [.null]) (rest := []) hx hb hml hown hE hK (hN _ _ hS) hPc hDc (v_blocksOf_0 l D dA H.size ) w1391 w1390 w1392 w277 rfl rfl ⟨⟨by decide, by decide⟩, rfl⟩ ⟨(Nat.le_of_ble_eq_true rfl), (Nat.le_of_ble_eq_true rfl)⟩ rfl hl.1 rfl (Nat.le_of_ble_eq_true rfl) d_V_flush_31 ⟨(show 0 + 0 + 0 + 0 + 0 ≤ 1 by omega), (show 0 + 0 + 0 + 0 + 0 ≤ 6 by omega)⟩) hP hD hS hA (fun r8 u9 H locs hp9 hP hD hS => ?_)
  have hP : va_P D vwCl (VW dA h ad x) H := hP
  have hD : va_D A (VW dA h ad x) := hD
  replace hp9 : 0 = r8 := Eq.symm hp9
  subst hp9
  refine lv_iload_n hx hb d_V_flush_34 rfl (lv_at hl 0 rfl) ?_
  refine lv_iadd hx hb d_V_flush_35 (tpi (y := nI ((ctG2 SS x.nser).1)) ((nI_add 0 ((ctG2 SS x.nser).1)).trans (congrArg nI (Nat.zero_add _))) ?_)
  refine lv_istore_n hx hb d_V_flush_36 rfl hl (by decide) rfl (fun ls hl => ?_)
  have hl : lv_has ls 4 [(3, .int (nI ((ctG2 SS x.nser).1))), (2, .int (nI (ctG2 SS x.nser).1)), (1, .null), (0, .ref h)] := hl
  refine lv_aload_nN hx hb d_V_flush_37 rfl (lv_at hl 2 rfl) ?_
  refine lv_ifnullN hx hb d_V_flush_38 (tgt := 53) rfl ?_
  have fe : x.fr PS = x.diskBlocks - 2 - x.jlimit - (x.ncat + sumN x.npc (blN PS)) := rfl
  refine lv_iload_n hx hb d_V_flush_53 rfl (lv_at hl 0 rfl) ?_
  refine lv_aload_n hx hb d_V_flush_54 rfl (lv_at hl 3 rfl) ?_
  refine jkI (wr := []) (rnV (As := []) (rest := [.int (nI ((ctG2 SS x.nser).1))]) hx hb hml hown hE hK (hN _ _ hS) hP hD (v_freeBlocks l D dA H.size h ad x PS hps (show x.npc ≤ 32 from by omega) (show x.jlimit + 2 + (x.ncat + sumN x.npc (blN PS)) ≤ x.diskBlocks from by omega)) (q0 := 0) rfl rfl w644 w643 w645 w646 w277 rfl rfl ⟨⟨by decide, by decide⟩, rfl⟩ ⟨(Nat.le_of_ble_eq_true rfl), (Nat.le_of_ble_eq_true rfl)⟩ rfl hl.1 rfl (Nat.le_of_ble_eq_true rfl) d_V_flush_55 ⟨(show 0 + 0 + 0 + 0 + 0 + 0 ≤ 1 by omega), (show 0 + 0 + 0 + 0 + 0 + 0 ≤ 6 by omega)⟩) hP hD hS hA (fun r10 u11 H locs hp9 hP hD hS => ?_)
  have hP : va_P D vwCl (VW dA h ad x) H := hP
  have hD : va_D A (VW dA h ad x) := hD
  replace hp9 : nI (x.fr PS) = r10 := Eq.symm hp9
  subst hp9
  refine lv_icmp_le hx hb d_V_flush_58 (tgt := 69) rfl (fun h9 => absurd h9 (mt (nI_leI (a := (ctG2 SS x.nser).1) (b := x.fr PS) (by omega) (by omega)).mp (Nat.not_le.mpr hf))) (fun _ => ?_)
  exact xNew (E := "java/lang/UnsupportedOperationException") (names := ["java/lang/RuntimeException", "java/lang/Exception"]) hx hb htr hown (by decide) (by decide) hE w1156 w1157 (fun U hU => at_V_UOE hU) (hN _ _ hS) (hl.1.trans hml.symm) d_V_flush_61 d_V_flush_64 d_V_flush_65 d_V_flush_68 hno (by decide) (Nat.le_of_ble_eq_true rfl) (show 0 + 0 + 0 + 0 + 0 + 0 + 1 ≤ 1 by omega) (show 0 + 0 + 0 + 0 + 0 + 0 + 6 ≤ 6 by omega) hlk (fun t h1 h2 => xkE () trivial hP hD hS t h1 h2) hS.2.2 (show 0 + 0 + 0 + 0 + 0 + 0 + 1 ≤ 1 by omega) (show 0 + 0 + 0 + 0 + 0 + 0 + 6 ≤ 6 by omega)
set_option maxHeartbeats 4000000 in
set_option maxRecDepth 100000 in
theorem v_writeBlocks_x (l : Launch) (htr : l.stackTraces = false) (D : va_G) (dA : Nat → ClassId) (sz : Nat) (h : Nat) (ad : Nat → Nat) (x : VS) (n : Nat) (k0 : Nat) (hn : n < 2 ^ 31) (hk : k0 < n) (hz : ∀ j : Nat, j < k0 → ¬ cutN x.cutLeft j = 0) (hc : cutN x.cutLeft k0 = 0) : mX l ⟨"SeriesVault", "writeBlocks", "(I)V"⟩ [Cond.code ⟨"SeriesVault", "writeBlocks", "(I)V"⟩ prog_1_method_16_code 3 none] { frames := 7, cells := 1, slots := 6, locals := 101 } (pC D dA [.ref h, .int (nI n)] (VW dA h ad x) sz) "java/lang/IllegalStateException" (fun st9 t9 => va_F (va_A (VW dA h ad x) sz) st9 t9 ∧ bW D (va_A (VW dA h ad x) sz) (VW dA h ad (VS.s_writes (VS.s_cutLeft (VS.s_powered x false) (-1)) (x.writes + k0))) t9) 1 6 (va_A (VW dA h ad x) sz) := by
  refine mkX (y := ⟨"SeriesVault", "writeBlocks", "(I)V"⟩) (cc := prog_1_method_16_code) (maxL := 3) (av := [.ref h, .int (nI n)]) (ws := VW dA h ad x) (sz := sz) (B := fun A => (fun st9 t9 => va_F A st9 t9 ∧ bW D A (VW dA h ad (VS.s_writes (VS.s_cutLeft (VS.s_powered x false) (-1)) (x.writes + k0))) t9)) (by decide) (Nat.le_of_ble_eq_true rfl) ?_
  intro A p e s m below meth c ls hsz hno hB
  obtain ⟨hx, hb, hr, hml, hown, hin, hlk, hE, hK, hP, hD, hS, hA, hN, hl⟩ := hB
  have hown : s.vm.findClass "SeriesVault" = some m.cls := hown
  have hl : lv_has ls 3 [(0, .ref h), (1, .int (nI n))] := hl
  obtain ⟨H, hH⟩ : ∃ z, z = s.heap := ⟨_, rfl⟩
  have hP : va_P D vwCl (VW dA h ad x) H := by rw [hH]; exact hP
  have hS : va_S A s.heap H [] := by rw [hH]; exact hS
  rw [← hH]
  refine lv_iconst (v := 0) hx hb d_V_writeBlocks_0 (by decide) ?_
  refine lv_istore_n hx hb d_V_writeBlocks_1 rfl hl (by decide) rfl (fun ls hl => ?_)
  have hl : lv_has ls 3 [(2, .int 0), (0, .ref h), (1, .int (nI n))] := hl
  have L2 : ∀ (k9 : Nat) (k : Nat) (i1 : k ≤ k0) (hk9 : n - k = k9), ∀ (H : Heap) (locs : List Loc) (ls : Array Slot) (hP : va_P D vwCl (VW dA h ad (VS.s_writes (VS.s_cutLeft x (cutN x.cutLeft k)) (x.writes + k))) H) (hD : va_D A (VW dA h ad (VS.s_writes (VS.s_cutLeft x (cutN x.cutLeft k)) (x.writes + k)))) (hS : va_S A s.heap H locs) (hl : lv_has ls 3 [(2, .int (nI k)), (1, .int (nI n)), (0, .ref h)]), W p l e ({ frames := 7, cells := 1, slots := 6, locals := 101 } : Room) s m ([.ref h, .int (nI n)] : List Value).toArray below meth c H locs 0 0 (xQ below "java/lang/IllegalStateException" (fun st9 t9 => va_F A st9 t9 ∧ bW D A (VW dA h ad (VS.s_writes (VS.s_cutLeft (VS.s_powered x false) (-1)) (x.writes + k0))) t9) s 1 6 A) (F0 m 2 ls []) := by
    intro k9
    induction k9 using Nat.strongRecOn with
    | ind k9 ih2 =>
      intro k i1 hk9 H locs ls hP hD hS hl
      refine lv_iload_n hx hb d_V_writeBlocks_2 rfl (lv_at hl 0 rfl) ?_
      refine lv_iload_n hx hb d_V_writeBlocks_3 rfl (lv_at hl 1 rfl) ?_
      refine lv_icmp_ge hx hb d_V_writeBlocks_4 (tgt := 17) rfl (fun g1 => ?_) (fun g1 => ?_)
      · have g1 := (nI_leI (a := n) (b := k) (by omega) (by omega)).mp g1; exfalso; omega
      have g1 := mt (nI_leI (a := n) (b := k) (by omega) (by omega)).mpr g1
      rcases (show k < k0 ∨ k = k0 by omega) with hlt | heq
      · refine lv_aload_n hx hb d_V_writeBlocks_7 rfl (lv_at hl 2 rfl) ?_
        refine jfV (rnV (As := []) (rest := []) hx hb hml hown hE hK (hN _ _ hS) hP hD (v_writeBlock l D dA H.size h ad (VS.s_writes (VS.s_cutLeft x (cutN x.cutLeft k)) (x.writes + k)) (hz k hlt)) (q0 := 0) rfl rfl w737 w736 w738 w739 w277 rfl rfl ⟨⟨by decide, by decide⟩, rfl⟩ ⟨(Nat.le_of_ble_eq_true rfl), (Nat.le_of_ble_eq_true rfl)⟩ rfl hl.1 rfl (Nat.le_of_ble_eq_true rfl) d_V_writeBlocks_8 ⟨(Nat.le_of_ble_eq_true rfl), (Nat.le_of_ble_eq_true rfl)⟩) hP hD hS hA (fun u3 H locs hp9 hP hD hS => ?_)
        have hP : va_P D vwCl (VW dA h ad (VS.s_writes (VS.s_cutLeft x (cutF (cutN x.cutLeft k))) ((x.writes + k) + 1))) H := hP
        have hD : va_D A (VW dA h ad (VS.s_writes (VS.s_cutLeft x (cutF (cutN x.cutLeft k))) ((x.writes + k) + 1))) := hD
        refine lv_iinc (k := 0) (v := nI (k + 1)) hx hb d_V_writeBlocks_11 hl rfl (iincN (k) 1 1 (by decide)) (by decide) rfl (fun ls hl => ?_)
        have hl : lv_has ls 3 [(2, .int (nI (k + 1))), (1, .int (nI n)), (0, .ref h)] := hl
        refine lv_goto hx hb d_V_writeBlocks_14 (tgt := 2) rfl ?_
        exact ih2 _ (by omega) (k + 1) (by omega) rfl H _ ls hP hD hS (lv_sub hl [0, 1, 2] rfl)
      · refine lv_aload_n hx hb d_V_writeBlocks_7 rfl (lv_at hl 2 rfl) ?_
        refine xfV (w1 := VW dA h ad (VS.s_writes (VS.s_cutLeft (VS.s_powered x false) (-1)) (x.writes + k))) (As := []) (rest := []) hx hb hml hown hE hK (hN _ _ hS) (v_writeBlock_x l htr D dA H.size h ad (VS.s_writes (VS.s_cutLeft x (cutN x.cutLeft k)) (x.writes + k)) (by rw [heq]; exact hc)) (q0 := 0) rfl rfl w737 w736 w738 w739 w277 rfl rfl ⟨⟨by decide, by decide⟩, rfl⟩ ⟨(Nat.le_of_ble_eq_true rfl), (Nat.le_of_ble_eq_true rfl)⟩ rfl hl.1 rfl (Nat.le_of_ble_eq_true rfl) d_V_writeBlocks_8 ⟨(Nat.le_of_ble_eq_true rfl), (Nat.le_of_ble_eq_true rfl)⟩ hP hD hS hA (fun xa4 ce H locs hP hD hS hce hcv hcl => ?_)
        have e9 : (VS.s_writes (VS.s_cutLeft (VS.s_powered x false) (-1)) (x.writes + k) : VS) = VS.s_writes (VS.s_cutLeft (VS.s_powered x false) (-1)) (x.writes + k0) := by rw [show (x.writes + k0) = (x.writes + k) from by (rw [heq])] <;> rfl
        exact xOut hno hlk hce hcv hcl (fun t ht => xEndV (cvPv e9 hP) (cvDv e9 hD) hS t (by rw [ht]; exact Nat.le_refl _) (fun q _ => by rw [ht])) hS.2.2 (Nat.le_of_ble_eq_true rfl) (Nat.le_of_ble_eq_true rfl)
  exact L2 _ 0 (Nat.zero_le _) rfl H _ ls hP hD hS (lv_sub hl [0, 2, 1] rfl)
set_option maxHeartbeats 4000000 in
set_option maxRecDepth 100000 in
theorem v_flush_i0 (l : Launch) (htr : l.stackTraces = false) (D : va_G) (dA : Nat → ClassId) (sz : Nat) (h : Nat) (ad : Nat → Nat) (x : VS) (PS : Nat → PT) (SS : Nat → List LB) (k0 : Nat) (ho : x.powered = true) (hj0 : 0 < x.jsize) (hj1 : x.jsize < 2 ^ 31) (hps : psOk dA x.nP x.npc x.pl PS) (hpn : x.npc ≤ 32) (hfr : x.jlimit + 2 + (x.ncat + sumN x.npc (blN PS)) ≤ x.diskBlocks) (hkn : knOk dA x.kn x.nser x.pl SS) (hn : x.nser ≤ 256) (hdk : x.diskBlocks ≤ 256) (hz : x.hsize = 0) (hf : (ctG2 SS x.nser).1 ≤ x.fr PS) (hk : k0 < (ctG2 SS x.nser).1 + 1) (hcz : ∀ j : Nat, j < k0 → ¬ cutN x.cutLeft j = 0) (hc : cutN x.cutLeft k0 = 0) : mX l ⟨"SeriesVault", "flush", "()I"⟩ [Cond.code ⟨"SeriesVault", "flush", "()I"⟩ prog_1_method_36_code 4 (some FieldType.int)] { frames := 8, cells := 1, slots := 6, locals := 123 } (pC D dA [.ref h] (VW dA h ad x) sz) "java/lang/IllegalStateException" (fun st9 t9 => va_F (va_A (VW dA h ad x) sz) st9 t9 ∧ ∃ u9 : Unit, (True) ∧ bW D (va_A (VW dA h ad x) sz) (VW dA h ad (VS.s_writes (VS.s_cutLeft (VS.s_powered x false) (-1)) (x.writes + k0))) t9) 1 6 (va_A (VW dA h ad x) sz) := by
  refine mkX (y := ⟨"SeriesVault", "flush", "()I"⟩) (cc := prog_1_method_36_code) (maxL := 4) (av := [.ref h]) (ws := VW dA h ad x) (sz := sz) (B := fun A => (fun st9 t9 => va_F A st9 t9 ∧ ∃ u9 : Unit, (True) ∧ bW D A (VW dA h ad (VS.s_writes (VS.s_cutLeft (VS.s_powered x false) (-1)) (x.writes + k0))) t9)) (by decide) (Nat.le_of_ble_eq_true rfl) ?_
  intro A p e s m below meth c ls hsz hno hB
  obtain ⟨hx, hb, hr, hml, hown, hin, hlk, hE, hK, hP, hD, hS, hA, hN, hl⟩ := hB
  have hown : s.vm.findClass "SeriesVault" = some m.cls := hown
  have hl : lv_has ls 4 [(0, .ref h)] := hl
  obtain ⟨H, hH⟩ : ∃ z, z = s.heap := ⟨_, rfl⟩
  have hP : va_P D vwCl (VW dA h ad x) H := by rw [hH]; exact hP
  have hS : va_S A s.heap H [] := by rw [hH]; exact hS
  rw [← hH]
  refine lv_aload_n hx hb d_V_flush_0 rfl (lv_at hl 0 rfl) ?_
  refine jkV (wr := []) (rnV (As := []) (rest := []) hx hb hml hown hE hK (hN _ _ hS) hP hD (v_checkPower l D dA H.size h ad x ho) (q0 := 0) rfl rfl w278 w276 w279 w280 w277 rfl rfl ⟨⟨by decide, by decide⟩, rfl⟩ ⟨(Nat.le_of_ble_eq_true rfl), (Nat.le_of_ble_eq_true rfl)⟩ rfl hl.1 rfl (Nat.le_of_ble_eq_true rfl) d_V_flush_1 ⟨(show 0 + 0 ≤ 1 by omega), (show 0 + 0 ≤ 6 by omega)⟩) hP hD hS hA (fun u2 H locs hp9 hP hD hS => ?_)
  have hP : va_P D vwCl (VW dA h ad x) H := hP
  have hD : va_D A (VW dA h ad x) := hD
  refine lv_aload_n hx hb d_V_flush_4 rfl (lv_at hl 0 rfl) ?_
  refine gF (v := .ref (ad 0)) hx hb hown hE hK hP 0 rfl rfl layV 8 (by decide) w312 rfl d_V_flush_5 ?_
  refine gFN (v := .int (nI x.jsize)) hx hb hown hE hK hP 2 rfl rfl layJ 6 (by decide) w318 rfl d_V_flush_8 ?_
  refine lv_if_ne hx hb d_V_flush_11 (tgt := 16) rfl (fun g3 => ?_) (fun g3 => ?_)
  rotate_left
  · have g3 := (nI_eq (a := x.jsize) (b := 0) (by omega) (by decide)).mp g3; exfalso; omega
  have g3 := mt (nI_eq (a := x.jsize) (b := 0) (by omega) (by decide)).mpr g3
  refine lv_aload_n hx hb d_V_flush_16 rfl (lv_at hl 0 rfl) ?_
  refine lv_aload_n hx hb d_V_flush_17 rfl (lv_at hl 0 rfl) ?_
  refine gF (v := .ref (ad 1)) hx hb hown hE hK hP 0 rfl rfl layV 9 (by decide) w576 rfl d_V_flush_18 ?_
  refine jkN (wr := []) (rnV (As := [.ref (ad 1)]) (rest := []) hx hb hml hown hE hK (hN _ _ hS) hP hD (v_packed_0h l D dA H.size h ad x hz) (q0 := 0) rfl rfl w1383 w1382 w1384 w1385 w277 rfl rfl ⟨⟨by decide, by decide⟩, rfl⟩ ⟨(Nat.le_of_ble_eq_true rfl), (Nat.le_of_ble_eq_true rfl)⟩ rfl hl.1 rfl (Nat.le_of_ble_eq_true rfl) d_V_flush_21 ⟨(show 0 + 0 + 0 ≤ 1 by omega), (show 0 + 0 + 0 ≤ 6 by omega)⟩) hP hD hS hA (fun u5 H locs hp9 hP hD hS => ?_)
  have hP : va_P D vwCl (VW dA h ad x) H := hP
  have hD : va_D A (VW dA h ad x) := hD
  refine lv_astore_nN hx hb d_V_flush_24 rfl hl (by decide) rfl (fun ls hl => ?_)
  have hl : lv_has ls 4 [(1, .null), (0, .ref h)] := hl
  refine lv_aload_n hx hb d_V_flush_25 rfl (lv_at hl 1 rfl) ?_
  refine jkI (wr := []) (rnV (As := []) (rest := []) hx hb hml hown hE hK (hN _ _ hS) hP hD (v_catalogBlocks l D dA H.size h ad x SS hkn (show x.nser ≤ 256 from by omega)) (q0 := 0) rfl rfl w1387 w1386 w1388 w1389 w277 rfl rfl ⟨⟨by decide, by decide⟩, rfl⟩ ⟨(Nat.le_of_ble_eq_true rfl), (Nat.le_of_ble_eq_true rfl)⟩ rfl hl.1 rfl (Nat.le_of_ble_eq_true rfl) d_V_flush_26 ⟨(show 0 + 0 + 0 + 0 ≤ 1 by omega), (show 0 + 0 + 0 + 0 ≤ 6 by omega)⟩) hP hD hS hA (fun r6 u7 H locs hp9 hP hD hS => ?_)
  have hP : va_P D vwCl (VW dA h ad x) H := hP
  have hD : va_D A (VW dA h ad x) := hD
  replace hp9 : nI (ctG2 SS x.nser).1 = r6 := Eq.symm hp9
  subst hp9
  refine lv_istore_n hx hb d_V_flush_29 rfl hl (by decide) rfl (fun ls hl => ?_)
  have hl : lv_has ls 4 [(2, .int (nI (ctG2 SS x.nser).1)), (1, .null), (0, .ref h)] := hl
  refine lv_aload_nN hx hb d_V_flush_30 rfl (lv_at hl 1 rfl) ?_
  have hPc := hP.sub (ws' := []) [] rfl
  have hDc := hD.sub (ws' := []) [] (by decide) rfl
  refine jpI (rnS (As := [.null]) (rest := []) hx hb hml hown hE hK (hN _ _ hS) hPc hDc (v_blocksOf_0 l D dA H.size ) w1391 w1390 w1392 w277 rfl rfl ⟨⟨by decide, by decide⟩, rfl⟩ ⟨(Nat.le_of_ble_eq_true rfl), (Nat.le_of_ble_eq_true rfl)⟩ rfl hl.1 rfl (Nat.le_of_ble_eq_true rfl) d_V_flush_31 ⟨(show 0 + 0 + 0 + 0 + 0 ≤ 1 by omega), (show 0 + 0 + 0 + 0 + 0 ≤ 6 by omega)⟩) hP hD hS hA (fun r8 u9 H locs hp9 hP hD hS => ?_)
  have hP : va_P D vwCl (VW dA h ad x) H := hP
  have hD : va_D A (VW dA h ad x) := hD
  replace hp9 : 0 = r8 := Eq.symm hp9
  subst hp9
  refine lv_iload_n hx hb d_V_flush_34 rfl (lv_at hl 0 rfl) ?_
  refine lv_iadd hx hb d_V_flush_35 (tpi (y := nI ((ctG2 SS x.nser).1)) ((nI_add 0 ((ctG2 SS x.nser).1)).trans (congrArg nI (Nat.zero_add _))) ?_)
  refine lv_istore_n hx hb d_V_flush_36 rfl hl (by decide) rfl (fun ls hl => ?_)
  have hl : lv_has ls 4 [(3, .int (nI ((ctG2 SS x.nser).1))), (2, .int (nI (ctG2 SS x.nser).1)), (1, .null), (0, .ref h)] := hl
  refine lv_aload_nN hx hb d_V_flush_37 rfl (lv_at hl 2 rfl) ?_
  refine lv_ifnullN hx hb d_V_flush_38 (tgt := 53) rfl ?_
  have fe : x.fr PS = x.diskBlocks - 2 - x.jlimit - (x.ncat + sumN x.npc (blN PS)) := rfl
  refine lv_iload_n hx hb d_V_flush_53 rfl (lv_at hl 0 rfl) ?_
  refine lv_aload_n hx hb d_V_flush_54 rfl (lv_at hl 3 rfl) ?_
  refine jkI (wr := []) (rnV (As := []) (rest := [.int (nI ((ctG2 SS x.nser).1))]) hx hb hml hown hE hK (hN _ _ hS) hP hD (v_freeBlocks l D dA H.size h ad x PS hps (show x.npc ≤ 32 from by omega) (show x.jlimit + 2 + (x.ncat + sumN x.npc (blN PS)) ≤ x.diskBlocks from by omega)) (q0 := 0) rfl rfl w644 w643 w645 w646 w277 rfl rfl ⟨⟨by decide, by decide⟩, rfl⟩ ⟨(Nat.le_of_ble_eq_true rfl), (Nat.le_of_ble_eq_true rfl)⟩ rfl hl.1 rfl (Nat.le_of_ble_eq_true rfl) d_V_flush_55 ⟨(show 0 + 0 + 0 + 0 + 0 + 0 ≤ 1 by omega), (show 0 + 0 + 0 + 0 + 0 + 0 ≤ 6 by omega)⟩) hP hD hS hA (fun r10 u11 H locs hp9 hP hD hS => ?_)
  have hP : va_P D vwCl (VW dA h ad x) H := hP
  have hD : va_D A (VW dA h ad x) := hD
  replace hp9 : nI (x.fr PS) = r10 := Eq.symm hp9
  subst hp9
  refine lv_icmp_le hx hb d_V_flush_58 (tgt := 69) rfl (fun _ => ?_) (fun h9 => absurd ((nI_leI (a := (ctG2 SS x.nser).1) (b := x.fr PS) (by omega) (by omega)).mpr hf) h9)
  refine lv_aload_n hx hb d_V_flush_69 rfl (lv_at hl 3 rfl) ?_
  refine lv_iload_n hx hb d_V_flush_70 rfl (lv_at hl 0 rfl) ?_
  refine lv_iconst (v := 1) hx hb d_V_flush_71 (by decide) ?_
  refine lv_iadd hx hb d_V_flush_72 (tpi (y := nI (((ctG2 SS x.nser).1) + 1)) (nI_add ((ctG2 SS x.nser).1) (1)) ?_)
  refine xfV (w1 := VW dA h ad (VS.s_writes (VS.s_cutLeft (VS.s_powered x false) (-1)) (x.writes + k0))) (As := [.int (nI (((ctG2 SS x.nser).1) + 1))]) (rest := []) hx hb hml hown hE hK (hN _ _ hS) (v_writeBlocks_x l htr D dA H.size h ad x (((ctG2 SS x.nser).1) + 1) k0 (show (((ctG2 SS x.nser).1) + 1) < 2 ^ 31 from by omega) (show k0 < (((ctG2 SS x.nser).1) + 1) from by omega) hcz hc) (q0 := 0) rfl rfl w1394 w1393 w1395 w1396 w277 rfl rfl ⟨⟨by decide, by decide⟩, rfl⟩ ⟨(Nat.le_of_ble_eq_true rfl), (Nat.le_of_ble_eq_true rfl)⟩ rfl hl.1 rfl (Nat.le_of_ble_eq_true rfl) d_V_flush_73 ⟨(show 0 + 0 + 0 + 0 + 0 + 0 + 1 ≤ 1 by omega), (show 0 + 0 + 0 + 0 + 0 + 0 + 6 ≤ 6 by omega)⟩ hP hD hS hA (fun xa12 ce H locs hP hD hS hce hcv hcl => ?_)
  have hP : va_P D vwCl (VW dA h ad (VS.s_writes (VS.s_cutLeft (VS.s_powered x false) (-1)) (x.writes + k0))) H := hP
  have hD : va_D A (VW dA h ad (VS.s_writes (VS.s_cutLeft (VS.s_powered x false) (-1)) (x.writes + k0))) := hD
  exact xOut hno hlk hce hcv hcl (fun t ht => xkE () trivial hP hD hS t (by rw [ht]; exact Nat.le_refl _) (fun q _ => by rw [ht])) hS.2.2 (show 0 + 0 + 0 + 0 + 0 + 0 + 1 ≤ 1 by omega) (show 0 + 0 + 0 + 0 + 0 + 0 + 6 ≤ 6 by omega)
set_option maxHeartbeats 4000000 in
set_option maxRecDepth 100000 in
theorem v_flush_x (l : Launch) (htr : l.stackTraces = false) (D : va_G) (dA : Nat → ClassId) (sz : Nat) (h : Nat) (ad : Nat → Nat) (x : VS) (ho : x.powered = false) : mX l ⟨"SeriesVault", "flush", "()I"⟩ [Cond.code ⟨"SeriesVault", "flush", "()I"⟩ prog_1_method_36_code 4 (some FieldType.int)] { frames := 7, cells := 1, slots := 6, locals := 101 } (pC D dA [.ref h] (VW dA h ad x) sz) "java/lang/IllegalStateException" (fun st9 t9 => va_F (va_A (VW dA h ad x) sz) st9 t9 ∧ ∃ u9 : Unit, (True) ∧ bW D (va_A (VW dA h ad x) sz) (VW dA h ad x) t9) 1 6 (va_A (VW dA h ad x) sz) := by
  refine mkX (y := ⟨"SeriesVault", "flush", "()I"⟩) (cc := prog_1_method_36_code) (maxL := 4) (av := [.ref h]) (ws := VW dA h ad x) (sz := sz) (B := fun A => (fun st9 t9 => va_F A st9 t9 ∧ ∃ u9 : Unit, (True) ∧ bW D A (VW dA h ad x) t9)) (by decide) (Nat.le_of_ble_eq_true rfl) ?_
  intro A p e s m below meth c ls hsz hno hB
  obtain ⟨hx, hb, hr, hml, hown, hin, hlk, hE, hK, hP, hD, hS, hA, hN, hl⟩ := hB
  have hown : s.vm.findClass "SeriesVault" = some m.cls := hown
  have hl : lv_has ls 4 [(0, .ref h)] := hl
  obtain ⟨H, hH⟩ : ∃ z, z = s.heap := ⟨_, rfl⟩
  have hP : va_P D vwCl (VW dA h ad x) H := by rw [hH]; exact hP
  have hS : va_S A s.heap H [] := by rw [hH]; exact hS
  rw [← hH]
  refine lv_aload_n hx hb d_V_flush_0 rfl (lv_at hl 0 rfl) ?_
  refine xfV (w1 := VW dA h ad x) (As := []) (rest := []) hx hb hml hown hE hK (hN _ _ hS) (v_checkPower_x l htr D dA H.size h ad x ho) (q0 := 0) rfl rfl w278 w276 w279 w280 w277 rfl rfl ⟨⟨by decide, by decide⟩, rfl⟩ ⟨(Nat.le_of_ble_eq_true rfl), (Nat.le_of_ble_eq_true rfl)⟩ rfl hl.1 rfl (Nat.le_of_ble_eq_true rfl) d_V_flush_1 ⟨(show 0 + 1 ≤ 1 by omega), (show 0 + 6 ≤ 6 by omega)⟩ hP hD hS hA (fun xa1 ce H locs hP hD hS hce hcv hcl => ?_)
  have hP : va_P D vwCl (VW dA h ad x) H := hP
  have hD : va_D A (VW dA h ad x) := hD
  exact xOut hno hlk hce hcv hcl (fun t ht => xkE () trivial hP hD hS t (by rw [ht]; exact Nat.le_refl _) (fun q _ => by rw [ht])) hS.2.2 (show 0 + 1 ≤ 1 by omega) (show 0 + 6 ≤ 6 by omega)
theorem isPc_m {dA : Nat → ClassId} {pl pl2 : va_W} {a : Nat} {P : PT} (hs : ∀ c, c ∈ pl → c ∈ pl2) (h : isPc dA pl a P) : isPc dA pl2 a P := by
  obtain ⟨o, t, v, m1, m2, m3, m4⟩ := h
  exact ⟨o, t, v, hs _ m1, hs _ m2, hs _ m3, hs _ m4⟩
def VS.flS (x : VS) (SS : Nat → List LB) (nb mp : Nat) (pl1 : va_W) : VS := VS.s_pl (VS.s_scat (VS.s_slast (VS.s_sser (VS.s_shor (VS.s_ssc (VS.s_ssT (VS.s_ssF (VS.s_ssO (VS.s_spc (VS.s_sP (VS.s_ncat (VS.s_npc (VS.s_nP (VS.s_hsize (VS.s_jch (VS.s_jfill (VS.s_jblock (VS.s_junits (VS.s_jkept (VS.s_jsize (VS.s_writes (VS.s_cutLeft x (cutN x.cutLeft (nb + (ctG2 SS x.nser).1 + 1))) (x.writes + (nb + (ctG2 SS x.nser).1 + 1))) 0) 0) 0) 0) 0) false) 0) (va_up x.nP x.npc (some mp))) (x.npc + 1)) ((ctG2 SS x.nser).1)) (va_cpy (va_up x.nP x.npc (some mp)) x.sP 0 0 (x.npc + 1))) (x.npc + 1)) (va_cpy x.nsO x.ssO 0 0 x.nsc)) (va_cpy x.nsF x.ssF 0 0 x.nsc)) (va_cpy x.nsT x.ssT 0 0 x.nsc)) x.nsc) x.nhor) x.nser) (va_cpy x.nlast x.slast 0 0 x.nser)) ((ctG2 SS x.nser).1)) pl1
theorem d_V_flush_41 : decode prog_1_method_36_code 41 = .ok (.aload_n 0, 1) := by decide +kernel
theorem d_V_flush_42 : decode prog_1_method_36_code 42 = .ok (.getfield 33, 3) := by decide +kernel
theorem d_V_flush_45 : decode prog_1_method_36_code 45 = .ok (.getfield 305, 3) := by decide +kernel
theorem d_V_flush_48 : decode prog_1_method_36_code 48 = .ok (.bipush 32, 2) := by decide +kernel
theorem d_V_flush_50 : decode prog_1_method_36_code 50 = .ok (.if_icmp .ge 11, 3) := by decide +kernel
set_option maxHeartbeats 4000000 in
set_option maxRecDepth 100000 in
theorem v_flush_1 (l : Launch) (D : va_G) (dA : Nat → ClassId) (sz : Nat) (h : Nat) (ad : Nat → Nat) (x : VS) (PS : Nat → PT) (SS : Nat → List LB) (nb : Nat) (ho : x.powered = true) (hj0 : 0 < x.jsize) (hj1 : x.jsize < 2 ^ 31) (hps : psOk dA x.nP x.npc x.pl PS) (hpn : x.npc ≤ 32) (hfr : x.jlimit + 2 + (x.ncat + sumN x.npc (blN PS)) ≤ x.diskBlocks) (hkn : knOk dA x.kn x.nser x.pl SS) (hn : x.nser ≤ 256) (hdk : x.diskBlocks ≤ 256) (hhn : x.hsize ≤ 12000) (hhN : x.hsize ≤ x.hN) (hhN2 : x.hN ≤ 65536) (hho : ∀ i : Nat, i < x.hsize → x.hO i < x.nser) (hz : 0 < x.hsize) (hbl : ∀ (O : Nat → Nat) (T V : Nat → Int64), laid x.hO x.hsize x.hsize x.hO O → laid x.hO x.hsize x.hsize x.hT T → laid x.hO x.hsize x.hsize x.hV V → (mkP x.hsize O T V).bl = nb) (hj2 : x.jN ≤ 65536) (hj3 : x.jkept < 2 ^ 31) (h2 : x.nsc ≤ 64) (hp32 : x.npc < 32) (hf : nb + (ctG2 SS x.nser).1 ≤ x.fr PS) (hcz : ∀ j : Nat, j < nb + (ctG2 SS x.nser).1 + 1 → ¬ cutN x.cutLeft j = 0) : Met l ⟨"SeriesVault", "flush", "()I"⟩ [Cond.code ⟨"SeriesVault", "flush", "()I"⟩ prog_1_method_36_code 4 (some FieldType.int)] { frames := 6, cells := 5, slots := 8 + (3 * x.hsize + x.nser + 1), locals := 124 } (pC D dA [.ref h] (VW dA h ad x) sz) (va_Qi (fun (r9 : Int32) (u9 : VS) => r9 = nI (nb + (ctG2 SS x.nser).1 + 1) ∧ (∃ (O : Nat → Nat) (T V : Nat → Int64) (mp : Nat) (pl1 : va_W), laid x.hO x.hsize x.hsize x.hO O ∧ laid x.hO x.hsize x.hsize x.hT T ∧ laid x.hO x.hsize x.hsize x.hV V ∧ (∀ q, O q < 256) ∧ isPc dA pl1 mp (mkP x.hsize O T V) ∧ (∀ c, c ∈ x.pl → c ∈ pl1) ∧ u9 = x.flS SS nb mp pl1)) (fun (u9 : VS) t9 => bW D (va_A (VW dA h ad x) sz) (VW dA h ad u9) t9) (va_A (VW dA h ad x) sz)) 5 (8 + (3 * x.hsize + x.nser + 1)) (va_A (VW dA h ad x) sz) := by
  refine mkC (y := ⟨"SeriesVault", "flush", "()I"⟩) (cc := prog_1_method_36_code) (maxL := 4) (av := [.ref h]) (ws := VW dA h ad x) (sz := sz) (Qc := fun A => va_Qi (fun (r9 : Int32) (u9 : VS) => r9 = nI (nb + (ctG2 SS x.nser).1 + 1) ∧ (∃ (O : Nat → Nat) (T V : Nat → Int64) (mp : Nat) (pl1 : va_W), laid x.hO x.hsize x.hsize x.hO O ∧ laid x.hO x.hsize x.hsize x.hT T ∧ laid x.hO x.hsize x.hsize x.hV V ∧ (∀ q, O q < 256) ∧ isPc dA pl1 mp (mkP x.hsize O T V) ∧ (∀ c, c ∈ x.pl → c ∈ pl1) ∧ u9 = x.flS SS nb mp pl1)) (fun (u9 : VS) t9 => bW D A (VW dA h ad u9) t9) A) (by decide) (Nat.le_of_ble_eq_true rfl) ?_
  intro A p e s m below meth c ls hsz hB
  obtain ⟨hx, hb, hr, hml, hown, hin, hlk, hE, hK, hP, hD, hS, hA, hN, hl⟩ := hB
  have hown : s.vm.findClass "SeriesVault" = some m.cls := hown
  have hl : lv_has ls 4 [(0, .ref h)] := hl
  obtain ⟨H, hH⟩ : ∃ z, z = s.heap := ⟨_, rfl⟩
  have hP : va_P D vwCl (VW dA h ad x) H := by rw [hH]; exact hP
  have hS : va_S A s.heap H [] := by rw [hH]; exact hS
  rw [← hH]
  refine lv_aload_n hx hb d_V_flush_0 rfl (lv_at hl 0 rfl) ?_
  refine jkV (wr := []) (rnV (As := []) (rest := []) hx hb hml hown hE hK (hN _ _ hS) hP hD (v_checkPower l D dA H.size h ad x ho) (q0 := 0) rfl rfl w278 w276 w279 w280 w277 rfl rfl ⟨⟨by decide, by decide⟩, rfl⟩ ⟨(Nat.le_of_ble_eq_true rfl), (Nat.le_of_ble_eq_true rfl)⟩ rfl hl.1 rfl (Nat.le_of_ble_eq_true rfl) d_V_flush_1 ⟨(show 0 + 0 ≤ 5 by omega), (show 0 + 0 ≤ 8 + (3 * x.hsize + x.nser + 1) by omega)⟩) hP hD hS hA (fun u2 H locs hp9 hP hD hS => ?_)
  have hP : va_P D vwCl (VW dA h ad x) H := hP
  have hD : va_D A (VW dA h ad x) := hD
  refine lv_aload_n hx hb d_V_flush_4 rfl (lv_at hl 0 rfl) ?_
  refine gF (v := .ref (ad 0)) hx hb hown hE hK hP 0 rfl rfl layV 8 (by decide) w312 rfl d_V_flush_5 ?_
  refine gFN (v := .int (nI x.jsize)) hx hb hown hE hK hP 2 rfl rfl layJ 6 (by decide) w318 rfl d_V_flush_8 ?_
  refine lv_if_ne hx hb d_V_flush_11 (tgt := 16) rfl (fun g3 => ?_) (fun g3 => ?_)
  rotate_left
  · have g3 := (nI_eq (a := x.jsize) (b := 0) (by omega) (by decide)).mp g3; exfalso; omega
  have g3 := mt (nI_eq (a := x.jsize) (b := 0) (by omega) (by decide)).mpr g3
  refine lv_aload_n hx hb d_V_flush_16 rfl (lv_at hl 0 rfl) ?_
  refine lv_aload_n hx hb d_V_flush_17 rfl (lv_at hl 0 rfl) ?_
  refine gF (v := .ref (ad 1)) hx hb hown hE hK hP 0 rfl rfl layV 9 (by decide) w576 rfl d_V_flush_18 ?_
  refine jkR (wr := []) (rnV (As := [.ref (ad 1)]) (rest := []) hx hb hml hown hE hK (hN _ _ hS) hP hD (v_packed_1h l D dA H.size h ad x hz hhn hhN hhN2 hn hho) (q0 := 0) rfl rfl w1383 w1382 w1384 w1385 w277 rfl rfl ⟨⟨by decide, by decide⟩, rfl⟩ ⟨(Nat.le_of_ble_eq_true rfl), (Nat.le_of_ble_eq_true rfl)⟩ rfl hl.1 rfl (Nat.le_of_ble_eq_true rfl) d_V_flush_21 ⟨(show 0 + 0 + 5 ≤ 5 by omega), (show 0 + 0 + (8 + (3 * x.hsize + x.nser + 1)) ≤ 8 + (3 * x.hsize + x.nser + 1) by omega)⟩) hP hD hS hA (fun u4 mp H locs hp9 hP hD hS => ?_)
  obtain ⟨y5, O, T, V⟩ := u4
  have hP : va_P D vwCl (VW dA h ad y5) H := hP
  have hD : va_D A (VW dA h ad y5) := hD
  obtain ⟨f_ey_6, f_pc_7, f_l1_8, f_l2_9, f_l3_10, f_l4_11⟩ := hp9
  obtain ⟨hy, hsub⟩ := f_ey_6
  have hpc := f_pc_7
  obtain ⟨pl1, epl⟩ : ∃ z, z = y5.pl := ⟨_, rfl⟩
  rw [← epl] at hy hsub hpc
  subst hy
  have hP : va_P D vwCl (VW dA h ad (VS.s_pl x pl1)) H := hP
  have hD : va_D A (VW dA h ad (VS.s_pl x pl1)) := hD
  have hok : pcOk (mkP x.hsize O T V) := mkP_ok hhn f_l4_11
  have hps1 := psOk_m hsub hps
  have hb0 := hbl O T V f_l1_8 f_l2_9 f_l3_10
  refine lv_astore_n hx hb d_V_flush_24 rfl hl (by decide) rfl (fun ls hl => ?_)
  have hl : lv_has ls 4 [(1, .ref mp), (0, .ref h)] := hl
  refine lv_aload_n hx hb d_V_flush_25 rfl (lv_at hl 1 rfl) ?_
  refine jkI (wr := []) (rnV (As := []) (rest := []) hx hb hml hown hE hK (hN _ _ hS) hP hD (v_catalogBlocks l D dA H.size h ad (VS.s_pl x pl1) SS (knOk_m hsub hkn) (show x.nser ≤ 256 from by omega)) (q0 := 0) rfl rfl w1387 w1386 w1388 w1389 w277 rfl rfl ⟨⟨by decide, by decide⟩, rfl⟩ ⟨(Nat.le_of_ble_eq_true rfl), (Nat.le_of_ble_eq_true rfl)⟩ rfl hl.1 rfl (Nat.le_of_ble_eq_true rfl) d_V_flush_26 ⟨(show 0 + 0 + 5 + 0 ≤ 5 by omega), (show 0 + 0 + (8 + (3 * x.hsize + x.nser + 1)) + 0 ≤ 8 + (3 * x.hsize + x.nser + 1) by omega)⟩) hP hD hS hA (fun r12 u13 H locs hp9 hP hD hS => ?_)
  have hP : va_P D vwCl (VW dA h ad (VS.s_pl x pl1)) H := hP
  have hD : va_D A (VW dA h ad (VS.s_pl x pl1)) := hD
  replace hp9 : nI (ctG2 SS x.nser).1 = r12 := Eq.symm hp9
  subst hp9
  refine lv_istore_n hx hb d_V_flush_29 rfl hl (by decide) rfl (fun ls hl => ?_)
  have hl : lv_has ls 4 [(2, .int (nI (ctG2 SS x.nser).1)), (1, .ref mp), (0, .ref h)] := hl
  refine lv_aload_n hx hb d_V_flush_30 rfl (lv_at hl 1 rfl) ?_
  refine jkI (wr := []) (rnS (As := [.ref mp]) (rest := []) hx hb hml hown hE hK (hN _ _ hS) hP hD (v_blocksOf l D dA H.size (VW dA h ad (VS.s_pl x pl1)) mp (mkP x.hsize O T V) (isPc_m (fun _ hm => (plm hm)) hpc)) w1391 w1390 w1392 w277 rfl rfl ⟨⟨by decide, by decide⟩, rfl⟩ ⟨(Nat.le_of_ble_eq_true rfl), (Nat.le_of_ble_eq_true rfl)⟩ rfl hl.1 rfl (Nat.le_of_ble_eq_true rfl) d_V_flush_31 ⟨(show 0 + 0 + 5 + 0 + 0 ≤ 5 by omega), (show 0 + 0 + (8 + (3 * x.hsize + x.nser + 1)) + 0 + 0 ≤ 8 + (3 * x.hsize + x.nser + 1) by omega)⟩) hP hD hS hA (fun r14 u15 H locs hp9 hP hD hS => ?_)
  have hP : va_P D vwCl (VW dA h ad (VS.s_pl x pl1)) H := hP
  have hD : va_D A (VW dA h ad (VS.s_pl x pl1)) := hD
  replace hp9 : nI (mkP x.hsize O T V).bl = r14 := Eq.symm hp9
  subst hp9
  refine tpi (y := nI nb) (by rw [hb0]) ?_
  refine lv_iload_n hx hb d_V_flush_34 rfl (lv_at hl 0 rfl) ?_
  refine lv_iadd hx hb d_V_flush_35 (tpi (y := nI (nb + ((ctG2 SS x.nser).1))) (nI_add (nb) ((ctG2 SS x.nser).1)) ?_)
  refine lv_istore_n hx hb d_V_flush_36 rfl hl (by decide) rfl (fun ls hl => ?_)
  have hl : lv_has ls 4 [(3, .int (nI (nb + ((ctG2 SS x.nser).1)))), (2, .int (nI (ctG2 SS x.nser).1)), (1, .ref mp), (0, .ref h)] := hl
  refine lv_aload_n hx hb d_V_flush_37 rfl (lv_at hl 2 rfl) ?_
  refine lv_ifnull hx hb d_V_flush_38 ?_
  refine lv_aload_n hx hb d_V_flush_41 rfl (lv_at hl 3 rfl) ?_
  refine gF (v := .ref (ad 3)) hx hb hown hE hK hP 0 rfl rfl layV 11 (by decide) w297 rfl d_V_flush_42 ?_
  refine gFN (v := .int (nI x.npc)) hx hb hown hE hK hP 17 rfl rfl layH 1 (by decide) w303 rfl d_V_flush_45 ?_
  refine lv_bipush (v := 32) hx hb d_V_flush_48 (by decide) ?_
  refine lv_icmp_ge hx hb d_V_flush_50 (tgt := 61) rfl (fun h9 => absurd h9 (mt (nI_leI (a := 32) (b := x.npc) (by omega) (by omega)).mp (Nat.not_le.mpr hp32))) (fun _ => ?_)
  have fe : x.fr PS = x.diskBlocks - 2 - x.jlimit - (x.ncat + sumN x.npc (blN PS)) := rfl
  refine lv_iload_n hx hb d_V_flush_53 rfl (lv_at hl 0 rfl) ?_
  refine lv_aload_n hx hb d_V_flush_54 rfl (lv_at hl 3 rfl) ?_
  refine jkI (wr := []) (rnV (As := []) (rest := [.int (nI (nb + ((ctG2 SS x.nser).1)))]) hx hb hml hown hE hK (hN _ _ hS) hP hD (v_freeBlocks l D dA H.size h ad (VS.s_pl x pl1) PS hps1 (show x.npc ≤ 32 from by omega) hfr) (q0 := 0) rfl rfl w644 w643 w645 w646 w277 rfl rfl ⟨⟨by decide, by decide⟩, rfl⟩ ⟨(Nat.le_of_ble_eq_true rfl), (Nat.le_of_ble_eq_true rfl)⟩ rfl hl.1 rfl (Nat.le_of_ble_eq_true rfl) d_V_flush_55 ⟨(show 0 + 0 + 5 + 0 + 0 + 0 ≤ 5 by omega), (show 0 + 0 + (8 + (3 * x.hsize + x.nser + 1)) + 0 + 0 + 0 ≤ 8 + (3 * x.hsize + x.nser + 1) by omega)⟩) hP hD hS hA (fun r16 u17 H locs hp9 hP hD hS => ?_)
  have hP : va_P D vwCl (VW dA h ad (VS.s_pl x pl1)) H := hP
  have hD : va_D A (VW dA h ad (VS.s_pl x pl1)) := hD
  replace hp9 : nI (x.fr PS) = r16 := Eq.symm hp9
  subst hp9
  refine lv_icmp_le hx hb d_V_flush_58 (tgt := 69) rfl (fun g18 => ?_) (fun g18 => ?_)
  rotate_left
  · have g18 := mt (nI_leI (a := nb + ((ctG2 SS x.nser).1)) (b := x.fr PS) (by omega) (by omega)).mpr g18; exfalso; omega
  have g18 := (nI_leI (a := nb + ((ctG2 SS x.nser).1)) (b := x.fr PS) (by omega) (by omega)).mp g18
  refine lv_aload_n hx hb d_V_flush_69 rfl (lv_at hl 3 rfl) ?_
  refine lv_iload_n hx hb d_V_flush_70 rfl (lv_at hl 0 rfl) ?_
  refine lv_iconst (v := 1) hx hb d_V_flush_71 (by decide) ?_
  refine lv_iadd hx hb d_V_flush_72 (tpi (y := nI ((nb + ((ctG2 SS x.nser).1)) + 1)) (nI_add (nb + ((ctG2 SS x.nser).1)) (1)) ?_)
  refine jkV (wr := []) (rnV (As := [.int (nI ((nb + ((ctG2 SS x.nser).1)) + 1))]) (rest := []) hx hb hml hown hE hK (hN _ _ hS) hP hD (v_writeBlocks l D dA H.size h ad (VS.s_pl x pl1) ((nb + ((ctG2 SS x.nser).1)) + 1) (show ((nb + ((ctG2 SS x.nser).1)) + 1) < 2 ^ 31 from by omega) hcz) (q0 := 0) rfl rfl w1394 w1393 w1395 w1396 w277 rfl rfl ⟨⟨by decide, by decide⟩, rfl⟩ ⟨(Nat.le_of_ble_eq_true rfl), (Nat.le_of_ble_eq_true rfl)⟩ rfl hl.1 rfl (Nat.le_of_ble_eq_true rfl) d_V_flush_73 ⟨(show 0 + 0 + 5 + 0 + 0 + 0 + 0 ≤ 5 by omega), (show 0 + 0 + (8 + (3 * x.hsize + x.nser + 1)) + 0 + 0 + 0 + 0 ≤ 8 + (3 * x.hsize + x.nser + 1) by omega)⟩) hP hD hS hA (fun u20 H locs hp9 hP hD hS => ?_)
  have hP : va_P D vwCl (VW dA h ad (VS.s_pl (VS.s_writes (VS.s_cutLeft x (cutN x.cutLeft ((nb + ((ctG2 SS x.nser).1)) + 1))) (x.writes + ((nb + ((ctG2 SS x.nser).1)) + 1))) pl1)) H := hP
  have hD : va_D A (VW dA h ad (VS.s_pl (VS.s_writes (VS.s_cutLeft x (cutN x.cutLeft ((nb + ((ctG2 SS x.nser).1)) + 1))) (x.writes + ((nb + ((ctG2 SS x.nser).1)) + 1))) pl1)) := hD
  refine lv_aload_n hx hb d_V_flush_76 rfl (lv_at hl 3 rfl) ?_
  refine gF (v := .ref (ad 3)) hx hb hown hE hK hP 0 rfl rfl layV 11 (by decide) w297 rfl d_V_flush_77 ?_
  refine lv_aload_n hx hb d_V_flush_80 rfl (lv_at hl 2 rfl) ?_
  refine jkV (wr := []) (rnV (As := [.ref mp]) (rest := []) hx hb hml hown hE hK (hN _ _ hS) hP hD (v_addParcel_1 l D dA H.size h ad (VS.s_pl (VS.s_writes (VS.s_cutLeft x (cutN x.cutLeft ((nb + ((ctG2 SS x.nser).1)) + 1))) (x.writes + ((nb + ((ctG2 SS x.nser).1)) + 1))) pl1) mp (mkP x.hsize O T V) hpc hok (show x.npc < 32 from by omega)) (q0 := 17) rfl rfl w1398 w1397 w1399 w1400 w583 rfl rfl ⟨⟨by decide, by decide⟩, rfl⟩ ⟨(Nat.le_of_ble_eq_true rfl), (Nat.le_of_ble_eq_true rfl)⟩ rfl hl.1 rfl (Nat.le_of_ble_eq_true rfl) d_V_flush_81 ⟨(show 0 + 0 + 5 + 0 + 0 + 0 + 0 + 0 ≤ 5 by omega), (show 0 + 0 + (8 + (3 * x.hsize + x.nser + 1)) + 0 + 0 + 0 + 0 + 0 ≤ 8 + (3 * x.hsize + x.nser + 1) by omega)⟩) hP hD hS hA (fun u22 H locs hp9 hP hD hS => ?_)
  have hP : va_P D vwCl (VW dA h ad (VS.s_pl (VS.s_npc (VS.s_nP (VS.s_writes (VS.s_cutLeft x (cutN x.cutLeft ((nb + ((ctG2 SS x.nser).1)) + 1))) (x.writes + ((nb + ((ctG2 SS x.nser).1)) + 1))) (va_up x.nP x.npc (some mp))) (x.npc + 1)) pl1)) H := hP
  have hD : va_D A (VW dA h ad (VS.s_pl (VS.s_npc (VS.s_nP (VS.s_writes (VS.s_cutLeft x (cutN x.cutLeft ((nb + ((ctG2 SS x.nser).1)) + 1))) (x.writes + ((nb + ((ctG2 SS x.nser).1)) + 1))) (va_up x.nP x.npc (some mp))) (x.npc + 1)) pl1)) := hD
  refine lv_aload_n hx hb d_V_flush_84 rfl (lv_at hl 3 rfl) ?_
  refine gF (v := .ref (ad 3)) hx hb hown hE hK hP 0 rfl rfl layV 11 (by decide) w297 rfl d_V_flush_85 ?_
  refine lv_iload_n hx hb d_V_flush_88 rfl (lv_at hl 1 rfl) ?_
  refine pFN (v := .int (nI ((ctG2 SS x.nser).1))) hx hb hown hE hK hP hD hS 17 rfl rfl layH tyH tokH nmH 10 (by decide) w1401 rfl rfl rfl (Nat.le_of_ble_eq_true rfl) d_V_flush_89 (fun H locs hP hD hS => ?_)
  have hP : va_P D vwCl (VW dA h ad (VS.s_pl (VS.s_ncat (VS.s_npc (VS.s_nP (VS.s_writes (VS.s_cutLeft x (cutN x.cutLeft ((nb + ((ctG2 SS x.nser).1)) + 1))) (x.writes + ((nb + ((ctG2 SS x.nser).1)) + 1))) (va_up x.nP x.npc (some mp))) (x.npc + 1)) ((ctG2 SS x.nser).1)) pl1)) H := hP
  have hD : va_D A (VW dA h ad (VS.s_pl (VS.s_ncat (VS.s_npc (VS.s_nP (VS.s_writes (VS.s_cutLeft x (cutN x.cutLeft ((nb + ((ctG2 SS x.nser).1)) + 1))) (x.writes + ((nb + ((ctG2 SS x.nser).1)) + 1))) (va_up x.nP x.npc (some mp))) (x.npc + 1)) ((ctG2 SS x.nser).1)) pl1)) := hD
  refine lv_aload_n hx hb d_V_flush_92 rfl (lv_at hl 3 rfl) ?_
  refine gF (v := .ref (ad 10)) hx hb hown hE hK hP 0 rfl rfl layV 12 (by decide) w587 rfl d_V_flush_93 ?_
  refine lv_aload_n hx hb d_V_flush_96 rfl (lv_at hl 3 rfl) ?_
  refine gF (v := .ref (ad 3)) hx hb hown hE hK hP 0 rfl rfl layV 11 (by decide) w297 rfl d_V_flush_97 ?_
  refine jkV (wr := []) (rnV (As := [.ref (ad 3)]) (rest := []) hx hb hml hown hE hK (hN _ _ hS) hP hD (v_takeParcels_s l D dA H.size h ad (VS.s_pl (VS.s_ncat (VS.s_npc (VS.s_nP (VS.s_writes (VS.s_cutLeft x (cutN x.cutLeft ((nb + ((ctG2 SS x.nser).1)) + 1))) (x.writes + ((nb + ((ctG2 SS x.nser).1)) + 1))) (va_up x.nP x.npc (some mp))) (x.npc + 1)) ((ctG2 SS x.nser).1)) pl1) (va_up PS x.npc (mkP x.hsize O T V)) (psOk_a hps1 hpc hok) (show (x.npc + 1) ≤ 32 from by omega) (show x.nsc ≤ 64 from by omega)) (q0 := 24) rfl rfl w728 w727 w729 w730 w583 rfl rfl ⟨⟨by decide, by decide⟩, rfl⟩ ⟨(Nat.le_of_ble_eq_true rfl), (Nat.le_of_ble_eq_true rfl)⟩ rfl hl.1 rfl (Nat.le_of_ble_eq_true rfl) d_V_flush_100 ⟨(show 0 + 0 + 5 + 0 + 0 + 0 + 0 + 0 + 0 ≤ 5 by omega), (show 0 + 0 + (8 + (3 * x.hsize + x.nser + 1)) + 0 + 0 + 0 + 0 + 0 + 0 ≤ 8 + (3 * x.hsize + x.nser + 1) by omega)⟩) hP hD hS hA (fun u24 H locs hp9 hP hD hS => ?_)
  have hP : va_P D vwCl (VW dA h ad (VS.s_pl (VS.s_shor (VS.s_ssc (VS.s_ssT (VS.s_ssF (VS.s_ssO (VS.s_spc (VS.s_sP (VS.s_ncat (VS.s_npc (VS.s_nP (VS.s_writes (VS.s_cutLeft x (cutN x.cutLeft ((nb + ((ctG2 SS x.nser).1)) + 1))) (x.writes + ((nb + ((ctG2 SS x.nser).1)) + 1))) (va_up x.nP x.npc (some mp))) (x.npc + 1)) ((ctG2 SS x.nser).1)) (va_cpy (va_up x.nP x.npc (some mp)) x.sP 0 0 (x.npc + 1))) (x.npc + 1)) (va_cpy x.nsO x.ssO 0 0 x.nsc)) (va_cpy x.nsF x.ssF 0 0 x.nsc)) (va_cpy x.nsT x.ssT 0 0 x.nsc)) x.nsc) x.nhor) pl1)) H := hP
  have hD : va_D A (VW dA h ad (VS.s_pl (VS.s_shor (VS.s_ssc (VS.s_ssT (VS.s_ssF (VS.s_ssO (VS.s_spc (VS.s_sP (VS.s_ncat (VS.s_npc (VS.s_nP (VS.s_writes (VS.s_cutLeft x (cutN x.cutLeft ((nb + ((ctG2 SS x.nser).1)) + 1))) (x.writes + ((nb + ((ctG2 SS x.nser).1)) + 1))) (va_up x.nP x.npc (some mp))) (x.npc + 1)) ((ctG2 SS x.nser).1)) (va_cpy (va_up x.nP x.npc (some mp)) x.sP 0 0 (x.npc + 1))) (x.npc + 1)) (va_cpy x.nsO x.ssO 0 0 x.nsc)) (va_cpy x.nsF x.ssF 0 0 x.nsc)) (va_cpy x.nsT x.ssT 0 0 x.nsc)) x.nsc) x.nhor) pl1)) := hD
  refine lv_aload_n hx hb d_V_flush_103 rfl (lv_at hl 3 rfl) ?_
  refine gF (v := .ref (ad 10)) hx hb hown hE hK hP 0 rfl rfl layV 12 (by decide) w587 rfl d_V_flush_104 ?_
  refine lv_aload_n hx hb d_V_flush_107 rfl (lv_at hl 3 rfl) ?_
  refine gF (v := .ref (ad 3)) hx hb hown hE hK hP 0 rfl rfl layV 11 (by decide) w297 rfl d_V_flush_108 ?_
  refine jkV (wr := []) (rnV (As := [.ref (ad 3)]) (rest := []) hx hb hml hown hE hK (hN _ _ hS) hP hD (v_takeCatalog_s l D dA H.size h ad (VS.s_pl (VS.s_shor (VS.s_ssc (VS.s_ssT (VS.s_ssF (VS.s_ssO (VS.s_spc (VS.s_sP (VS.s_ncat (VS.s_npc (VS.s_nP (VS.s_writes (VS.s_cutLeft x (cutN x.cutLeft ((nb + ((ctG2 SS x.nser).1)) + 1))) (x.writes + ((nb + ((ctG2 SS x.nser).1)) + 1))) (va_up x.nP x.npc (some mp))) (x.npc + 1)) ((ctG2 SS x.nser).1)) (va_cpy (va_up x.nP x.npc (some mp)) x.sP 0 0 (x.npc + 1))) (x.npc + 1)) (va_cpy x.nsO x.ssO 0 0 x.nsc)) (va_cpy x.nsF x.ssF 0 0 x.nsc)) (va_cpy x.nsT x.ssT 0 0 x.nsc)) x.nsc) x.nhor) pl1) (show x.nser ≤ 256 from by omega)) (q0 := 24) rfl rfl w1403 w1402 w1404 w1405 w583 rfl rfl ⟨⟨by decide, by decide⟩, rfl⟩ ⟨(Nat.le_of_ble_eq_true rfl), (Nat.le_of_ble_eq_true rfl)⟩ rfl hl.1 rfl (Nat.le_of_ble_eq_true rfl) d_V_flush_111 ⟨(show 0 + 0 + 5 + 0 + 0 + 0 + 0 + 0 + 0 + 0 ≤ 5 by omega), (show 0 + 0 + (8 + (3 * x.hsize + x.nser + 1)) + 0 + 0 + 0 + 0 + 0 + 0 + 0 ≤ 8 + (3 * x.hsize + x.nser + 1) by omega)⟩) hP hD hS hA (fun u26 H locs hp9 hP hD hS => ?_)
  have hP : va_P D vwCl (VW dA h ad (VS.s_pl (VS.s_scat (VS.s_slast (VS.s_sser (VS.s_shor (VS.s_ssc (VS.s_ssT (VS.s_ssF (VS.s_ssO (VS.s_spc (VS.s_sP (VS.s_ncat (VS.s_npc (VS.s_nP (VS.s_writes (VS.s_cutLeft x (cutN x.cutLeft ((nb + ((ctG2 SS x.nser).1)) + 1))) (x.writes + ((nb + ((ctG2 SS x.nser).1)) + 1))) (va_up x.nP x.npc (some mp))) (x.npc + 1)) ((ctG2 SS x.nser).1)) (va_cpy (va_up x.nP x.npc (some mp)) x.sP 0 0 (x.npc + 1))) (x.npc + 1)) (va_cpy x.nsO x.ssO 0 0 x.nsc)) (va_cpy x.nsF x.ssF 0 0 x.nsc)) (va_cpy x.nsT x.ssT 0 0 x.nsc)) x.nsc) x.nhor) x.nser) (va_cpy x.nlast x.slast 0 0 x.nser)) ((ctG2 SS x.nser).1)) pl1)) H := hP
  have hD : va_D A (VW dA h ad (VS.s_pl (VS.s_scat (VS.s_slast (VS.s_sser (VS.s_shor (VS.s_ssc (VS.s_ssT (VS.s_ssF (VS.s_ssO (VS.s_spc (VS.s_sP (VS.s_ncat (VS.s_npc (VS.s_nP (VS.s_writes (VS.s_cutLeft x (cutN x.cutLeft ((nb + ((ctG2 SS x.nser).1)) + 1))) (x.writes + ((nb + ((ctG2 SS x.nser).1)) + 1))) (va_up x.nP x.npc (some mp))) (x.npc + 1)) ((ctG2 SS x.nser).1)) (va_cpy (va_up x.nP x.npc (some mp)) x.sP 0 0 (x.npc + 1))) (x.npc + 1)) (va_cpy x.nsO x.ssO 0 0 x.nsc)) (va_cpy x.nsF x.ssF 0 0 x.nsc)) (va_cpy x.nsT x.ssT 0 0 x.nsc)) x.nsc) x.nhor) x.nser) (va_cpy x.nlast x.slast 0 0 x.nser)) ((ctG2 SS x.nser).1)) pl1)) := hD
  refine lv_aload_n hx hb d_V_flush_114 rfl (lv_at hl 3 rfl) ?_
  refine gF (v := .ref (ad 1)) hx hb hown hE hK hP 0 rfl rfl layV 9 (by decide) w576 rfl d_V_flush_115 ?_
  refine jkV (wr := []) (rnV (As := []) (rest := []) hx hb hml hown hE hK (hN _ _ hS) hP hD (v_pclear_h l D dA H.size h ad (VS.s_pl (VS.s_scat (VS.s_slast (VS.s_sser (VS.s_shor (VS.s_ssc (VS.s_ssT (VS.s_ssF (VS.s_ssO (VS.s_spc (VS.s_sP (VS.s_ncat (VS.s_npc (VS.s_nP (VS.s_writes (VS.s_cutLeft x (cutN x.cutLeft ((nb + ((ctG2 SS x.nser).1)) + 1))) (x.writes + ((nb + ((ctG2 SS x.nser).1)) + 1))) (va_up x.nP x.npc (some mp))) (x.npc + 1)) ((ctG2 SS x.nser).1)) (va_cpy (va_up x.nP x.npc (some mp)) x.sP 0 0 (x.npc + 1))) (x.npc + 1)) (va_cpy x.nsO x.ssO 0 0 x.nsc)) (va_cpy x.nsF x.ssF 0 0 x.nsc)) (va_cpy x.nsT x.ssT 0 0 x.nsc)) x.nsc) x.nhor) x.nser) (va_cpy x.nlast x.slast 0 0 x.nser)) ((ctG2 SS x.nser).1)) pl1)) (q0 := 9) rfl rfl w579 w577 w580 w581 w578 rfl rfl ⟨⟨by decide, by decide⟩, rfl⟩ ⟨(Nat.le_of_ble_eq_true rfl), (Nat.le_of_ble_eq_true rfl)⟩ rfl hl.1 rfl (Nat.le_of_ble_eq_true rfl) d_V_flush_118 ⟨(show 0 + 0 + 5 + 0 + 0 + 0 + 0 + 0 + 0 + 0 + 0 ≤ 5 by omega), (show 0 + 0 + (8 + (3 * x.hsize + x.nser + 1)) + 0 + 0 + 0 + 0 + 0 + 0 + 0 + 0 ≤ 8 + (3 * x.hsize + x.nser + 1) by omega)⟩) hP hD hS hA (fun u28 H locs hp9 hP hD hS => ?_)
  have hP : va_P D vwCl (VW dA h ad (VS.s_pl (VS.s_scat (VS.s_slast (VS.s_sser (VS.s_shor (VS.s_ssc (VS.s_ssT (VS.s_ssF (VS.s_ssO (VS.s_spc (VS.s_sP (VS.s_ncat (VS.s_npc (VS.s_nP (VS.s_hsize (VS.s_writes (VS.s_cutLeft x (cutN x.cutLeft ((nb + ((ctG2 SS x.nser).1)) + 1))) (x.writes + ((nb + ((ctG2 SS x.nser).1)) + 1))) 0) (va_up x.nP x.npc (some mp))) (x.npc + 1)) ((ctG2 SS x.nser).1)) (va_cpy (va_up x.nP x.npc (some mp)) x.sP 0 0 (x.npc + 1))) (x.npc + 1)) (va_cpy x.nsO x.ssO 0 0 x.nsc)) (va_cpy x.nsF x.ssF 0 0 x.nsc)) (va_cpy x.nsT x.ssT 0 0 x.nsc)) x.nsc) x.nhor) x.nser) (va_cpy x.nlast x.slast 0 0 x.nser)) ((ctG2 SS x.nser).1)) pl1)) H := hP
  have hD : va_D A (VW dA h ad (VS.s_pl (VS.s_scat (VS.s_slast (VS.s_sser (VS.s_shor (VS.s_ssc (VS.s_ssT (VS.s_ssF (VS.s_ssO (VS.s_spc (VS.s_sP (VS.s_ncat (VS.s_npc (VS.s_nP (VS.s_hsize (VS.s_writes (VS.s_cutLeft x (cutN x.cutLeft ((nb + ((ctG2 SS x.nser).1)) + 1))) (x.writes + ((nb + ((ctG2 SS x.nser).1)) + 1))) 0) (va_up x.nP x.npc (some mp))) (x.npc + 1)) ((ctG2 SS x.nser).1)) (va_cpy (va_up x.nP x.npc (some mp)) x.sP 0 0 (x.npc + 1))) (x.npc + 1)) (va_cpy x.nsO x.ssO 0 0 x.nsc)) (va_cpy x.nsF x.ssF 0 0 x.nsc)) (va_cpy x.nsT x.ssT 0 0 x.nsc)) x.nsc) x.nhor) x.nser) (va_cpy x.nlast x.slast 0 0 x.nser)) ((ctG2 SS x.nser).1)) pl1)) := hD
  refine lv_aload_n hx hb d_V_flush_121 rfl (lv_at hl 3 rfl) ?_
  refine gF (v := .ref (ad 0)) hx hb hown hE hK hP 0 rfl rfl layV 8 (by decide) w312 rfl d_V_flush_122 ?_
  refine jkV (wr := []) (rnV (As := []) (rest := []) hx hb hml hown hE hK (hN _ _ hS) hP hD (v_jclear l D dA H.size h ad (VS.s_pl (VS.s_scat (VS.s_slast (VS.s_sser (VS.s_shor (VS.s_ssc (VS.s_ssT (VS.s_ssF (VS.s_ssO (VS.s_spc (VS.s_sP (VS.s_ncat (VS.s_npc (VS.s_nP (VS.s_hsize (VS.s_writes (VS.s_cutLeft x (cutN x.cutLeft ((nb + ((ctG2 SS x.nser).1)) + 1))) (x.writes + ((nb + ((ctG2 SS x.nser).1)) + 1))) 0) (va_up x.nP x.npc (some mp))) (x.npc + 1)) ((ctG2 SS x.nser).1)) (va_cpy (va_up x.nP x.npc (some mp)) x.sP 0 0 (x.npc + 1))) (x.npc + 1)) (va_cpy x.nsO x.ssO 0 0 x.nsc)) (va_cpy x.nsF x.ssF 0 0 x.nsc)) (va_cpy x.nsT x.ssT 0 0 x.nsc)) x.nsc) x.nhor) x.nser) (va_cpy x.nlast x.slast 0 0 x.nser)) ((ctG2 SS x.nser).1)) pl1) (show x.jN ≤ 65536 from by omega) (show x.jkept < 2 ^ 31 from by omega)) (q0 := 2) rfl rfl w562 w1406 w563 w564 w556 rfl rfl ⟨⟨by decide, by decide⟩, rfl⟩ ⟨(Nat.le_of_ble_eq_true rfl), (Nat.le_of_ble_eq_true rfl)⟩ rfl hl.1 rfl (Nat.le_of_ble_eq_true rfl) d_V_flush_125 ⟨(show 0 + 0 + 5 + 0 + 0 + 0 + 0 + 0 + 0 + 0 + 0 + 0 ≤ 5 by omega), (show 0 + 0 + (8 + (3 * x.hsize + x.nser + 1)) + 0 + 0 + 0 + 0 + 0 + 0 + 0 + 0 + 0 ≤ 8 + (3 * x.hsize + x.nser + 1) by omega)⟩) hP hD hS hA (fun u30 H locs hp9 hP hD hS => ?_)
  have hP : va_P D vwCl (VW dA h ad (VS.s_pl (VS.s_scat (VS.s_slast (VS.s_sser (VS.s_shor (VS.s_ssc (VS.s_ssT (VS.s_ssF (VS.s_ssO (VS.s_spc (VS.s_sP (VS.s_ncat (VS.s_npc (VS.s_nP (VS.s_hsize (VS.s_jch (VS.s_jfill (VS.s_jblock (VS.s_junits (VS.s_jkept (VS.s_jsize (VS.s_writes (VS.s_cutLeft x (cutN x.cutLeft ((nb + ((ctG2 SS x.nser).1)) + 1))) (x.writes + ((nb + ((ctG2 SS x.nser).1)) + 1))) 0) 0) 0) 0) 0) false) 0) (va_up x.nP x.npc (some mp))) (x.npc + 1)) ((ctG2 SS x.nser).1)) (va_cpy (va_up x.nP x.npc (some mp)) x.sP 0 0 (x.npc + 1))) (x.npc + 1)) (va_cpy x.nsO x.ssO 0 0 x.nsc)) (va_cpy x.nsF x.ssF 0 0 x.nsc)) (va_cpy x.nsT x.ssT 0 0 x.nsc)) x.nsc) x.nhor) x.nser) (va_cpy x.nlast x.slast 0 0 x.nser)) ((ctG2 SS x.nser).1)) pl1)) H := hP
  have hD : va_D A (VW dA h ad (VS.s_pl (VS.s_scat (VS.s_slast (VS.s_sser (VS.s_shor (VS.s_ssc (VS.s_ssT (VS.s_ssF (VS.s_ssO (VS.s_spc (VS.s_sP (VS.s_ncat (VS.s_npc (VS.s_nP (VS.s_hsize (VS.s_jch (VS.s_jfill (VS.s_jblock (VS.s_junits (VS.s_jkept (VS.s_jsize (VS.s_writes (VS.s_cutLeft x (cutN x.cutLeft ((nb + ((ctG2 SS x.nser).1)) + 1))) (x.writes + ((nb + ((ctG2 SS x.nser).1)) + 1))) 0) 0) 0) 0) 0) false) 0) (va_up x.nP x.npc (some mp))) (x.npc + 1)) ((ctG2 SS x.nser).1)) (va_cpy (va_up x.nP x.npc (some mp)) x.sP 0 0 (x.npc + 1))) (x.npc + 1)) (va_cpy x.nsO x.ssO 0 0 x.nsc)) (va_cpy x.nsF x.ssF 0 0 x.nsc)) (va_cpy x.nsT x.ssT 0 0 x.nsc)) x.nsc) x.nhor) x.nser) (va_cpy x.nlast x.slast 0 0 x.nser)) ((ctG2 SS x.nser).1)) pl1)) := hD
  refine lv_iload_n hx hb d_V_flush_128 rfl (lv_at hl 0 rfl) ?_
  refine lv_iconst (v := 1) hx hb d_V_flush_129 (by decide) ?_
  refine lv_iadd hx hb d_V_flush_130 (tpi (y := nI ((nb + ((ctG2 SS x.nser).1)) + 1)) (nI_add (nb + ((ctG2 SS x.nser).1)) (1)) ?_)
  exact rfI hx hb hr hlk hS (VS.s_pl (VS.s_scat (VS.s_slast (VS.s_sser (VS.s_shor (VS.s_ssc (VS.s_ssT (VS.s_ssF (VS.s_ssO (VS.s_spc (VS.s_sP (VS.s_ncat (VS.s_npc (VS.s_nP (VS.s_hsize (VS.s_jch (VS.s_jfill (VS.s_jblock (VS.s_junits (VS.s_jkept (VS.s_jsize (VS.s_writes (VS.s_cutLeft x (cutN x.cutLeft ((nb + ((ctG2 SS x.nser).1)) + 1))) (x.writes + ((nb + ((ctG2 SS x.nser).1)) + 1))) 0) 0) 0) 0) 0) false) 0) (va_up x.nP x.npc (some mp))) (x.npc + 1)) ((ctG2 SS x.nser).1)) (va_cpy (va_up x.nP x.npc (some mp)) x.sP 0 0 (x.npc + 1))) (x.npc + 1)) (va_cpy x.nsO x.ssO 0 0 x.nsc)) (va_cpy x.nsF x.ssF 0 0 x.nsc)) (va_cpy x.nsT x.ssT 0 0 x.nsc)) x.nsc) x.nhor) x.nser) (va_cpy x.nlast x.slast 0 0 x.nser)) ((ctG2 SS x.nser).1)) pl1) ⟨rfl, O, T, V, mp, pl1, f_l1_8, f_l2_9, f_l3_10, f_l4_11, hpc, hsub, rfl⟩ hP hD (show 0 + 0 + 5 + 0 + 0 + 0 + 0 + 0 + 0 + 0 + 0 + 0 ≤ 5 by omega) (show 0 + 0 + (8 + (3 * x.hsize + x.nser + 1)) + 0 + 0 + 0 + 0 + 0 + 0 + 0 + 0 + 0 ≤ 8 + (3 * x.hsize + x.nser + 1) by omega) d_V_flush_131
set_option maxHeartbeats 4000000 in
set_option maxRecDepth 100000 in
theorem v_flush_u1 (l : Launch) (htr : l.stackTraces = false) (D : va_G) (dA : Nat → ClassId) (sz : Nat) (h : Nat) (ad : Nat → Nat) (x : VS) (PS : Nat → PT) (SS : Nat → List LB) (nb : Nat) (ho : x.powered = true) (hj0 : 0 < x.jsize) (hj1 : x.jsize < 2 ^ 31) (hps : psOk dA x.nP x.npc x.pl PS) (hpn : x.npc ≤ 32) (hfr : x.jlimit + 2 + (x.ncat + sumN x.npc (blN PS)) ≤ x.diskBlocks) (hkn : knOk dA x.kn x.nser x.pl SS) (hn : x.nser ≤ 256) (hdk : x.diskBlocks ≤ 256) (hhn : x.hsize ≤ 12000) (hhN : x.hsize ≤ x.hN) (hhN2 : x.hN ≤ 65536) (hho : ∀ i : Nat, i < x.hsize → x.hO i < x.nser) (hz : 0 < x.hsize) (hbl : ∀ (O : Nat → Nat) (T V : Nat → Int64), laid x.hO x.hsize x.hsize x.hO O → laid x.hO x.hsize x.hsize x.hT T → laid x.hO x.hsize x.hsize x.hV V → (mkP x.hsize O T V).bl = nb) (hc9 : nb + (ctG2 SS x.nser).1 < 2 ^ 31) (hu : 32 ≤ x.npc ∨ x.fr PS < nb + (ctG2 SS x.nser).1) : mX l ⟨"SeriesVault", "flush", "()I"⟩ [Cond.code ⟨"SeriesVault", "flush", "()I"⟩ prog_1_method_36_code 4 (some FieldType.int)] { frames := 6, cells := 6, slots := 14 + (3 * x.hsize + x.nser + 1), locals := 124 } (pC D dA [.ref h] (VW dA h ad x) sz) "java/lang/UnsupportedOperationException" (fun st9 t9 => va_F (va_A (VW dA h ad x) sz) st9 t9 ∧ ∃ u9 : VS, ((x.pk u9)) ∧ bW D (va_A (VW dA h ad x) sz) (VW dA h ad u9) t9) 6 (14 + (3 * x.hsize + x.nser + 1)) (va_A (VW dA h ad x) sz) := by
  refine mkX (y := ⟨"SeriesVault", "flush", "()I"⟩) (cc := prog_1_method_36_code) (maxL := 4) (av := [.ref h]) (ws := VW dA h ad x) (sz := sz) (B := fun A => (fun st9 t9 => va_F A st9 t9 ∧ ∃ u9 : VS, ((x.pk u9)) ∧ bW D A (VW dA h ad u9) t9)) (by decide) (Nat.le_of_ble_eq_true rfl) ?_
  intro A p e s m below meth c ls hsz hno hB
  obtain ⟨hx, hb, hr, hml, hown, hin, hlk, hE, hK, hP, hD, hS, hA, hN, hl⟩ := hB
  have hown : s.vm.findClass "SeriesVault" = some m.cls := hown
  have hl : lv_has ls 4 [(0, .ref h)] := hl
  obtain ⟨H, hH⟩ : ∃ z, z = s.heap := ⟨_, rfl⟩
  have hP : va_P D vwCl (VW dA h ad x) H := by rw [hH]; exact hP
  have hS : va_S A s.heap H [] := by rw [hH]; exact hS
  rw [← hH]
  refine lv_aload_n hx hb d_V_flush_0 rfl (lv_at hl 0 rfl) ?_
  refine jkV (wr := []) (rnV (As := []) (rest := []) hx hb hml hown hE hK (hN _ _ hS) hP hD (v_checkPower l D dA H.size h ad x ho) (q0 := 0) rfl rfl w278 w276 w279 w280 w277 rfl rfl ⟨⟨by decide, by decide⟩, rfl⟩ ⟨(Nat.le_of_ble_eq_true rfl), (Nat.le_of_ble_eq_true rfl)⟩ rfl hl.1 rfl (Nat.le_of_ble_eq_true rfl) d_V_flush_1 ⟨(show 0 + 0 ≤ 6 by omega), (show 0 + 0 ≤ 14 + (3 * x.hsize + x.nser + 1) by omega)⟩) hP hD hS hA (fun u2 H locs hp9 hP hD hS => ?_)
  have hP : va_P D vwCl (VW dA h ad x) H := hP
  have hD : va_D A (VW dA h ad x) := hD
  refine lv_aload_n hx hb d_V_flush_4 rfl (lv_at hl 0 rfl) ?_
  refine gF (v := .ref (ad 0)) hx hb hown hE hK hP 0 rfl rfl layV 8 (by decide) w312 rfl d_V_flush_5 ?_
  refine gFN (v := .int (nI x.jsize)) hx hb hown hE hK hP 2 rfl rfl layJ 6 (by decide) w318 rfl d_V_flush_8 ?_
  refine lv_if_ne hx hb d_V_flush_11 (tgt := 16) rfl (fun g3 => ?_) (fun g3 => ?_)
  rotate_left
  · have g3 := (nI_eq (a := x.jsize) (b := 0) (by omega) (by decide)).mp g3; exfalso; omega
  have g3 := mt (nI_eq (a := x.jsize) (b := 0) (by omega) (by decide)).mpr g3
  refine lv_aload_n hx hb d_V_flush_16 rfl (lv_at hl 0 rfl) ?_
  refine lv_aload_n hx hb d_V_flush_17 rfl (lv_at hl 0 rfl) ?_
  refine gF (v := .ref (ad 1)) hx hb hown hE hK hP 0 rfl rfl layV 9 (by decide) w576 rfl d_V_flush_18 ?_
  refine jkR (wr := []) (rnV (As := [.ref (ad 1)]) (rest := []) hx hb hml hown hE hK (hN _ _ hS) hP hD (v_packed_1h l D dA H.size h ad x hz hhn hhN hhN2 hn hho) (q0 := 0) rfl rfl w1383 w1382 w1384 w1385 w277 rfl rfl ⟨⟨by decide, by decide⟩, rfl⟩ ⟨(Nat.le_of_ble_eq_true rfl), (Nat.le_of_ble_eq_true rfl)⟩ rfl hl.1 rfl (Nat.le_of_ble_eq_true rfl) d_V_flush_21 ⟨(show 0 + 0 + 5 ≤ 6 by omega), (show 0 + 0 + (8 + (3 * x.hsize + x.nser + 1)) ≤ 14 + (3 * x.hsize + x.nser + 1) by omega)⟩) hP hD hS hA (fun u4 mp H locs hp9 hP hD hS => ?_)
  obtain ⟨y5, O, T, V⟩ := u4
  have hP : va_P D vwCl (VW dA h ad y5) H := hP
  have hD : va_D A (VW dA h ad y5) := hD
  obtain ⟨f_ey_6, f_pc_7, f_l1_8, f_l2_9, f_l3_10, f_l4_11⟩ := hp9
  obtain ⟨hy, hsub⟩ := f_ey_6
  have hpc := f_pc_7
  obtain ⟨pl1, epl⟩ : ∃ z, z = y5.pl := ⟨_, rfl⟩
  rw [← epl] at hy hsub hpc
  subst hy
  have hP : va_P D vwCl (VW dA h ad (VS.s_pl x pl1)) H := hP
  have hD : va_D A (VW dA h ad (VS.s_pl x pl1)) := hD
  have hok : pcOk (mkP x.hsize O T V) := mkP_ok hhn f_l4_11
  have hps1 := psOk_m hsub hps
  have hb0 := hbl O T V f_l1_8 f_l2_9 f_l3_10
  refine lv_astore_n hx hb d_V_flush_24 rfl hl (by decide) rfl (fun ls hl => ?_)
  have hl : lv_has ls 4 [(1, .ref mp), (0, .ref h)] := hl
  refine lv_aload_n hx hb d_V_flush_25 rfl (lv_at hl 1 rfl) ?_
  refine jkI (wr := []) (rnV (As := []) (rest := []) hx hb hml hown hE hK (hN _ _ hS) hP hD (v_catalogBlocks l D dA H.size h ad (VS.s_pl x pl1) SS (knOk_m hsub hkn) (show x.nser ≤ 256 from by omega)) (q0 := 0) rfl rfl w1387 w1386 w1388 w1389 w277 rfl rfl ⟨⟨by decide, by decide⟩, rfl⟩ ⟨(Nat.le_of_ble_eq_true rfl), (Nat.le_of_ble_eq_true rfl)⟩ rfl hl.1 rfl (Nat.le_of_ble_eq_true rfl) d_V_flush_26 ⟨(show 0 + 0 + 5 + 0 ≤ 6 by omega), (show 0 + 0 + (8 + (3 * x.hsize + x.nser + 1)) + 0 ≤ 14 + (3 * x.hsize + x.nser + 1) by omega)⟩) hP hD hS hA (fun r12 u13 H locs hp9 hP hD hS => ?_)
  have hP : va_P D vwCl (VW dA h ad (VS.s_pl x pl1)) H := hP
  have hD : va_D A (VW dA h ad (VS.s_pl x pl1)) := hD
  replace hp9 : nI (ctG2 SS x.nser).1 = r12 := Eq.symm hp9
  subst hp9
  refine lv_istore_n hx hb d_V_flush_29 rfl hl (by decide) rfl (fun ls hl => ?_)
  have hl : lv_has ls 4 [(2, .int (nI (ctG2 SS x.nser).1)), (1, .ref mp), (0, .ref h)] := hl
  refine lv_aload_n hx hb d_V_flush_30 rfl (lv_at hl 1 rfl) ?_
  refine jkI (wr := []) (rnS (As := [.ref mp]) (rest := []) hx hb hml hown hE hK (hN _ _ hS) hP hD (v_blocksOf l D dA H.size (VW dA h ad (VS.s_pl x pl1)) mp (mkP x.hsize O T V) (isPc_m (fun _ hm => (plm hm)) hpc)) w1391 w1390 w1392 w277 rfl rfl ⟨⟨by decide, by decide⟩, rfl⟩ ⟨(Nat.le_of_ble_eq_true rfl), (Nat.le_of_ble_eq_true rfl)⟩ rfl hl.1 rfl (Nat.le_of_ble_eq_true rfl) d_V_flush_31 ⟨(show 0 + 0 + 5 + 0 + 0 ≤ 6 by omega), (show 0 + 0 + (8 + (3 * x.hsize + x.nser + 1)) + 0 + 0 ≤ 14 + (3 * x.hsize + x.nser + 1) by omega)⟩) hP hD hS hA (fun r14 u15 H locs hp9 hP hD hS => ?_)
  have hP : va_P D vwCl (VW dA h ad (VS.s_pl x pl1)) H := hP
  have hD : va_D A (VW dA h ad (VS.s_pl x pl1)) := hD
  replace hp9 : nI (mkP x.hsize O T V).bl = r14 := Eq.symm hp9
  subst hp9
  refine tpi (y := nI nb) (by rw [hb0]) ?_
  refine lv_iload_n hx hb d_V_flush_34 rfl (lv_at hl 0 rfl) ?_
  refine lv_iadd hx hb d_V_flush_35 (tpi (y := nI (nb + ((ctG2 SS x.nser).1))) (nI_add (nb) ((ctG2 SS x.nser).1)) ?_)
  refine lv_istore_n hx hb d_V_flush_36 rfl hl (by decide) rfl (fun ls hl => ?_)
  have hl : lv_has ls 4 [(3, .int (nI (nb + ((ctG2 SS x.nser).1)))), (2, .int (nI (ctG2 SS x.nser).1)), (1, .ref mp), (0, .ref h)] := hl
  refine lv_aload_n hx hb d_V_flush_37 rfl (lv_at hl 2 rfl) ?_
  refine lv_ifnull hx hb d_V_flush_38 ?_
  refine lv_aload_n hx hb d_V_flush_41 rfl (lv_at hl 3 rfl) ?_
  refine gF (v := .ref (ad 3)) hx hb hown hE hK hP 0 rfl rfl layV 11 (by decide) w297 rfl d_V_flush_42 ?_
  refine gFN (v := .int (nI x.npc)) hx hb hown hE hK hP 17 rfl rfl layH 1 (by decide) w303 rfl d_V_flush_45 ?_
  refine lv_bipush (v := 32) hx hb d_V_flush_48 (by decide) ?_
  refine lv_icmp_ge hx hb d_V_flush_50 (tgt := 61) rfl (fun g16 => ?_) (fun g16 => ?_)
  · have g16 := (nI_leI (a := 32) (b := x.npc) (by omega) (by omega)).mp g16
    exact xNew (E := "java/lang/UnsupportedOperationException") (names := ["java/lang/RuntimeException", "java/lang/Exception"]) hx hb htr hown (by decide) (by decide) hE w1156 w1157 (fun U hU => at_V_UOE hU) (hN _ _ hS) (hl.1.trans hml.symm) d_V_flush_61 d_V_flush_64 d_V_flush_65 d_V_flush_68 hno (Nat.le_of_ble_eq_true rfl) (Nat.le_of_ble_eq_true rfl) (show 0 + 0 + 5 + 0 + 0 + 1 ≤ 6 by omega) (show 0 + 0 + (8 + (3 * x.hsize + x.nser + 1)) + 0 + 0 + 6 ≤ 14 + (3 * x.hsize + x.nser + 1) by omega) hlk (fun t h1 h2 => xkE (VS.s_pl x pl1) ⟨rfl, hsub⟩ hP hD hS t h1 h2) hS.2.2 (show 0 + 0 + 5 + 0 + 0 + 1 ≤ 6 by omega) (show 0 + 0 + (8 + (3 * x.hsize + x.nser + 1)) + 0 + 0 + 6 ≤ 14 + (3 * x.hsize + x.nser + 1) by omega)
  · have g16 := mt (nI_leI (a := 32) (b := x.npc) (by omega) (by omega)).mpr g16
    have fe : x.fr PS = x.diskBlocks - 2 - x.jlimit - (x.ncat + sumN x.npc (blN PS)) := rfl
    refine lv_iload_n hx hb d_V_flush_53 rfl (lv_at hl 0 rfl) ?_
    refine lv_aload_n hx hb d_V_flush_54 rfl (lv_at hl 3 rfl) ?_
    refine jkI (wr := []) (rnV (As := []) (rest := [.int (nI (nb + ((ctG2 SS x.nser).1)))]) hx hb hml hown hE hK (hN _ _ hS) hP hD (v_freeBlocks l D dA H.size h ad (VS.s_pl x pl1) PS hps1 (show x.npc ≤ 32 from by omega) hfr) (q0 := 0) rfl rfl w644 w643 w645 w646 w277 rfl rfl ⟨⟨by decide, by decide⟩, rfl⟩ ⟨(Nat.le_of_ble_eq_true rfl), (Nat.le_of_ble_eq_true rfl)⟩ rfl hl.1 rfl (Nat.le_of_ble_eq_true rfl) d_V_flush_55 ⟨(show 0 + 0 + 5 + 0 + 0 + 0 ≤ 6 by omega), (show 0 + 0 + (8 + (3 * x.hsize + x.nser + 1)) + 0 + 0 + 0 ≤ 14 + (3 * x.hsize + x.nser + 1) by omega)⟩) hP hD hS hA (fun r17 u18 H locs hp9 hP hD hS => ?_)
    have hP : va_P D vwCl (VW dA h ad (VS.s_pl x pl1)) H := hP
    have hD : va_D A (VW dA h ad (VS.s_pl x pl1)) := hD
    replace hp9 : nI (x.fr PS) = r17 := Eq.symm hp9
    subst hp9
    refine lv_icmp_le hx hb d_V_flush_58 (tgt := 69) rfl (fun g19 => ?_) (fun g19 => ?_)
    · have g19 := (nI_leI (a := nb + ((ctG2 SS x.nser).1)) (b := x.fr PS) (by omega) (by omega)).mp g19; exfalso; omega
    have g19 := mt (nI_leI (a := nb + ((ctG2 SS x.nser).1)) (b := x.fr PS) (by omega) (by omega)).mpr g19
    exact xNew (E := "java/lang/UnsupportedOperationException") (names := ["java/lang/RuntimeException", "java/lang/Exception"]) hx hb htr hown (by decide) (by decide) hE w1156 w1157 (fun U hU => at_V_UOE hU) (hN _ _ hS) (hl.1.trans hml.symm) d_V_flush_61 d_V_flush_64 d_V_flush_65 d_V_flush_68 hno (Nat.le_of_ble_eq_true rfl) (Nat.le_of_ble_eq_true rfl) (show 0 + 0 + 5 + 0 + 0 + 0 + 1 ≤ 6 by omega) (show 0 + 0 + (8 + (3 * x.hsize + x.nser + 1)) + 0 + 0 + 0 + 6 ≤ 14 + (3 * x.hsize + x.nser + 1) by omega) hlk (fun t h1 h2 => xkE (VS.s_pl x pl1) ⟨rfl, hsub⟩ hP hD hS t h1 h2) hS.2.2 (show 0 + 0 + 5 + 0 + 0 + 0 + 1 ≤ 6 by omega) (show 0 + 0 + (8 + (3 * x.hsize + x.nser + 1)) + 0 + 0 + 0 + 6 ≤ 14 + (3 * x.hsize + x.nser + 1) by omega)
def VS.xiS (x : VS) (k0 : Nat) : VS := VS.s_writes (VS.s_cutLeft (VS.s_powered x false) (-1)) (x.writes + k0)
set_option maxHeartbeats 4000000 in
set_option maxRecDepth 100000 in
theorem v_flush_i1 (l : Launch) (htr : l.stackTraces = false) (D : va_G) (dA : Nat → ClassId) (sz : Nat) (h : Nat) (ad : Nat → Nat) (x : VS) (PS : Nat → PT) (SS : Nat → List LB) (nb : Nat) (k0 : Nat) (ho : x.powered = true) (hj0 : 0 < x.jsize) (hj1 : x.jsize < 2 ^ 31) (hps : psOk dA x.nP x.npc x.pl PS) (hpn : x.npc ≤ 32) (hfr : x.jlimit + 2 + (x.ncat + sumN x.npc (blN PS)) ≤ x.diskBlocks) (hkn : knOk dA x.kn x.nser x.pl SS) (hn : x.nser ≤ 256) (hdk : x.diskBlocks ≤ 256) (hhn : x.hsize ≤ 12000) (hhN : x.hsize ≤ x.hN) (hhN2 : x.hN ≤ 65536) (hho : ∀ i : Nat, i < x.hsize → x.hO i < x.nser) (hz : 0 < x.hsize) (hbl : ∀ (O : Nat → Nat) (T V : Nat → Int64), laid x.hO x.hsize x.hsize x.hO O → laid x.hO x.hsize x.hsize x.hT T → laid x.hO x.hsize x.hsize x.hV V → (mkP x.hsize O T V).bl = nb) (hp32 : x.npc < 32) (hf : nb + (ctG2 SS x.nser).1 ≤ x.fr PS) (hk : k0 < nb + (ctG2 SS x.nser).1 + 1) (hcz : ∀ j : Nat, j < k0 → ¬ cutN x.cutLeft j = 0) (hc : cutN x.cutLeft k0 = 0) : mX l ⟨"SeriesVault", "flush", "()I"⟩ [Cond.code ⟨"SeriesVault", "flush", "()I"⟩ prog_1_method_36_code 4 (some FieldType.int)] { frames := 8, cells := 6, slots := 14 + (3 * x.hsize + x.nser + 1), locals := 124 } (pC D dA [.ref h] (VW dA h ad x) sz) "java/lang/IllegalStateException" (fun st9 t9 => va_F (va_A (VW dA h ad x) sz) st9 t9 ∧ ∃ u9 : VS, (((x.xiS k0).pk u9)) ∧ bW D (va_A (VW dA h ad x) sz) (VW dA h ad u9) t9) 6 (14 + (3 * x.hsize + x.nser + 1)) (va_A (VW dA h ad x) sz) := by
  refine mkX (y := ⟨"SeriesVault", "flush", "()I"⟩) (cc := prog_1_method_36_code) (maxL := 4) (av := [.ref h]) (ws := VW dA h ad x) (sz := sz) (B := fun A => (fun st9 t9 => va_F A st9 t9 ∧ ∃ u9 : VS, (((x.xiS k0).pk u9)) ∧ bW D A (VW dA h ad u9) t9)) (by decide) (Nat.le_of_ble_eq_true rfl) ?_
  intro A p e s m below meth c ls hsz hno hB
  obtain ⟨hx, hb, hr, hml, hown, hin, hlk, hE, hK, hP, hD, hS, hA, hN, hl⟩ := hB
  have hown : s.vm.findClass "SeriesVault" = some m.cls := hown
  have hl : lv_has ls 4 [(0, .ref h)] := hl
  obtain ⟨H, hH⟩ : ∃ z, z = s.heap := ⟨_, rfl⟩
  have hP : va_P D vwCl (VW dA h ad x) H := by rw [hH]; exact hP
  have hS : va_S A s.heap H [] := by rw [hH]; exact hS
  rw [← hH]
  refine lv_aload_n hx hb d_V_flush_0 rfl (lv_at hl 0 rfl) ?_
  refine jkV (wr := []) (rnV (As := []) (rest := []) hx hb hml hown hE hK (hN _ _ hS) hP hD (v_checkPower l D dA H.size h ad x ho) (q0 := 0) rfl rfl w278 w276 w279 w280 w277 rfl rfl ⟨⟨by decide, by decide⟩, rfl⟩ ⟨(Nat.le_of_ble_eq_true rfl), (Nat.le_of_ble_eq_true rfl)⟩ rfl hl.1 rfl (Nat.le_of_ble_eq_true rfl) d_V_flush_1 ⟨(show 0 + 0 ≤ 6 by omega), (show 0 + 0 ≤ 14 + (3 * x.hsize + x.nser + 1) by omega)⟩) hP hD hS hA (fun u2 H locs hp9 hP hD hS => ?_)
  have hP : va_P D vwCl (VW dA h ad x) H := hP
  have hD : va_D A (VW dA h ad x) := hD
  refine lv_aload_n hx hb d_V_flush_4 rfl (lv_at hl 0 rfl) ?_
  refine gF (v := .ref (ad 0)) hx hb hown hE hK hP 0 rfl rfl layV 8 (by decide) w312 rfl d_V_flush_5 ?_
  refine gFN (v := .int (nI x.jsize)) hx hb hown hE hK hP 2 rfl rfl layJ 6 (by decide) w318 rfl d_V_flush_8 ?_
  refine lv_if_ne hx hb d_V_flush_11 (tgt := 16) rfl (fun g3 => ?_) (fun g3 => ?_)
  rotate_left
  · have g3 := (nI_eq (a := x.jsize) (b := 0) (by omega) (by decide)).mp g3; exfalso; omega
  have g3 := mt (nI_eq (a := x.jsize) (b := 0) (by omega) (by decide)).mpr g3
  refine lv_aload_n hx hb d_V_flush_16 rfl (lv_at hl 0 rfl) ?_
  refine lv_aload_n hx hb d_V_flush_17 rfl (lv_at hl 0 rfl) ?_
  refine gF (v := .ref (ad 1)) hx hb hown hE hK hP 0 rfl rfl layV 9 (by decide) w576 rfl d_V_flush_18 ?_
  refine jkR (wr := []) (rnV (As := [.ref (ad 1)]) (rest := []) hx hb hml hown hE hK (hN _ _ hS) hP hD (v_packed_1h l D dA H.size h ad x hz hhn hhN hhN2 hn hho) (q0 := 0) rfl rfl w1383 w1382 w1384 w1385 w277 rfl rfl ⟨⟨by decide, by decide⟩, rfl⟩ ⟨(Nat.le_of_ble_eq_true rfl), (Nat.le_of_ble_eq_true rfl)⟩ rfl hl.1 rfl (Nat.le_of_ble_eq_true rfl) d_V_flush_21 ⟨(show 0 + 0 + 5 ≤ 6 by omega), (show 0 + 0 + (8 + (3 * x.hsize + x.nser + 1)) ≤ 14 + (3 * x.hsize + x.nser + 1) by omega)⟩) hP hD hS hA (fun u4 mp H locs hp9 hP hD hS => ?_)
  obtain ⟨y5, O, T, V⟩ := u4
  have hP : va_P D vwCl (VW dA h ad y5) H := hP
  have hD : va_D A (VW dA h ad y5) := hD
  obtain ⟨f_ey_6, f_pc_7, f_l1_8, f_l2_9, f_l3_10, f_l4_11⟩ := hp9
  obtain ⟨hy, hsub⟩ := f_ey_6
  have hpc := f_pc_7
  obtain ⟨pl1, epl⟩ : ∃ z, z = y5.pl := ⟨_, rfl⟩
  rw [← epl] at hy hsub hpc
  subst hy
  have hP : va_P D vwCl (VW dA h ad (VS.s_pl x pl1)) H := hP
  have hD : va_D A (VW dA h ad (VS.s_pl x pl1)) := hD
  have hok : pcOk (mkP x.hsize O T V) := mkP_ok hhn f_l4_11
  have hps1 := psOk_m hsub hps
  have hb0 := hbl O T V f_l1_8 f_l2_9 f_l3_10
  refine lv_astore_n hx hb d_V_flush_24 rfl hl (by decide) rfl (fun ls hl => ?_)
  have hl : lv_has ls 4 [(1, .ref mp), (0, .ref h)] := hl
  refine lv_aload_n hx hb d_V_flush_25 rfl (lv_at hl 1 rfl) ?_
  refine jkI (wr := []) (rnV (As := []) (rest := []) hx hb hml hown hE hK (hN _ _ hS) hP hD (v_catalogBlocks l D dA H.size h ad (VS.s_pl x pl1) SS (knOk_m hsub hkn) (show x.nser ≤ 256 from by omega)) (q0 := 0) rfl rfl w1387 w1386 w1388 w1389 w277 rfl rfl ⟨⟨by decide, by decide⟩, rfl⟩ ⟨(Nat.le_of_ble_eq_true rfl), (Nat.le_of_ble_eq_true rfl)⟩ rfl hl.1 rfl (Nat.le_of_ble_eq_true rfl) d_V_flush_26 ⟨(show 0 + 0 + 5 + 0 ≤ 6 by omega), (show 0 + 0 + (8 + (3 * x.hsize + x.nser + 1)) + 0 ≤ 14 + (3 * x.hsize + x.nser + 1) by omega)⟩) hP hD hS hA (fun r12 u13 H locs hp9 hP hD hS => ?_)
  have hP : va_P D vwCl (VW dA h ad (VS.s_pl x pl1)) H := hP
  have hD : va_D A (VW dA h ad (VS.s_pl x pl1)) := hD
  replace hp9 : nI (ctG2 SS x.nser).1 = r12 := Eq.symm hp9
  subst hp9
  refine lv_istore_n hx hb d_V_flush_29 rfl hl (by decide) rfl (fun ls hl => ?_)
  have hl : lv_has ls 4 [(2, .int (nI (ctG2 SS x.nser).1)), (1, .ref mp), (0, .ref h)] := hl
  refine lv_aload_n hx hb d_V_flush_30 rfl (lv_at hl 1 rfl) ?_
  refine jkI (wr := []) (rnS (As := [.ref mp]) (rest := []) hx hb hml hown hE hK (hN _ _ hS) hP hD (v_blocksOf l D dA H.size (VW dA h ad (VS.s_pl x pl1)) mp (mkP x.hsize O T V) (isPc_m (fun _ hm => (plm hm)) hpc)) w1391 w1390 w1392 w277 rfl rfl ⟨⟨by decide, by decide⟩, rfl⟩ ⟨(Nat.le_of_ble_eq_true rfl), (Nat.le_of_ble_eq_true rfl)⟩ rfl hl.1 rfl (Nat.le_of_ble_eq_true rfl) d_V_flush_31 ⟨(show 0 + 0 + 5 + 0 + 0 ≤ 6 by omega), (show 0 + 0 + (8 + (3 * x.hsize + x.nser + 1)) + 0 + 0 ≤ 14 + (3 * x.hsize + x.nser + 1) by omega)⟩) hP hD hS hA (fun r14 u15 H locs hp9 hP hD hS => ?_)
  have hP : va_P D vwCl (VW dA h ad (VS.s_pl x pl1)) H := hP
  have hD : va_D A (VW dA h ad (VS.s_pl x pl1)) := hD
  replace hp9 : nI (mkP x.hsize O T V).bl = r14 := Eq.symm hp9
  subst hp9
  refine tpi (y := nI nb) (by rw [hb0]) ?_
  refine lv_iload_n hx hb d_V_flush_34 rfl (lv_at hl 0 rfl) ?_
  refine lv_iadd hx hb d_V_flush_35 (tpi (y := nI (nb + ((ctG2 SS x.nser).1))) (nI_add (nb) ((ctG2 SS x.nser).1)) ?_)
  refine lv_istore_n hx hb d_V_flush_36 rfl hl (by decide) rfl (fun ls hl => ?_)
  have hl : lv_has ls 4 [(3, .int (nI (nb + ((ctG2 SS x.nser).1)))), (2, .int (nI (ctG2 SS x.nser).1)), (1, .ref mp), (0, .ref h)] := hl
  refine lv_aload_n hx hb d_V_flush_37 rfl (lv_at hl 2 rfl) ?_
  refine lv_ifnull hx hb d_V_flush_38 ?_
  refine lv_aload_n hx hb d_V_flush_41 rfl (lv_at hl 3 rfl) ?_
  refine gF (v := .ref (ad 3)) hx hb hown hE hK hP 0 rfl rfl layV 11 (by decide) w297 rfl d_V_flush_42 ?_
  refine gFN (v := .int (nI x.npc)) hx hb hown hE hK hP 17 rfl rfl layH 1 (by decide) w303 rfl d_V_flush_45 ?_
  refine lv_bipush (v := 32) hx hb d_V_flush_48 (by decide) ?_
  refine lv_icmp_ge hx hb d_V_flush_50 (tgt := 61) rfl (fun h9 => absurd h9 (mt (nI_leI (a := 32) (b := x.npc) (by omega) (by omega)).mp (Nat.not_le.mpr hp32))) (fun _ => ?_)
  have fe : x.fr PS = x.diskBlocks - 2 - x.jlimit - (x.ncat + sumN x.npc (blN PS)) := rfl
  refine lv_iload_n hx hb d_V_flush_53 rfl (lv_at hl 0 rfl) ?_
  refine lv_aload_n hx hb d_V_flush_54 rfl (lv_at hl 3 rfl) ?_
  refine jkI (wr := []) (rnV (As := []) (rest := [.int (nI (nb + ((ctG2 SS x.nser).1)))]) hx hb hml hown hE hK (hN _ _ hS) hP hD (v_freeBlocks l D dA H.size h ad (VS.s_pl x pl1) PS hps1 (show x.npc ≤ 32 from by omega) hfr) (q0 := 0) rfl rfl w644 w643 w645 w646 w277 rfl rfl ⟨⟨by decide, by decide⟩, rfl⟩ ⟨(Nat.le_of_ble_eq_true rfl), (Nat.le_of_ble_eq_true rfl)⟩ rfl hl.1 rfl (Nat.le_of_ble_eq_true rfl) d_V_flush_55 ⟨(show 0 + 0 + 5 + 0 + 0 + 0 ≤ 6 by omega), (show 0 + 0 + (8 + (3 * x.hsize + x.nser + 1)) + 0 + 0 + 0 ≤ 14 + (3 * x.hsize + x.nser + 1) by omega)⟩) hP hD hS hA (fun r16 u17 H locs hp9 hP hD hS => ?_)
  have hP : va_P D vwCl (VW dA h ad (VS.s_pl x pl1)) H := hP
  have hD : va_D A (VW dA h ad (VS.s_pl x pl1)) := hD
  replace hp9 : nI (x.fr PS) = r16 := Eq.symm hp9
  subst hp9
  refine lv_icmp_le hx hb d_V_flush_58 (tgt := 69) rfl (fun g18 => ?_) (fun g18 => ?_)
  rotate_left
  · have g18 := mt (nI_leI (a := nb + ((ctG2 SS x.nser).1)) (b := x.fr PS) (by omega) (by omega)).mpr g18; exfalso; omega
  have g18 := (nI_leI (a := nb + ((ctG2 SS x.nser).1)) (b := x.fr PS) (by omega) (by omega)).mp g18
  refine lv_aload_n hx hb d_V_flush_69 rfl (lv_at hl 3 rfl) ?_
  refine lv_iload_n hx hb d_V_flush_70 rfl (lv_at hl 0 rfl) ?_
  refine lv_iconst (v := 1) hx hb d_V_flush_71 (by decide) ?_
  refine lv_iadd hx hb d_V_flush_72 (tpi (y := nI ((nb + ((ctG2 SS x.nser).1)) + 1)) (nI_add (nb + ((ctG2 SS x.nser).1)) (1)) ?_)
  refine xfV (w1 := VW dA h ad (VS.s_pl (VS.s_writes (VS.s_cutLeft (VS.s_powered x false) (-1)) (x.writes + k0)) pl1)) (As := [.int (nI ((nb + ((ctG2 SS x.nser).1)) + 1))]) (rest := []) hx hb hml hown hE hK (hN _ _ hS) (v_writeBlocks_x l htr D dA H.size h ad (VS.s_pl x pl1) ((nb + ((ctG2 SS x.nser).1)) + 1) k0 (show ((nb + ((ctG2 SS x.nser).1)) + 1) < 2 ^ 31 from by omega) (show k0 < ((nb + ((ctG2 SS x.nser).1)) + 1) from by omega) hcz hc) (q0 := 0) rfl rfl w1394 w1393 w1395 w1396 w277 rfl rfl ⟨⟨by decide, by decide⟩, rfl⟩ ⟨(Nat.le_of_ble_eq_true rfl), (Nat.le_of_ble_eq_true rfl)⟩ rfl hl.1 rfl (Nat.le_of_ble_eq_true rfl) d_V_flush_73 ⟨(show 0 + 0 + 5 + 0 + 0 + 0 + 1 ≤ 6 by omega), (show 0 + 0 + (8 + (3 * x.hsize + x.nser + 1)) + 0 + 0 + 0 + 6 ≤ 14 + (3 * x.hsize + x.nser + 1) by omega)⟩ hP hD hS hA (fun xa19 ce H locs hP hD hS hce hcv hcl => ?_)
  have hP : va_P D vwCl (VW dA h ad (VS.s_pl (VS.s_writes (VS.s_cutLeft (VS.s_powered x false) (-1)) (x.writes + k0)) pl1)) H := hP
  have hD : va_D A (VW dA h ad (VS.s_pl (VS.s_writes (VS.s_cutLeft (VS.s_powered x false) (-1)) (x.writes + k0)) pl1)) := hD
  exact xOut hno hlk hce hcv hcl (fun t ht => xkE (VS.s_pl (VS.s_writes (VS.s_cutLeft (VS.s_powered x false) (-1)) (x.writes + k0)) pl1) ⟨rfl, hsub⟩ hP hD hS t (by rw [ht]; exact Nat.le_refl _) (fun q _ => by rw [ht])) hS.2.2 (show 0 + 0 + 5 + 0 + 0 + 0 + 1 ≤ 6 by omega) (show 0 + 0 + (8 + (3 * x.hsize + x.nser + 1)) + 0 + 0 + 0 + 6 ≤ 14 + (3 * x.hsize + x.nser + 1) by omega)
