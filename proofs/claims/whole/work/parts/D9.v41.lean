theorem up_lt {z f : Nat → Option Nat} {i : Nat} {o : Option Nat} (h : ∀ q, q < i → z q = f q) (e : f i = o) {q : Nat} (hq : q < i + 1) : va_up z i o q = f q := by
  unfold va_up
  by_cases e5 : q = i
  · rw [if_pos e5, e5, e]
  · rw [if_neg e5]; exact h q (by omega)
theorem d_E_takes_0 : decode prog_10_method_5_code 0 = .ok (.iconst 0, 1) := by decide +kernel
theorem d_E_takes_1 : decode prog_10_method_5_code 1 = .ok (.istore_n 2, 1) := by decide +kernel
theorem d_E_takes_2 : decode prog_10_method_5_code 2 = .ok (.iload_n 2, 1) := by decide +kernel
theorem d_E_takes_3 : decode prog_10_method_5_code 3 = .ok (.aload_n 0, 1) := by decide +kernel
theorem d_E_takes_4 : decode prog_10_method_5_code 4 = .ok (.getfield 33, 3) := by decide +kernel
theorem d_E_takes_7 : decode prog_10_method_5_code 7 = .ok (.invokevirtual 51, 3) := by decide +kernel
theorem d_E_takes_10 : decode prog_10_method_5_code 10 = .ok (.if_icmp .ge 49, 3) := by decide +kernel
theorem d_E_takes_59 : decode prog_10_method_5_code 59 = .ok (.iconst 1, 1) := by decide +kernel
theorem d_E_takes_60 : decode prog_10_method_5_code 60 = .ok (.ireturn, 1) := by decide +kernel
theorem d_E_takes_13 : decode prog_10_method_5_code 13 = .ok (.aload_n 0, 1) := by decide +kernel
theorem d_E_takes_14 : decode prog_10_method_5_code 14 = .ok (.getfield 40, 3) := by decide +kernel
theorem d_E_takes_17 : decode prog_10_method_5_code 17 = .ok (.iload_n 2, 1) := by decide +kernel
theorem d_E_takes_18 : decode prog_10_method_5_code 18 = .ok (.iaload, 1) := by decide +kernel
theorem d_E_takes_19 : decode prog_10_method_5_code 19 = .ok (.aload_n 1, 1) := by decide +kernel
theorem d_E_takes_20 : decode prog_10_method_5_code 20 = .ok (.aload_n 0, 1) := by decide +kernel
theorem d_E_takes_21 : decode prog_10_method_5_code 21 = .ok (.getfield 33, 3) := by decide +kernel
theorem d_E_takes_24 : decode prog_10_method_5_code 24 = .ok (.iload_n 2, 1) := by decide +kernel
theorem d_E_takes_25 : decode prog_10_method_5_code 25 = .ok (.invokevirtual 65, 3) := by decide +kernel
theorem d_E_takes_28 : decode prog_10_method_5_code 28 = .ok (.checkcast 24, 3) := by decide +kernel
theorem d_E_takes_31 : decode prog_10_method_5_code 31 = .ok (.invokevirtual 69, 3) := by decide +kernel
theorem d_E_takes_34 : decode prog_10_method_5_code 34 = .ok (.aload_n 0, 1) := by decide +kernel
theorem d_E_takes_35 : decode prog_10_method_5_code 35 = .ok (.getfield 37, 3) := by decide +kernel
theorem d_E_takes_38 : decode prog_10_method_5_code 38 = .ok (.iload_n 2, 1) := by decide +kernel
theorem d_E_takes_39 : decode prog_10_method_5_code 39 = .ok (.invokevirtual 65, 3) := by decide +kernel
theorem d_E_takes_42 : decode prog_10_method_5_code 42 = .ok (.checkcast 24, 3) := by decide +kernel
theorem d_E_takes_45 : decode prog_10_method_5_code 45 = .ok (.invokestatic 75, 3) := by decide +kernel
theorem d_E_takes_48 : decode prog_10_method_5_code 48 = .ok (.ifCond .ne 5, 3) := by decide +kernel
theorem d_E_takes_53 : decode prog_10_method_5_code 53 = .ok (.iinc 2 1, 3) := by decide +kernel
theorem d_E_takes_56 : decode prog_10_method_5_code 56 = .ok (.goto (-54), 3) := by decide +kernel
theorem d_E_takes_51 : decode prog_10_method_5_code 51 = .ok (.iconst 0, 1) := by decide +kernel
theorem d_E_takes_52 : decode prog_10_method_5_code 52 = .ok (.ireturn, 1) := by decide +kernel
theorem w1482 : Cond.fieldLink "SeriesVault$Step" 33 "SeriesVault$Step" "matchNames" "Ljava/util/ArrayList;" ∈ aW := aw_of (tb_7 (List.mem_of_getElem? (i := 20) rfl)) rfl
theorem w1483 : Cond.methodLink "SeriesVault$Step" 51 ⟨"java/util/ArrayList", "size", "()I"⟩ ∈ aW := aw_of (tb_7 (List.mem_of_getElem? (i := 117) rfl)) rfl
theorem w1484 : Cond.code ⟨"java/util/ArrayList", "size", "()I"⟩ prog_37_method_8_code 1 (some FieldType.int) ∈ aW := aw_of (tb_7 (List.mem_of_getElem? (i := 120) rfl)) rfl
theorem w1485 : Cond.instanceMethod ⟨"java/util/ArrayList", "size", "()I"⟩ ∈ aW := aw_of (tb_7 (List.mem_of_getElem? (i := 118) rfl)) rfl
theorem w1486 : Cond.selects "java/util/ArrayList" ⟨"java/util/ArrayList", "size", "()I"⟩ ⟨"java/util/ArrayList", "size", "()I"⟩ ∈ aW := aw_of (tb_7 (List.mem_of_getElem? (i := 119) rfl)) rfl
theorem w1487 : Cond.fieldLink "SeriesVault$Step" 40 "SeriesVault$Step" "matchKinds" "[I" ∈ aW := aw_of (tb_7 (List.mem_of_getElem? (i := 22) rfl)) rfl
theorem w1488 : Cond.methodLink "SeriesVault$Step" 65 ⟨"java/util/ArrayList", "get", "(I)Ljava/lang/Object;"⟩ ∈ aW := aw_of (tb_7 (List.mem_of_getElem? (i := 196) rfl)) rfl
theorem w1489 : Cond.code ⟨"java/util/ArrayList", "get", "(I)Ljava/lang/Object;"⟩ prog_37_method_20_code 2 (some (FieldType.object "java/lang/Object")) ∈ aW := aw_of (tb_3 (List.mem_of_getElem? (i := 35) rfl)) rfl
theorem w1490 : Cond.instanceMethod ⟨"java/util/ArrayList", "get", "(I)Ljava/lang/Object;"⟩ ∈ aW := aw_of (tb_3 (List.mem_of_getElem? (i := 33) rfl)) rfl
theorem w1491 : Cond.selects "java/util/ArrayList" ⟨"java/util/ArrayList", "get", "(I)Ljava/lang/Object;"⟩ ⟨"java/util/ArrayList", "get", "(I)Ljava/lang/Object;"⟩ ∈ aW := aw_of (tb_3 (List.mem_of_getElem? (i := 34) rfl)) rfl
theorem w1492 : Cond.classLink "SeriesVault$Step" 24 "SeriesVault$Word" ∈ aW := aw_of (tb_7 (List.mem_of_getElem? (i := 7) rfl)) rfl
theorem w1493 : Cond.methodLink "SeriesVault$Step" 69 ⟨"SeriesVault$Series", "valueOf", "(LSeriesVault$Word;)LSeriesVault$Word;"⟩ ∈ aW := aw_of (tb_7 (List.mem_of_getElem? (i := 197) rfl)) rfl
theorem w1494 : Cond.fieldLink "SeriesVault$Step" 37 "SeriesVault$Step" "matchTexts" "Ljava/util/ArrayList;" ∈ aW := aw_of (tb_7 (List.mem_of_getElem? (i := 21) rfl)) rfl
theorem w1495 : Cond.methodLink "SeriesVault$Step" 75 ⟨"SeriesVault$Step", "holds", "(ILSeriesVault$Word;LSeriesVault$Word;)Z"⟩ ∈ aW := aw_of (tb_7 (List.mem_of_getElem? (i := 202) rfl)) rfl
theorem w1496 : Cond.initialized "SeriesVault$Step" ∈ aW := aw_of (tb_1 (List.mem_of_getElem? (i := 35) rfl)) rfl
theorem w1497 : Cond.code ⟨"SeriesVault$Step", "holds", "(ILSeriesVault$Word;LSeriesVault$Word;)Z"⟩ prog_10_method_6_code 3 (some FieldType.boolean) ∈ aW := aw_of (tb_7 (List.mem_of_getElem? (i := 204) rfl)) rfl
theorem w1498 : Cond.static ⟨"SeriesVault$Step", "holds", "(ILSeriesVault$Word;LSeriesVault$Word;)Z"⟩ ∈ aW := aw_of (tb_7 (List.mem_of_getElem? (i := 203) rfl)) rfl
set_option maxHeartbeats 4000000 in
set_option maxRecDepth 100000 in
theorem v_Etakes (l : Launch) (D : va_G) (dA : Nat → ClassId) (sz : Nat) (ws : va_W) (sp : Nat) (kd : Int32) (pl : Nat) (nu : Int64) (nn : Nat) (NL : Nat → List Int32) (n : Nat) (KD : Nat → Int32) (MN : Nat → List Int32) (MT : Nat → List Int32) (a : Nat) (S : List LB) (hst : isStp dA ws sp kd pl nu nn NL n KD MN MT) (hsa : isSer dA ws a S) (hoa : serOk S) : Met l ⟨"SeriesVault$Step", "takes", "(LSeriesVault$Series;)Z"⟩ [Cond.code ⟨"SeriesVault$Step", "takes", "(LSeriesVault$Series;)Z"⟩ prog_10_method_5_code 3 (some FieldType.boolean)] { frames := 4, cells := 0, slots := 0, locals := 64 } (pC D dA [.ref sp, .ref a] (ws) sz) (va_Qi (fun (r9 : Int32) (u9 : Unit) => r9 = bI (allB n (tkF KD MN MT S))) (fun (u9 : Unit) t9 => bW D (va_A (ws) sz) (ws) t9) (va_A (ws) sz)) 0 0 (va_A (ws) sz) := by
  refine mkC (y := ⟨"SeriesVault$Step", "takes", "(LSeriesVault$Series;)Z"⟩) (cc := prog_10_method_5_code) (maxL := 3) (av := [.ref sp, .ref a]) (ws := ws) (sz := sz) (Qc := fun A => va_Qi (fun (r9 : Int32) (u9 : Unit) => r9 = bI (allB n (tkF KD MN MT S))) (fun (u9 : Unit) t9 => bW D A (ws) t9) A) (by decide) (Nat.le_of_ble_eq_true rfl) ?_
  intro A p e s m below meth c ls hsz hB
  obtain ⟨hx, hb, hr, hml, hown, hin, hlk, hE, hK, hP, hD, hS, hA, hN, hl⟩ := hB
  have hown : s.vm.findClass "SeriesVault$Step" = some m.cls := hown
  have hl : lv_has ls 3 [(0, .ref sp), (1, .ref a)] := hl
  obtain ⟨H, hH⟩ : ∃ z, z = s.heap := ⟨_, rfl⟩
  have hP : va_P D vwCl (ws) H := by rw [hH]; exact hP
  have hS : va_S A s.heap H [] := by rw [hH]; exact hS
  rw [← hH]
  have hsc := hst
  obtain ⟨na, ln, lt, mk, cap, kN, fn, fk, j1, j2, j3, j4, j5, j6, j7, j8, j9, j10, j11⟩ := hsc
  have j6c := j6
  obtain ⟨eA1, mc1, k1, hn1, -⟩ := j6c
  have j7c := j7
  obtain ⟨eA2, mc2, k2, hn2, -⟩ := j7c
  have hcx := hsa
  obtain ⟨nax, vax, nox, txx, fnx, fvx, n1x, -⟩ := hcx
  refine lv_iconst (v := 0) hx hb d_E_takes_0 (by decide) ?_
  refine lv_istore_n hx hb d_E_takes_1 rfl hl (by decide) rfl (fun ls hl => ?_)
  have hl : lv_has ls 3 [(2, .int 0), (0, .ref sp), (1, .ref a)] := hl
  have L2 : ∀ (k9 : Nat) (i : Nat) (i1 : i ≤ n) (i2 : allB i (tkF KD MN MT S) = true) (hk9 : n - i = k9), ∀ (H : Heap) (locs : List Loc) (ls : Array Slot) (hP : va_P D vwCl (ws) H) (hD : va_D A (ws)) (hS : va_S A s.heap H locs) (hl : lv_has ls 3 [(2, .int (nI i)), (0, .ref sp), (1, .ref a)]), W p l e ({ frames := 4, cells := 0, slots := 0, locals := 64 } : Room) s m ([.ref sp, .ref a] : List Value).toArray below meth c H locs 0 0 (MQ below (va_Qi (fun (r9 : Int32) (u9 : Unit) => r9 = bI (allB n (tkF KD MN MT S))) (fun (u9 : Unit) t9 => bW D A (ws) t9) A) ([.ref sp, .ref a] : List Value).toArray s 0 0 A) (F0 m 2 ls []) := by
    intro k9
    induction k9 using Nat.strongRecOn with
    | ind k9 ih2 =>
      intro i i1 i2 hk9 H locs ls hP hD hS hl
      refine lv_iload_n hx hb d_E_takes_2 rfl (lv_at hl 0 rfl) ?_
      refine lv_aload_n hx hb d_E_takes_3 rfl (lv_at hl 1 rfl) ?_
      obtain ⟨qp1, ep2⟩ := List.getElem?_of_mem (show ((sp, .inr (13, [.int kd, .int (nI pl), .long nu, .ref na, .int (nI nn), .ref ln, .ref lt, .ref mk])) : Nat × va_E) ∈ ws from j1)
      refine gF (v := .ref ln) hx hb hown hE hK hP qp1 ep2 rfl layE 5 (by decide) w1482 rfl d_E_takes_4 ?_
      obtain ⟨qp3, ep4⟩ := List.getElem?_of_mem (show ((ln, .inr (6, [.ref eA1, .int (nI n), .int mc1])) : Nat × va_E) ∈ ws from k1)
      refine jkI (wr := []) (rnV (As := []) (rest := [.int (nI i)]) hx hb hml hown hE hK (hN _ _ hS) hP hD (v_LsizeM l D dA H.size ws ln n MN j6) (q0 := qp3) ep4 rfl w1484 w1483 w1485 w1486 w680 rfl rfl ⟨⟨by decide, by decide⟩, rfl⟩ ⟨(Nat.le_of_ble_eq_true rfl), (Nat.le_of_ble_eq_true rfl)⟩ rfl hl.1 rfl (Nat.le_of_ble_eq_true rfl) d_E_takes_7 ⟨(Nat.le_of_ble_eq_true rfl), (Nat.le_of_ble_eq_true rfl)⟩) hP hD hS hA (fun r5 u6 H locs hp9 hP hD hS => ?_)
      have hP : va_P D vwCl (ws) H := hP
      have hD : va_D A (ws) := hD
      replace hp9 : nI n = r5 := Eq.symm hp9
      subst hp9
      refine lv_icmp_ge hx hb d_E_takes_10 (tgt := 59) rfl (fun g7 => ?_) (fun g7 => ?_)
      · have g7 := (nI_leI (a := n) (b := i) (by omega) (by omega)).mp g7
        refine lv_iconst (v := 1) hx hb d_E_takes_59 (by decide) ?_
        exact rfZ hx hb hr (bI_nar true) hlk hS () (by rw [← show i = n by omega, i2]; rfl) hP hD (Nat.le_of_ble_eq_true rfl) (Nat.le_of_ble_eq_true rfl) d_E_takes_60
      · have g7 := mt (nI_leI (a := n) (b := i) (by omega) (by omega)).mpr g7
        have vl1 := valS_le (M := MN i) hoa
        obtain ⟨hk1, hk2⟩ := j11 i (by omega)
        refine lv_aload_n hx hb d_E_takes_13 rfl (lv_at hl 1 rfl) ?_
        obtain ⟨qp8, ep9⟩ := List.getElem?_of_mem (show ((sp, .inr (13, [.int kd, .int (nI pl), .long nu, .ref na, .int (nI nn), .ref ln, .ref lt, .ref mk])) : Nat × va_E) ∈ ws from j1)
        refine gF (v := .ref mk) hx hb hown hE hK hP qp8 ep9 rfl layE 7 (by decide) w1487 rfl d_E_takes_14 ?_
        refine lv_iload_n hx hb d_E_takes_17 rfl (lv_at hl 0 rfl) ?_
        obtain ⟨qp10, ep11⟩ := List.getElem?_of_mem (show ((mk, .inl (dA 1, kN, .inl fk)) : Nat × va_E) ∈ ws from j8)
        refine nild (f := fk) (n := kN) hx hb hK hP (qp10) 1 ep11 rfl (i) (by omega) (by omega) d_E_takes_18 ?_
        refine tpi (y := (KD i)) hk1 ?_
        refine lv_aload_n hx hb d_E_takes_19 rfl (lv_at hl 2 rfl) ?_
        refine lv_aload_n hx hb d_E_takes_20 rfl (lv_at hl 1 rfl) ?_
        obtain ⟨qp12, ep13⟩ := List.getElem?_of_mem (show ((sp, .inr (13, [.int kd, .int (nI pl), .long nu, .ref na, .int (nI nn), .ref ln, .ref lt, .ref mk])) : Nat × va_E) ∈ ws from j1)
        refine gF (v := .ref ln) hx hb hown hE hK hP qp12 ep13 rfl layE 5 (by decide) w1482 rfl d_E_takes_21 ?_
        refine lv_iload_n hx hb d_E_takes_24 rfl (lv_at hl 0 rfl) ?_
        obtain ⟨qp14, ep15⟩ := List.getElem?_of_mem (show ((ln, .inr (6, [.ref eA1, .int (nI n), .int mc1])) : Nat × va_E) ∈ ws from k1)
        refine jkR (wr := []) (rnV (As := [.int (nI i)]) (rest := [.ref a, .int (KD i)]) hx hb hml hown hE hK (hN _ _ hS) hP hD (v_LgetM l D dA H.size ws ln n MN i j6 (show i < n from by omega)) (q0 := qp14) ep15 rfl w1489 w1488 w1490 w1491 w680 rfl rfl ⟨⟨by decide, by decide⟩, rfl⟩ ⟨(Nat.le_of_ble_eq_true rfl), (Nat.le_of_ble_eq_true rfl)⟩ rfl hl.1 rfl (Nat.le_of_ble_eq_true rfl) d_E_takes_25 ⟨(Nat.le_of_ble_eq_true rfl), (Nat.le_of_ble_eq_true rfl)⟩) hP hD hS hA (fun u16 v1 H locs hp9 hP hD hS => ?_)
        have hP : va_P D vwCl (ws) H := hP
        have hD : va_D A (ws) := hD
        obtain ⟨f_w_17, f_lw_18⟩ := hp9
        have wc_n := f_w_17
        obtain ⟨bv1, fv1, kv1, -⟩ := wc_n
        obtain ⟨qp19, ep20⟩ := List.getElem?_of_mem (show ((v1, .inr (10, [.ref bv1])) : Nat × va_E) ∈ ws from kv1)
        refine va_castE hx hb hown (hE.t w1492 rfl) (va_recv hK hP (ci := 10) (q0 := qp19) (q := ("SeriesVault$Word", TW, 1)) rfl ep20) d_E_takes_28 ?_
        obtain ⟨qp21, ep22⟩ := List.getElem?_of_mem (show ((a, .inr (11, [.ref nax, .ref vax, .ref nox, .ref txx])) : Nat × va_E) ∈ ws from n1x)
        refine jkR (wr := []) (rnV (As := [.ref v1]) (rest := [.int (KD i)]) hx hb hml hown hE hK (hN _ _ hS) hP hD (v_SvalueOf2 l D dA H.size ws ws a S v1 (MN i) (fun _ hm => hm) hsa hoa (isWo_m (fun _ hm => hm) f_w_17) f_lw_18) (q0 := qp21) ep22 rfl w1378 w1493 w1379 w1380 w1288 rfl rfl ⟨⟨by decide, by decide⟩, rfl⟩ ⟨(Nat.le_of_ble_eq_true rfl), (Nat.le_of_ble_eq_true rfl)⟩ rfl hl.1 rfl (Nat.le_of_ble_eq_true rfl) d_E_takes_31 ⟨(Nat.le_of_ble_eq_true rfl), (Nat.le_of_ble_eq_true rfl)⟩) hP hD hS hA (fun u23 v2 H locs hp9 hP hD hS => ?_)
        have hP : va_P D vwCl (ws) H := hP
        have hD : va_D A (ws) := hD
        have f_w_24 := hp9
        have wc_v := f_w_24
        obtain ⟨bv2, fv2, kv2, -⟩ := wc_v
        refine lv_aload_n hx hb d_E_takes_34 rfl (lv_at hl 1 rfl) ?_
        obtain ⟨qp25, ep26⟩ := List.getElem?_of_mem (show ((sp, .inr (13, [.int kd, .int (nI pl), .long nu, .ref na, .int (nI nn), .ref ln, .ref lt, .ref mk])) : Nat × va_E) ∈ ws from j1)
        refine gF (v := .ref lt) hx hb hown hE hK hP qp25 ep26 rfl layE 6 (by decide) w1494 rfl d_E_takes_35 ?_
        refine lv_iload_n hx hb d_E_takes_38 rfl (lv_at hl 0 rfl) ?_
        obtain ⟨qp27, ep28⟩ := List.getElem?_of_mem (show ((lt, .inr (6, [.ref eA2, .int (nI n), .int mc2])) : Nat × va_E) ∈ ws from k2)
        refine jkR (wr := []) (rnV (As := [.int (nI i)]) (rest := [.ref v2, .int (KD i)]) hx hb hml hown hE hK (hN _ _ hS) hP hD (v_LgetM l D dA H.size ws lt n MT i j7 (show i < n from by omega)) (q0 := qp27) ep28 rfl w1489 w1488 w1490 w1491 w680 rfl rfl ⟨⟨by decide, by decide⟩, rfl⟩ ⟨(Nat.le_of_ble_eq_true rfl), (Nat.le_of_ble_eq_true rfl)⟩ rfl hl.1 rfl (Nat.le_of_ble_eq_true rfl) d_E_takes_39 ⟨(Nat.le_of_ble_eq_true rfl), (Nat.le_of_ble_eq_true rfl)⟩) hP hD hS hA (fun u29 v3 H locs hp9 hP hD hS => ?_)
        have hP : va_P D vwCl (ws) H := hP
        have hD : va_D A (ws) := hD
        obtain ⟨f_w_30, f_lw_31⟩ := hp9
        have wc_t := f_w_30
        obtain ⟨bv3, fv3, kv3, -⟩ := wc_t
        obtain ⟨qp32, ep33⟩ := List.getElem?_of_mem (show ((v3, .inr (10, [.ref bv3])) : Nat × va_E) ∈ ws from kv3)
        refine va_castE hx hb hown (hE.t w1492 rfl) (va_recv hK hP (ci := 10) (q0 := qp32) (q := ("SeriesVault$Word", TW, 1)) rfl ep33) d_E_takes_42 ?_
        refine jkI (wr := []) (rnS (As := [.int (KD i), .ref v2, .ref v3]) (rest := []) hx hb hml hown hE hK (hN _ _ hS) hP hD (v_Eholds l D dA H.size ws (KD i) v2 v3 (valS S (MN i)) (MT i) f_w_24 (show (valS S (MN i)).length ≤ 65536 by omega) f_w_30 f_lw_31 hk2) w1497 w1495 w1498 w1496 rfl rfl ⟨⟨by decide, by decide⟩, rfl⟩ ⟨(Nat.le_of_ble_eq_true rfl), (Nat.le_of_ble_eq_true rfl)⟩ rfl hl.1 rfl (Nat.le_of_ble_eq_true rfl) d_E_takes_45 ⟨(Nat.le_of_ble_eq_true rfl), (Nat.le_of_ble_eq_true rfl)⟩) hP hD hS hA (fun r34 u35 H locs hp9 hP hD hS => ?_)
        have hP : va_P D vwCl (ws) H := hP
        have hD : va_D A (ws) := hD
        replace hp9 : bI (hoB (KD i) (valS S (MN i)) (MT i)) = r34 := Eq.symm hp9
        subst hp9
        refine lv_if_ne hx hb d_E_takes_48 (tgt := 53) rfl (fun g36 => ?_) (fun g36 => ?_)
        · have g36 := bI_n0 g36
          refine lv_iinc (k := 0) (v := nI (i + 1)) hx hb d_E_takes_53 hl rfl (iincN (i) 1 1 (by decide)) (by decide) rfl (fun ls hl => ?_)
          have hl : lv_has ls 3 [(2, .int (nI (i + 1))), (0, .ref sp), (1, .ref a)] := hl
          refine lv_goto hx hb d_E_takes_56 (tgt := 2) rfl ?_
          exact ih2 _ (by omega) (i + 1) (by omega) (by rw [allB_s, i2, Bool.true_and]; exact g36) rfl H _ ls hP hD hS (lv_sub hl [0, 1, 2] rfl)
        · have g36 := bI_0 g36
          refine lv_iconst (v := 0) hx hb d_E_takes_51 (by decide) ?_
          exact rfZ hx hb hr (bI_nar false) hlk hS () (by rw [allB_1 (f := tkF KD MN MT S) (k := i) (n := n) (by omega) g36]; rfl) hP hD (Nat.le_of_ble_eq_true rfl) (Nat.le_of_ble_eq_true rfl) d_E_takes_52
  exact L2 _ 0 (Nat.zero_le _) rfl rfl H _ ls hP hD hS (lv_sub hl [0, 1, 2] rfl)
theorem d_T_beginRows_0 : decode prog_11_method_3_code 0 = .ok (.aload_n 0, 1) := by decide +kernel
theorem d_T_beginRows_1 : decode prog_11_method_3_code 1 = .ok (.iload_n 2, 1) := by decide +kernel
theorem d_T_beginRows_2 : decode prog_11_method_3_code 2 = .ok (.putfield 30, 3) := by decide +kernel
theorem d_T_beginRows_5 : decode prog_11_method_3_code 5 = .ok (.aload_n 0, 1) := by decide +kernel
theorem d_T_beginRows_6 : decode prog_11_method_3_code 6 = .ok (.aload_n 1, 1) := by decide +kernel
theorem d_T_beginRows_7 : decode prog_11_method_3_code 7 = .ok (.getfield 47, 3) := by decide +kernel
theorem d_T_beginRows_10 : decode prog_11_method_3_code 10 = .ok (.putfield 34, 3) := by decide +kernel
theorem d_T_beginRows_13 : decode prog_11_method_3_code 13 = .ok (.iconst 0, 1) := by decide +kernel
theorem d_T_beginRows_14 : decode prog_11_method_3_code 14 = .ok (.istore_n 3, 1) := by decide +kernel
theorem d_T_beginRows_15 : decode prog_11_method_3_code 15 = .ok (.iload_n 3, 1) := by decide +kernel
theorem d_T_beginRows_16 : decode prog_11_method_3_code 16 = .ok (.aload_n 0, 1) := by decide +kernel
theorem d_T_beginRows_17 : decode prog_11_method_3_code 17 = .ok (.getfield 34, 3) := by decide +kernel
theorem d_T_beginRows_20 : decode prog_11_method_3_code 20 = .ok (.if_icmp .ge 21, 3) := by decide +kernel
theorem d_T_beginRows_41 : decode prog_11_method_3_code 41 = .ok (.aload_n 0, 1) := by decide +kernel
theorem d_T_beginRows_42 : decode prog_11_method_3_code 42 = .ok (.iconst 0, 1) := by decide +kernel
theorem d_T_beginRows_43 : decode prog_11_method_3_code 43 = .ok (.putfield 37, 3) := by decide +kernel
theorem d_T_beginRows_46 : decode prog_11_method_3_code 46 = .ok (.return_, 1) := by decide +kernel
theorem d_T_beginRows_23 : decode prog_11_method_3_code 23 = .ok (.aload_n 0, 1) := by decide +kernel
theorem d_T_beginRows_24 : decode prog_11_method_3_code 24 = .ok (.getfield 11, 3) := by decide +kernel
theorem d_T_beginRows_27 : decode prog_11_method_3_code 27 = .ok (.iload_n 3, 1) := by decide +kernel
theorem d_T_beginRows_28 : decode prog_11_method_3_code 28 = .ok (.aload_n 1, 1) := by decide +kernel
theorem d_T_beginRows_29 : decode prog_11_method_3_code 29 = .ok (.getfield 50, 3) := by decide +kernel
theorem d_T_beginRows_32 : decode prog_11_method_3_code 32 = .ok (.iload_n 3, 1) := by decide +kernel
theorem d_T_beginRows_33 : decode prog_11_method_3_code 33 = .ok (.aaload, 1) := by decide +kernel
theorem d_T_beginRows_34 : decode prog_11_method_3_code 34 = .ok (.aastore, 1) := by decide +kernel
theorem d_T_beginRows_35 : decode prog_11_method_3_code 35 = .ok (.iinc 3 1, 3) := by decide +kernel
theorem d_T_beginRows_38 : decode prog_11_method_3_code 38 = .ok (.goto (-23), 3) := by decide +kernel
theorem w1499 : Cond.fieldLinkNest "SeriesVault$Table" 47 "SeriesVault$Step" "nameCount" "I" "SeriesVault" ∈ aW := aw_of (tb_7 (List.mem_of_getElem? (i := 19) rfl)) rfl
theorem w1500 : Cond.fieldLinkNest "SeriesVault$Table" 50 "SeriesVault$Step" "names" "[LSeriesVault$Word;" "SeriesVault" ∈ aW := aw_of (tb_7 (List.mem_of_getElem? (i := 17) rfl)) rfl
set_option maxHeartbeats 4000000 in
set_option maxRecDepth 100000 in
theorem v_TbeginRows (l : Launch) (D : va_G) (dA : Nat → ClassId) (sz : Nat) (ws : va_W) (ta : Nat → Nat) (t : TB) (sp : Nat) (wn : Nat) (kd : Int32) (pl : Nat) (nu : Int64) (nn : Nat) (NL : Nat → List Int32) (n : Nat) (KD : Nat → Int32) (MN : Nat → List Int32) (MT : Nat → List Int32) (hst : isStp dA ws sp kd pl nu nn NL n KD MN MT) : Met l ⟨"SeriesVault$Table", "beginRows", "(LSeriesVault$Step;I)V"⟩ [Cond.code ⟨"SeriesVault$Table", "beginRows", "(LSeriesVault$Step;I)V"⟩ prog_11_method_3_code 4 none] { frames := 1, cells := 0, slots := 0, locals := 0 } (pC D dA [.ref (ta 0), .ref sp, .int (nI wn)] (TbW dA ta t ++ (ws)) sz) (va_Qv (fun (u9 : (Nat → Option Nat)) => nmOk dA ws u9 nn NL) (fun (u9 : (Nat → Option Nat)) t9 => bW D (va_A (TbW dA ta t ++ (ws)) sz) (TbW dA ta (TB.s_rc (TB.s_wi (TB.s_nc (TB.s_nm t u9) nn) wn) 0) ++ (ws)) t9) (va_A (TbW dA ta t ++ (ws)) sz)) 0 0 (va_A (TbW dA ta t ++ (ws)) sz) := by
  refine mkC (y := ⟨"SeriesVault$Table", "beginRows", "(LSeriesVault$Step;I)V"⟩) (cc := prog_11_method_3_code) (maxL := 4) (av := [.ref (ta 0), .ref sp, .int (nI wn)]) (ws := TbW dA ta t ++ (ws)) (sz := sz) (Qc := fun A => va_Qv (fun (u9 : (Nat → Option Nat)) => nmOk dA ws u9 nn NL) (fun (u9 : (Nat → Option Nat)) t9 => bW D A (TbW dA ta (TB.s_rc (TB.s_wi (TB.s_nc (TB.s_nm t u9) nn) wn) 0) ++ (ws)) t9) A) (by decide) (Nat.le_of_ble_eq_true rfl) ?_
  intro A p e s m below meth c ls hsz hB
  obtain ⟨hx, hb, hr, hml, hown, hin, hlk, hE, hK, hP, hD, hS, hA, hN, hl⟩ := hB
  have hown : s.vm.findClass "SeriesVault$Table" = some m.cls := hown
  have hl : lv_has ls 4 [(0, .ref (ta 0)), (1, .ref sp), (2, .int (nI wn))] := hl
  obtain ⟨H, hH⟩ : ∃ z, z = s.heap := ⟨_, rfl⟩
  have hP : va_P D vwCl (TbW dA ta t ++ (ws)) H := by rw [hH]; exact hP
  have hS : va_S A s.heap H [] := by rw [hH]; exact hS
  rw [← hH]
  have hsc := hst
  obtain ⟨na, ln, lt, mk, cap, kN, fn, fk, j1, j2, j3, j4, j5, j6, j7, j8, j9, j10, j11⟩ := hsc
  refine lv_aload_n hx hb d_T_beginRows_0 rfl (lv_at hl 0 rfl) ?_
  refine lv_iload_n hx hb d_T_beginRows_1 rfl (lv_at hl 2 rfl) ?_
  refine pF (v := .int (nI wn)) hx hb hown hE hK hP hD hS 0 rfl rfl layT tyT tokT nmT 2 (by decide) w1367 rfl rfl rfl (Nat.le_of_ble_eq_true rfl) d_T_beginRows_2 (fun H locs hP hD hS => ?_)
  have hP : va_P D vwCl (TbW dA ta (TB.s_wi t wn) ++ (ws)) H := hP
  have hD : va_D A (TbW dA ta (TB.s_wi t wn) ++ (ws)) := hD
  refine lv_aload_n hx hb d_T_beginRows_5 rfl (lv_at hl 0 rfl) ?_
  refine lv_aload_n hx hb d_T_beginRows_6 rfl (lv_at hl 1 rfl) ?_
  obtain ⟨qp1, ep2⟩ := List.getElem?_of_mem (show ((sp, .inr (13, [.int kd, .int (nI pl), .long nu, .ref na, .int (nI nn), .ref ln, .ref lt, .ref mk])) : Nat × va_E) ∈ TbW dA ta (TB.s_wi t wn) ++ (ws) from (List.mem_append_right _ j1))
  refine gFN (v := .int (nI nn)) hx hb hown hE hK hP qp1 ep2 rfl layE 4 (by decide) w1499 rfl d_T_beginRows_7 ?_
  refine pF (v := .int (nI nn)) hx hb hown hE hK hP hD hS 0 rfl rfl layT tyT tokT nmT 1 (by decide) w1376 rfl rfl rfl (Nat.le_of_ble_eq_true rfl) d_T_beginRows_10 (fun H locs hP hD hS => ?_)
  have hP : va_P D vwCl (TbW dA ta (TB.s_wi (TB.s_nc t nn) wn) ++ (ws)) H := hP
  have hD : va_D A (TbW dA ta (TB.s_wi (TB.s_nc t nn) wn) ++ (ws)) := hD
  refine lv_iconst (v := 0) hx hb d_T_beginRows_13 (by decide) ?_
  refine lv_istore_n hx hb d_T_beginRows_14 rfl hl (by decide) rfl (fun ls hl => ?_)
  have hl : lv_has ls 4 [(3, .int 0), (0, .ref (ta 0)), (1, .ref sp), (2, .int (nI wn))] := hl
  have L15 : ∀ (k9 : Nat) (i : Nat) (nx : Nat → Option Nat) (i1 : i ≤ nn) (i2 : ∀ q, q < i → nx q = fn q) (hk9 : nn - i = k9), ∀ (H : Heap) (locs : List Loc) (ls : Array Slot) (hP : va_P D vwCl (TbW dA ta (TB.s_wi (TB.s_nc (TB.s_nm t nx) nn) wn) ++ (ws)) H) (hD : va_D A (TbW dA ta (TB.s_wi (TB.s_nc (TB.s_nm t nx) nn) wn) ++ (ws))) (hS : va_S A s.heap H locs) (hl : lv_has ls 4 [(3, .int (nI i)), (0, .ref (ta 0)), (1, .ref sp), (2, .int (nI wn))]), W p l e ({ frames := 1, cells := 0, slots := 0, locals := 0 } : Room) s m ([.ref (ta 0), .ref sp, .int (nI wn)] : List Value).toArray below meth c H locs 0 0 (MQ below (va_Qv (fun (u9 : (Nat → Option Nat)) => nmOk dA ws u9 nn NL) (fun (u9 : (Nat → Option Nat)) t9 => bW D A (TbW dA ta (TB.s_rc (TB.s_wi (TB.s_nc (TB.s_nm t u9) nn) wn) 0) ++ (ws)) t9) A) ([.ref (ta 0), .ref sp, .int (nI wn)] : List Value).toArray s 0 0 A) (F0 m 15 ls []) := by
    intro k9
    induction k9 using Nat.strongRecOn with
    | ind k9 ih15 =>
      intro i nx i1 i2 hk9 H locs ls hP hD hS hl
      refine lv_iload_n hx hb d_T_beginRows_15 rfl (lv_at hl 0 rfl) ?_
      refine lv_aload_n hx hb d_T_beginRows_16 rfl (lv_at hl 1 rfl) ?_
      refine gF (v := .int (nI nn)) hx hb hown hE hK hP 0 rfl rfl layT 1 (by decide) w1376 rfl d_T_beginRows_17 ?_
      refine lv_icmp_ge hx hb d_T_beginRows_20 (tgt := 41) rfl (fun g3 => ?_) (fun g3 => ?_)
      · have g3 := (nI_leI (a := nn) (b := i) (by omega) (by omega)).mp g3
        refine lv_aload_n hx hb d_T_beginRows_41 rfl (lv_at hl 1 rfl) ?_
        refine lv_iconst (v := 0) hx hb d_T_beginRows_42 (by decide) ?_
        refine pF (v := .int (nI 0)) hx hb hown hE hK hP hD hS 0 rfl rfl layT tyT tokT nmT 3 (by decide) w1368 rfl rfl rfl (Nat.le_of_ble_eq_true rfl) d_T_beginRows_43 (fun H locs hP hD hS => ?_)
        have hP : va_P D vwCl (TbW dA ta (TB.s_rc (TB.s_wi (TB.s_nc (TB.s_nm t nx) nn) wn) 0) ++ (ws)) H := hP
        have hD : va_D A (TbW dA ta (TB.s_rc (TB.s_wi (TB.s_nc (TB.s_nm t nx) nn) wn) 0) ++ (ws)) := hD
        exact rfV hx hb hr hlk hS nx (fun q hq => by obtain ⟨p9, a1, a2, a3⟩ := j5 q hq; exact ⟨p9, by rw [i2 q (by omega)]; exact a1, a2, a3⟩) hP hD (Nat.le_of_ble_eq_true rfl) (Nat.le_of_ble_eq_true rfl) d_T_beginRows_46
      · have g3 := mt (nI_leI (a := nn) (b := i) (by omega) (by omega)).mpr g3
        refine lv_aload_n hx hb d_T_beginRows_23 rfl (lv_at hl 1 rfl) ?_
        obtain ⟨p1, ep1, wp1, lp1⟩ := j5 i (by omega)
        have wpc := wp1
        obtain ⟨bp1, fp1, kp1, -⟩ := wpc
        refine gF (v := .ref (ta 1)) hx hb hown hE hK hP 0 rfl rfl layT 0 (by decide) w784 rfl d_T_beginRows_24 ?_
        refine lv_iload_n hx hb d_T_beginRows_27 rfl (lv_at hl 0 rfl) ?_
        refine lv_aload_n hx hb d_T_beginRows_28 rfl (lv_at hl 2 rfl) ?_
        obtain ⟨qp4, ep5⟩ := List.getElem?_of_mem (show ((sp, .inr (13, [.int kd, .int (nI pl), .long nu, .ref na, .int (nI nn), .ref ln, .ref lt, .ref mk])) : Nat × va_E) ∈ TbW dA ta (TB.s_wi (TB.s_nc (TB.s_nm t nx) nn) wn) ++ (ws) from (List.mem_append_right _ j1))
        refine gFN (v := .ref na) hx hb hown hE hK hP qp4 ep5 rfl layE 3 (by decide) w1500 rfl d_T_beginRows_29 ?_
        refine lv_iload_n hx hb d_T_beginRows_32 rfl (lv_at hl 0 rfl) ?_
        obtain ⟨qp6, ep7⟩ := List.getElem?_of_mem (show ((na, .inl (dA 6, cap, .inr (.inr (.inr (.inr fn))))) : Nat × va_E) ∈ TbW dA ta (TB.s_wi (TB.s_nc (TB.s_nm t nx) nn) wn) ++ (ws) from (List.mem_append_right _ j2))
        refine nqld (f := fn) (n := cap) hx hb hK hP (qp6) 6 ep7 rfl (i) (by omega) (by omega) ep1 d_T_beginRows_33 ?_
        obtain ⟨qp8, ep9⟩ := List.getElem?_of_mem (show ((p1, .inr (10, [.ref bp1])) : Nat × va_E) ∈ TbW dA ta (TB.s_wi (TB.s_nc (TB.s_nm t nx) nn) wn) ++ (ws) from (List.mem_append_right _ kp1))
        refine nqst (r := ("SeriesVault$Word", TW, 1)) (f := nx) (n := 6) hx hb hK hP hD hS (1) 6 (qp8) 10 rfl rfl ep9 rfl (i) (by omega) (by decide) d_T_beginRows_34 (fun H locs hP hD hS => ?_)
        have hP : va_P D vwCl (TbW dA ta (TB.s_wi (TB.s_nc (TB.s_nm t (va_up nx i (some p1))) nn) wn) ++ (ws)) H := hP
        have hD : va_D A (TbW dA ta (TB.s_wi (TB.s_nc (TB.s_nm t (va_up nx i (some p1))) nn) wn) ++ (ws)) := hD
        refine lv_iinc (k := 0) (v := nI (i + 1)) hx hb d_T_beginRows_35 hl rfl (iincN (i) 1 1 (by decide)) (by decide) rfl (fun ls hl => ?_)
        have hl : lv_has ls 4 [(3, .int (nI (i + 1))), (0, .ref (ta 0)), (1, .ref sp), (2, .int (nI wn))] := hl
        refine lv_goto hx hb d_T_beginRows_38 (tgt := 15) rfl ?_
        exact ih15 _ (by omega) (i + 1) (va_up nx i (some p1)) (by omega) (fun q hq => up_lt i2 ep1 hq) rfl H _ ls hP hD hS (lv_sub hl [0, 1, 2, 3] rfl)
  exact L15 _ 0 t.nm (Nat.zero_le _) (fun q h => absurd h (Nat.not_lt_zero q)) rfl H _ ls hP hD hS (lv_sub hl [0, 1, 2, 3] rfl)
