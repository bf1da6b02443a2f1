/-- the series of the class -/
def knOk (dA : Nat → ClassId) (kn : Nat → Option Nat) (n : Nat) (pl : va_W) (SS : Nat → List LB) : Prop := ∀ k, k < n → ∃ a : Nat, kn k = some a ∧ isSer dA pl a (SS k) ∧ serOk (SS k)
def nuB (SS : Nat → List LB) (S : List LB) (k : Nat) : Bool := sameW (joinT (SS k)) (joinT S)
def nuN (SS : Nat → List LB) (S : List LB) (n : Nat) : Nat := match frst (nuB SS S) n 0 with
  | none => n
  | some k => k
theorem nuN_n {SS : Nat → List LB} {S : List LB} {n : Nat} (h : frst (nuB SS S) n 0 = none) : nuN SS S n = n := by unfold nuN; rw [h]
theorem nuN_s {SS : Nat → List LB} {S : List LB} {n k : Nat} (h : frst (nuB SS S) n 0 = some k) : nuN SS S n = k := by unfold nuN; rw [h]
/-- blocks and room of the catalog -/
def uS (S : List LB) : Nat := 1 + ((joinT S).length + 32 - 1) / 32
def ctG2 (SS : Nat → List LB) : Nat → Nat × Nat
  | 0 => (0, 0)
  | k + 1 => if uS (SS k) ≤ (ctG2 SS k).2 then ((ctG2 SS k).1, (ctG2 SS k).2 - uS (SS k)) else ((ctG2 SS k).1 + 1, 126 - uS (SS k))
theorem uS_le {S : List LB} (h : serOk S) : uS S ≤ 11 := by
  have := jt_le h
  unfold uS
  omega
theorem d_V_numberOf_0 : decode prog_1_method_24_code 0 = .ok (.iconst 0, 1) := by decide +kernel
theorem d_V_numberOf_1 : decode prog_1_method_24_code 1 = .ok (.istore_n 2, 1) := by decide +kernel
theorem d_V_numberOf_2 : decode prog_1_method_24_code 2 = .ok (.iload_n 2, 1) := by decide +kernel
theorem d_V_numberOf_3 : decode prog_1_method_24_code 3 = .ok (.aload_n 0, 1) := by decide +kernel
theorem d_V_numberOf_4 : decode prog_1_method_24_code 4 = .ok (.getfield 33, 3) := by decide +kernel
theorem d_V_numberOf_7 : decode prog_1_method_24_code 7 = .ok (.getfield 130, 3) := by decide +kernel
theorem d_V_numberOf_10 : decode prog_1_method_24_code 10 = .ok (.if_icmp .ge 30, 3) := by decide +kernel
theorem d_V_numberOf_40 : decode prog_1_method_24_code 40 = .ok (.aload_n 0, 1) := by decide +kernel
theorem d_V_numberOf_41 : decode prog_1_method_24_code 41 = .ok (.getfield 33, 3) := by decide +kernel
theorem d_V_numberOf_44 : decode prog_1_method_24_code 44 = .ok (.getfield 130, 3) := by decide +kernel
theorem d_V_numberOf_47 : decode prog_1_method_24_code 47 = .ok (.ireturn, 1) := by decide +kernel
theorem d_V_numberOf_13 : decode prog_1_method_24_code 13 = .ok (.aload_n 0, 1) := by decide +kernel
theorem d_V_numberOf_14 : decode prog_1_method_24_code 14 = .ok (.getfield 42, 3) := by decide +kernel
theorem d_V_numberOf_17 : decode prog_1_method_24_code 17 = .ok (.iload_n 2, 1) := by decide +kernel
theorem d_V_numberOf_18 : decode prog_1_method_24_code 18 = .ok (.aaload, 1) := by decide +kernel
theorem d_V_numberOf_19 : decode prog_1_method_24_code 19 = .ok (.getfield 225, 3) := by decide +kernel
theorem d_V_numberOf_22 : decode prog_1_method_24_code 22 = .ok (.aload_n 1, 1) := by decide +kernel
theorem d_V_numberOf_23 : decode prog_1_method_24_code 23 = .ok (.getfield 225, 3) := by decide +kernel
theorem d_V_numberOf_26 : decode prog_1_method_24_code 26 = .ok (.invokevirtual 229, 3) := by decide +kernel
theorem d_V_numberOf_29 : decode prog_1_method_24_code 29 = .ok (.ifCond .eq 5, 3) := by decide +kernel
theorem d_V_numberOf_34 : decode prog_1_method_24_code 34 = .ok (.iinc 2 1, 3) := by decide +kernel
theorem d_V_numberOf_37 : decode prog_1_method_24_code 37 = .ok (.goto (-35), 3) := by decide +kernel
theorem d_V_numberOf_32 : decode prog_1_method_24_code 32 = .ok (.iload_n 2, 1) := by decide +kernel
theorem d_V_numberOf_33 : decode prog_1_method_24_code 33 = .ok (.ireturn, 1) := by decide +kernel
theorem w1321 : Cond.fieldLinkNest "SeriesVault" 225 "SeriesVault$Series" "text" "LSeriesVault$Word;" "SeriesVault" ∈ aW := aw_of (tb_5 (List.mem_of_getElem? (i := 8) rfl)) rfl
theorem w1322 : Cond.methodLink "SeriesVault" 229 ⟨"SeriesVault$Word", "same", "(LSeriesVault$Word;)Z"⟩ ∈ aW := aw_of (tb_5 (List.mem_of_getElem? (i := 22) rfl)) rfl
set_option maxHeartbeats 4000000 in
set_option maxRecDepth 100000 in
theorem v_numberOf (l : Launch) (D : va_G) (dA : Nat → ClassId) (sz : Nat) (h : Nat) (ad : Nat → Nat) (x : VS) (SS : Nat → List LB) (a : Nat) (S : List LB) (hkn : knOk dA x.kn x.nser x.pl SS) (hn : x.nser ≤ 256) (hsr : isSer dA x.pl a S) (hso : serOk S) : Met l ⟨"SeriesVault", "numberOf", "(LSeriesVault$Series;)I"⟩ [Cond.code ⟨"SeriesVault", "numberOf", "(LSeriesVault$Series;)I"⟩ prog_1_method_24_code 3 (some FieldType.int)] { frames := 2, cells := 0, slots := 0, locals := 22 } (pC D dA [.ref h, .ref a] (VW dA h ad x) sz) (va_Qi (fun (r9 : Int32) (u9 : Unit) => r9 = nI (nuN SS S x.nser)) (fun (u9 : Unit) t9 => bW D (va_A (VW dA h ad x) sz) (VW dA h ad x) t9) (va_A (VW dA h ad x) sz)) 0 0 (va_A (VW dA h ad x) sz) := by
  refine mkC (y := ⟨"SeriesVault", "numberOf", "(LSeriesVault$Series;)I"⟩) (cc := prog_1_method_24_code) (maxL := 3) (av := [.ref h, .ref a]) (ws := VW dA h ad x) (sz := sz) (Qc := fun A => va_Qi (fun (r9 : Int32) (u9 : Unit) => r9 = nI (nuN SS S x.nser)) (fun (u9 : Unit) t9 => bW D A (VW dA h ad x) t9) A) (by decide) (Nat.le_of_ble_eq_true rfl) ?_
  intro A p e s m below meth c ls hsz hB
  obtain ⟨hx, hb, hr, hml, hown, hin, hlk, hE, hK, hP, hD, hS, hA, hN, hl⟩ := hB
  have hown : s.vm.findClass "SeriesVault" = some m.cls := hown
  have hl : lv_has ls 3 [(0, .ref h), (1, .ref a)] := hl
  obtain ⟨H, hH⟩ : ∃ z, z = s.heap := ⟨_, rfl⟩
  have hP : va_P D vwCl (VW dA h ad x) H := by rw [hH]; exact hP
  have hS : va_S A s.heap H [] := by rw [hH]; exact hS
  rw [← hH]
  have hsrc := hsr
  obtain ⟨na, va, no, tx, fn, fv, n1, n2, n3, wno, wtx, hel⟩ := hsrc
  have wtxc := wtx
  obtain ⟨b_tx, f_tx, m1tx, m2tx, y_tx, hf_tx⟩ := wtxc
  have jl := jt_le hso
  refine lv_iconst (v := 0) hx hb d_V_numberOf_0 (by decide) ?_
  refine lv_istore_n hx hb d_V_numberOf_1 rfl hl (by decide) rfl (fun ls hl => ?_)
  have hl : lv_has ls 3 [(2, .int 0), (0, .ref h), (1, .ref a)] := hl
  have L2 : ∀ (k9 : Nat) (k : Nat) (i1 : k ≤ x.nser) (i2 : frst (nuB SS S) (x.nser - k) k = frst (nuB SS S) x.nser 0) (hk9 : x.nser - k = k9), ∀ (H : Heap) (locs : List Loc) (ls : Array Slot) (hP : va_P D vwCl (VW dA h ad x) H) (hD : va_D A (VW dA h ad x)) (hS : va_S A s.heap H locs) (hl : lv_has ls 3 [(2, .int (nI k)), (0, .ref h), (1, .ref a)]), W p l e ({ frames := 2, cells := 0, slots := 0, locals := 22 } : Room) s m ([.ref h, .ref a] : List Value).toArray below meth c H locs 0 0 (MQ below (va_Qi (fun (r9 : Int32) (u9 : Unit) => r9 = nI (nuN SS S x.nser)) (fun (u9 : Unit) t9 => bW D A (VW dA h ad x) t9) A) ([.ref h, .ref a] : List Value).toArray s 0 0 A) (F0 m 2 ls []) := by
    intro k9
    induction k9 using Nat.strongRecOn with
    | ind k9 ih2 =>
      intro k i1 i2 hk9 H locs ls hP hD hS hl
      refine lv_iload_n hx hb d_V_numberOf_2 rfl (lv_at hl 0 rfl) ?_
      refine lv_aload_n hx hb d_V_numberOf_3 rfl (lv_at hl 1 rfl) ?_
      refine gF (v := .ref (ad 3)) hx hb hown hE hK hP 0 rfl rfl layV 11 (by decide) w297 rfl d_V_numberOf_4 ?_
      refine gFN (v := .int (nI x.nser)) hx hb hown hE hK hP 17 rfl rfl layH 8 (by decide) w298 rfl d_V_numberOf_7 ?_
      refine lv_icmp_ge hx hb d_V_numberOf_10 (tgt := 40) rfl (fun g1 => ?_) (fun g1 => ?_)
      · have g1 := (nI_leI (a := x.nser) (b := k) (by omega) (by omega)).mp g1
        refine lv_aload_n hx hb d_V_numberOf_40 rfl (lv_at hl 1 rfl) ?_
        refine gF (v := .ref (ad 3)) hx hb hown hE hK hP 0 rfl rfl layV 11 (by decide) w297 rfl d_V_numberOf_41 ?_
        refine gFN (v := .int (nI x.nser)) hx hb hown hE hK hP 17 rfl rfl layH 8 (by decide) w298 rfl d_V_numberOf_44 ?_
        exact rfI hx hb hr hlk hS () (by rw [nuN_n (by rw [← i2, show x.nser - k = 0 by omega]; rfl)]) hP hD (Nat.le_of_ble_eq_true rfl) (Nat.le_of_ble_eq_true rfl) d_V_numberOf_47
      · have g1 := mt (nI_leI (a := x.nser) (b := k) (by omega) (by omega)).mpr g1
        obtain ⟨a1, ke, hs1, ho1⟩ := hkn k (by omega)
        have hs1c := hs1
        obtain ⟨na1, va1, no1, tx1, fn1, fv1, j1, j2, j3, wn1, wt1, he1⟩ := hs1c
        have wt1c := wt1
        obtain ⟨bx1, fx1, jx1, jx2, jy1, jf1⟩ := wt1c
        have jl1 := jt_le ho1
        refine lv_aload_n hx hb d_V_numberOf_13 rfl (lv_at hl 1 rfl) ?_
        refine gF (v := .ref (ad 17)) hx hb hown hE hK hP 0 rfl rfl layV 13 (by decide) w833 rfl d_V_numberOf_14 ?_
        refine lv_iload_n hx hb d_V_numberOf_17 rfl (lv_at hl 0 rfl) ?_
        refine nqld (f := x.kn) (n := 256) hx hb hK hP (31) 5 rfl rfl (k) (by omega) (by decide) ke d_V_numberOf_18 ?_
        obtain ⟨qp2, ep3⟩ := List.getElem?_of_mem (show ((a1, .inr (11, [.ref na1, .ref va1, .ref no1, .ref tx1])) : Nat × va_E) ∈ VW dA h ad x from (plm j1))
        refine gFN (v := .ref tx1) hx hb hown hE hK hP qp2 ep3 rfl layS 3 (by decide) w1321 rfl d_V_numberOf_19 ?_
        refine lv_aload_n hx hb d_V_numberOf_22 rfl (lv_at hl 2 rfl) ?_
        obtain ⟨qp4, ep5⟩ := List.getElem?_of_mem (show ((a, .inr (11, [.ref na, .ref va, .ref no, .ref tx])) : Nat × va_E) ∈ VW dA h ad x from (plm n1))
        refine gFN (v := .ref tx) hx hb hown hE hK hP qp4 ep5 rfl layS 3 (by decide) w1321 rfl d_V_numberOf_23 ?_
        obtain ⟨qp6, ep7⟩ := List.getElem?_of_mem (show ((tx1, .inr (10, [.ref bx1])) : Nat × va_E) ∈ VW dA h ad x from (plm jx1))
        refine jkI (wr := []) (rnV (As := [.ref tx]) (rest := []) hx hb hml hown hE hK (hN _ _ hS) hP hD (v_Wsame l D dA H.size (VW dA h ad x) tx1 (joinT (SS k)) tx (joinT S) (isWo_m (fun _ hm => (plm hm)) wt1) (show (joinT (SS k)).length ≤ 65536 by omega) (isWo_m (fun _ hm => (plm hm)) wtx) (show (joinT S).length ≤ 65536 by omega)) (q0 := qp6) ep7 rfl w1282 w1322 w1283 w1284 w1281 rfl rfl ⟨⟨by decide, by decide⟩, rfl⟩ ⟨(Nat.le_of_ble_eq_true rfl), (Nat.le_of_ble_eq_true rfl)⟩ rfl hl.1 rfl (Nat.le_of_ble_eq_true rfl) d_V_numberOf_26 ⟨(Nat.le_of_ble_eq_true rfl), (Nat.le_of_ble_eq_true rfl)⟩) hP hD hS hA (fun r8 u9 H locs hp9 hP hD hS => ?_)
        have hP : va_P D vwCl (VW dA h ad x) H := hP
        have hD : va_D A (VW dA h ad x) := hD
        replace hp9 : bI (sameW (joinT (SS k)) (joinT S)) = r8 := Eq.symm hp9
        subst hp9
        refine lv_if_eq hx hb d_V_numberOf_29 (tgt := 34) rfl (fun g10 => ?_) (fun g10 => ?_)
        · have g10 := bI_0 g10
          refine lv_iinc (k := 0) (v := nI (k + 1)) hx hb d_V_numberOf_34 hl rfl (iincN (k) 1 1 (by decide)) (by decide) rfl (fun ls hl => ?_)
          have hl : lv_has ls 3 [(2, .int (nI (k + 1))), (0, .ref h), (1, .ref a)] := hl
          refine lv_goto hx hb d_V_numberOf_37 (tgt := 2) rfl ?_
          exact ih2 _ (by omega) (k + 1) (by omega) (by rw [← i2, frst_f (n := x.nser - k) (by omega) (show nuB SS S k = false from g10), show x.nser - k - 1 = x.nser - (k + 1) by omega]) rfl H _ ls hP hD hS (lv_sub hl [0, 1, 2] rfl)
        · have g10 := bI_n0 g10
          refine lv_iload_n hx hb d_V_numberOf_32 rfl (lv_at hl 0 rfl) ?_
          exact rfI hx hb hr hlk hS () (by rw [nuN_s (k := k) (by rw [← i2, frst_t (n := x.nser - k) (by omega) (show nuB SS S k = true from g10)])]) hP hD (Nat.le_of_ble_eq_true rfl) (Nat.le_of_ble_eq_true rfl) d_V_numberOf_33
  exact L2 _ 0 (Nat.zero_le _) rfl rfl H _ ls hP hD hS (lv_sub hl [0, 1, 2] rfl)
theorem d_V_catalogBlocks_0 : decode prog_1_method_39_code 0 = .ok (.iconst 0, 1) := by decide +kernel
theorem d_V_catalogBlocks_1 : decode prog_1_method_39_code 1 = .ok (.istore_n 1, 1) := by decide +kernel
theorem d_V_catalogBlocks_2 : decode prog_1_method_39_code 2 = .ok (.iconst 0, 1) := by decide +kernel
theorem d_V_catalogBlocks_3 : decode prog_1_method_39_code 3 = .ok (.istore_n 2, 1) := by decide +kernel
theorem d_V_catalogBlocks_4 : decode prog_1_method_39_code 4 = .ok (.iconst 0, 1) := by decide +kernel
theorem d_V_catalogBlocks_5 : decode prog_1_method_39_code 5 = .ok (.istore_n 3, 1) := by decide +kernel
theorem d_V_catalogBlocks_6 : decode prog_1_method_39_code 6 = .ok (.iload_n 3, 1) := by decide +kernel
theorem d_V_catalogBlocks_7 : decode prog_1_method_39_code 7 = .ok (.aload_n 0, 1) := by decide +kernel
theorem d_V_catalogBlocks_8 : decode prog_1_method_39_code 8 = .ok (.getfield 33, 3) := by decide +kernel
theorem d_V_catalogBlocks_11 : decode prog_1_method_39_code 11 = .ok (.getfield 130, 3) := by decide +kernel
theorem d_V_catalogBlocks_14 : decode prog_1_method_39_code 14 = .ok (.if_icmp .ge 37, 3) := by decide +kernel
theorem d_V_catalogBlocks_51 : decode prog_1_method_39_code 51 = .ok (.iload_n 1, 1) := by decide +kernel
theorem d_V_catalogBlocks_52 : decode prog_1_method_39_code 52 = .ok (.ireturn, 1) := by decide +kernel
theorem d_V_catalogBlocks_17 : decode prog_1_method_39_code 17 = .ok (.aload_n 0, 1) := by decide +kernel
theorem d_V_catalogBlocks_18 : decode prog_1_method_39_code 18 = .ok (.getfield 42, 3) := by decide +kernel
theorem d_V_catalogBlocks_21 : decode prog_1_method_39_code 21 = .ok (.iload_n 3, 1) := by decide +kernel
theorem d_V_catalogBlocks_22 : decode prog_1_method_39_code 22 = .ok (.aaload, 1) := by decide +kernel
theorem d_V_catalogBlocks_23 : decode prog_1_method_39_code 23 = .ok (.invokevirtual 235, 3) := by decide +kernel
theorem d_V_catalogBlocks_26 : decode prog_1_method_39_code 26 = .ok (.istore 4, 2) := by decide +kernel
theorem d_V_catalogBlocks_28 : decode prog_1_method_39_code 28 = .ok (.iload 4, 2) := by decide +kernel
theorem d_V_catalogBlocks_30 : decode prog_1_method_39_code 30 = .ok (.iload_n 2, 1) := by decide +kernel
theorem d_V_catalogBlocks_31 : decode prog_1_method_39_code 31 = .ok (.if_icmp .le 9, 3) := by decide +kernel
theorem d_V_catalogBlocks_40 : decode prog_1_method_39_code 40 = .ok (.iload_n 2, 1) := by decide +kernel
theorem d_V_catalogBlocks_41 : decode prog_1_method_39_code 41 = .ok (.iload 4, 2) := by decide +kernel
theorem d_V_catalogBlocks_43 : decode prog_1_method_39_code 43 = .ok (.isub, 1) := by decide +kernel
theorem d_V_catalogBlocks_44 : decode prog_1_method_39_code 44 = .ok (.istore_n 2, 1) := by decide +kernel
theorem d_V_catalogBlocks_45 : decode prog_1_method_39_code 45 = .ok (.iinc 3 1, 3) := by decide +kernel
theorem d_V_catalogBlocks_48 : decode prog_1_method_39_code 48 = .ok (.goto (-42), 3) := by decide +kernel
theorem d_V_catalogBlocks_34 : decode prog_1_method_39_code 34 = .ok (.iinc 1 1, 3) := by decide +kernel
theorem d_V_catalogBlocks_37 : decode prog_1_method_39_code 37 = .ok (.bipush 126, 2) := by decide +kernel
theorem d_V_catalogBlocks_39 : decode prog_1_method_39_code 39 = .ok (.istore_n 2, 1) := by decide +kernel
theorem w1323 : Cond.methodLink "SeriesVault" 235 ⟨"SeriesVault$Series", "units", "()I"⟩ ∈ aW := aw_of (tb_5 (List.mem_of_getElem? (i := 30) rfl)) rfl
theorem w1324 : Cond.code ⟨"SeriesVault$Series", "units", "()I"⟩ prog_7_method_4_code 1 (some FieldType.int) ∈ aW := aw_of (tb_5 (List.mem_of_getElem? (i := 33) rfl)) rfl
theorem w1325 : Cond.instanceMethod ⟨"SeriesVault$Series", "units", "()I"⟩ ∈ aW := aw_of (tb_5 (List.mem_of_getElem? (i := 31) rfl)) rfl
theorem w1326 : Cond.selects "SeriesVault$Series" ⟨"SeriesVault$Series", "units", "()I"⟩ ⟨"SeriesVault$Series", "units", "()I"⟩ ∈ aW := aw_of (tb_5 (List.mem_of_getElem? (i := 32) rfl)) rfl
set_option maxHeartbeats 4000000 in
set_option maxRecDepth 100000 in
theorem v_catalogBlocks (l : Launch) (D : va_G) (dA : Nat → ClassId) (sz : Nat) (h : Nat) (ad : Nat → Nat) (x : VS) (SS : Nat → List LB) (hkn : knOk dA x.kn x.nser x.pl SS) (hn : x.nser ≤ 256) : Met l ⟨"SeriesVault", "catalogBlocks", "()I"⟩ [Cond.code ⟨"SeriesVault", "catalogBlocks", "()I"⟩ prog_1_method_39_code 5 (some FieldType.int)] { frames := 2, cells := 0, slots := 0, locals := 20 } (pC D dA [.ref h] (VW dA h ad x) sz) (va_Qi (fun (r9 : Int32) (u9 : Unit) => r9 = nI (ctG2 SS x.nser).1) (fun (u9 : Unit) t9 => bW D (va_A (VW dA h ad x) sz) (VW dA h ad x) t9) (va_A (VW dA h ad x) sz)) 0 0 (va_A (VW dA h ad x) sz) := by
  refine mkC (y := ⟨"SeriesVault", "catalogBlocks", "()I"⟩) (cc := prog_1_method_39_code) (maxL := 5) (av := [.ref h]) (ws := VW dA h ad x) (sz := sz) (Qc := fun A => va_Qi (fun (r9 : Int32) (u9 : Unit) => r9 = nI (ctG2 SS x.nser).1) (fun (u9 : Unit) t9 => bW D A (VW dA h ad x) t9) A) (by decide) (Nat.le_of_ble_eq_true rfl) ?_
  intro A p e s m below meth c ls hsz hB
  obtain ⟨hx, hb, hr, hml, hown, hin, hlk, hE, hK, hP, hD, hS, hA, hN, hl⟩ := hB
  have hown : s.vm.findClass "SeriesVault" = some m.cls := hown
  have hl : lv_has ls 5 [(0, .ref h)] := hl
  obtain ⟨H, hH⟩ : ∃ z, z = s.heap := ⟨_, rfl⟩
  have hP : va_P D vwCl (VW dA h ad x) H := by rw [hH]; exact hP
  have hS : va_S A s.heap H [] := by rw [hH]; exact hS
  rw [← hH]
  refine lv_iconst (v := 0) hx hb d_V_catalogBlocks_0 (by decide) ?_
  refine lv_istore_n hx hb d_V_catalogBlocks_1 rfl hl (by decide) rfl (fun ls hl => ?_)
  have hl : lv_has ls 5 [(1, .int 0), (0, .ref h)] := hl
  refine lv_iconst (v := 0) hx hb d_V_catalogBlocks_2 (by decide) ?_
  refine lv_istore_n hx hb d_V_catalogBlocks_3 rfl hl (by decide) rfl (fun ls hl => ?_)
  have hl : lv_has ls 5 [(2, .int 0), (1, .int 0), (0, .ref h)] := hl
  refine lv_iconst (v := 0) hx hb d_V_catalogBlocks_4 (by decide) ?_
  refine lv_istore_n hx hb d_V_catalogBlocks_5 rfl hl (by decide) rfl (fun ls hl => ?_)
  have hl : lv_has ls 5 [(3, .int 0), (2, .int 0), (1, .int 0), (0, .ref h)] := hl
  have L6 : ∀ (k9 : Nat) (k : Nat) (b : Nat) (o : Nat) (i1 : k ≤ x.nser) (i2 : ctG2 SS k = (b, o)) (i3 : o ≤ 126) (hk9 : x.nser - k = k9), ∀ (H : Heap) (locs : List Loc) (ls : Array Slot) (hP : va_P D vwCl (VW dA h ad x) H) (hD : va_D A (VW dA h ad x)) (hS : va_S A s.heap H locs) (hl : lv_has ls 5 [(3, .int (nI k)), (1, .int (nI b)), (2, .int (nI o)), (0, .ref h)]), W p l e ({ frames := 2, cells := 0, slots := 0, locals := 20 } : Room) s m ([.ref h] : List Value).toArray below meth c H locs 0 0 (MQ below (va_Qi (fun (r9 : Int32) (u9 : Unit) => r9 = nI (ctG2 SS x.nser).1) (fun (u9 : Unit) t9 => bW D A (VW dA h ad x) t9) A) ([.ref h] : List Value).toArray s 0 0 A) (F0 m 6 ls []) := by
    intro k9
    induction k9 using Nat.strongRecOn with
    | ind k9 ih6 =>
      intro k b o i1 i2 i3 hk9 H locs ls hP hD hS hl
      refine lv_iload_n hx hb d_V_catalogBlocks_6 rfl (lv_at hl 0 rfl) ?_
      refine lv_aload_n hx hb d_V_catalogBlocks_7 rfl (lv_at hl 3 rfl) ?_
      refine gF (v := .ref (ad 3)) hx hb hown hE hK hP 0 rfl rfl layV 11 (by decide) w297 rfl d_V_catalogBlocks_8 ?_
      refine gFN (v := .int (nI x.nser)) hx hb hown hE hK hP 17 rfl rfl layH 8 (by decide) w298 rfl d_V_catalogBlocks_11 ?_
      refine lv_icmp_ge hx hb d_V_catalogBlocks_14 (tgt := 51) rfl (fun g1 => ?_) (fun g1 => ?_)
      · have g1 := (nI_leI (a := x.nser) (b := k) (by omega) (by omega)).mp g1
        refine lv_iload_n hx hb d_V_catalogBlocks_51 rfl (lv_at hl 1 rfl) ?_
        exact rfI hx hb hr hlk hS () (by rw [← show k = x.nser by omega, i2]) hP hD (Nat.le_of_ble_eq_true rfl) (Nat.le_of_ble_eq_true rfl) d_V_catalogBlocks_52
      · have g1 := mt (nI_leI (a := x.nser) (b := k) (by omega) (by omega)).mpr g1
        obtain ⟨a1, ke, hs1, ho1⟩ := hkn k (by omega)
        have hs1c := hs1
        obtain ⟨na1, va1, no1, tx1, fn1, fv1, j1, j2, j3, wn1, wt1, he1⟩ := hs1c
        have wt1c := wt1
        obtain ⟨bx1, fx1, jx1, jx2, jy1, jf1⟩ := wt1c
        have jl1 := jt_le ho1
        have ul := uS_le ho1
        have ue : uS (SS k) = 1 + ((joinT (SS k)).length + 32 - 1) / 32 := rfl
        refine lv_aload_n hx hb d_V_catalogBlocks_17 rfl (lv_at hl 3 rfl) ?_
        refine gF (v := .ref (ad 17)) hx hb hown hE hK hP 0 rfl rfl layV 13 (by decide) w833 rfl d_V_catalogBlocks_18 ?_
        refine lv_iload_n hx hb d_V_catalogBlocks_21 rfl (lv_at hl 0 rfl) ?_
        refine nqld (f := x.kn) (n := 256) hx hb hK hP (31) 5 rfl rfl (k) (by omega) (by decide) ke d_V_catalogBlocks_22 ?_
        obtain ⟨qp2, ep3⟩ := List.getElem?_of_mem (show ((a1, .inr (11, [.ref na1, .ref va1, .ref no1, .ref tx1])) : Nat × va_E) ∈ VW dA h ad x from (plm j1))
        refine jkI (wr := []) (rnV (As := []) (rest := []) hx hb hml hown hE hK (hN _ _ hS) hP hD (v_Sunits l D dA H.size (VW dA h ad x) a1 (SS k) (isSer_m (fun _ hm => (plm hm)) hs1) ho1) (q0 := qp2) ep3 rfl w1324 w1323 w1325 w1326 w1288 rfl rfl ⟨⟨by decide, by decide⟩, rfl⟩ ⟨(Nat.le_of_ble_eq_true rfl), (Nat.le_of_ble_eq_true rfl)⟩ rfl hl.1 rfl (Nat.le_of_ble_eq_true rfl) d_V_catalogBlocks_23 ⟨(Nat.le_of_ble_eq_true rfl), (Nat.le_of_ble_eq_true rfl)⟩) hP hD hS hA (fun r4 u5 H locs hp9 hP hD hS => ?_)
        have hP : va_P D vwCl (VW dA h ad x) H := hP
        have hD : va_D A (VW dA h ad x) := hD
        replace hp9 : nI (1 + ((joinT (SS k)).length + 32 - 1) / 32) = r4 := Eq.symm hp9
        subst hp9
        refine lv_istore hx hb d_V_catalogBlocks_26 hl (by decide) rfl (fun ls hl => ?_)
        have hl : lv_has ls 5 [(4, .int (nI (1 + ((joinT (SS k)).length + 32 - 1) / 32))), (3, .int (nI k)), (1, .int (nI b)), (2, .int (nI o)), (0, .ref h)] := hl
        refine lv_iload hx hb d_V_catalogBlocks_28 (lv_at hl 0 rfl) ?_
        refine lv_iload_n hx hb d_V_catalogBlocks_30 rfl (lv_at hl 3 rfl) ?_
        refine lv_icmp_le hx hb d_V_catalogBlocks_31 (tgt := 40) rfl (fun g6 => ?_) (fun g6 => ?_)
        · have g6 := (nI_leI (a := 1 + ((joinT (SS k)).length + 32 - 1) / 32) (b := o) (by omega) (by omega)).mp g6
          refine lv_iload_n hx hb d_V_catalogBlocks_40 rfl (lv_at hl 3 rfl) ?_
          refine lv_iload hx hb d_V_catalogBlocks_41 (lv_at hl 0 rfl) ?_
          refine lv_isub hx hb d_V_catalogBlocks_43 (tpi (y := nI (o - (1 + ((joinT (SS k)).length + 32 - 1) / 32))) (pk_sub (a := o) (b := 1 + ((joinT (SS k)).length + 32 - 1) / 32) (by omega)) ?_)
          refine lv_istore_n hx hb d_V_catalogBlocks_44 rfl hl (by decide) rfl (fun ls hl => ?_)
          have hl : lv_has ls 5 [(2, .int (nI (o - (1 + ((joinT (SS k)).length + 32 - 1) / 32)))), (4, .int (nI (1 + ((joinT (SS k)).length + 32 - 1) / 32))), (3, .int (nI k)), (1, .int (nI b)), (0, .ref h)] := hl
          refine lv_iinc (k := 2) (v := nI (k + 1)) hx hb d_V_catalogBlocks_45 hl rfl (iincN (k) 1 1 (by decide)) (by decide) rfl (fun ls hl => ?_)
          have hl : lv_has ls 5 [(3, .int (nI (k + 1))), (2, .int (nI (o - (1 + ((joinT (SS k)).length + 32 - 1) / 32)))), (4, .int (nI (1 + ((joinT (SS k)).length + 32 - 1) / 32))), (1, .int (nI b)), (0, .ref h)] := hl
          refine lv_goto hx hb d_V_catalogBlocks_48 (tgt := 6) rfl ?_
          exact ih6 _ (by omega) (k + 1) b (o - (1 + ((joinT (SS k)).length + 32 - 1) / 32)) (by omega) (by show (if uS (SS k) ≤ (ctG2 SS k).2 then _ else _) = _; rw [i2]; exact if_pos g6) (by omega) rfl H _ ls hP hD hS (lv_sub hl [0, 3, 1, 4] rfl)
        · have g6 := mt (nI_leI (a := 1 + ((joinT (SS k)).length + 32 - 1) / 32) (b := o) (by omega) (by omega)).mpr g6
          refine lv_iinc (k := 2) (v := nI (b + 1)) hx hb d_V_catalogBlocks_34 hl rfl (iincN (b) 1 1 (by decide)) (by decide) rfl (fun ls hl => ?_)
          have hl : lv_has ls 5 [(1, .int (nI (b + 1))), (4, .int (nI (1 + ((joinT (SS k)).length + 32 - 1) / 32))), (3, .int (nI k)), (2, .int (nI o)), (0, .ref h)] := hl
          refine lv_bipush (v := 126) hx hb d_V_catalogBlocks_37 (by decide) ?_
          refine lv_istore_n hx hb d_V_catalogBlocks_39 rfl hl (by decide) rfl (fun ls hl => ?_)
          have hl : lv_has ls 5 [(2, .int 126), (1, .int (nI (b + 1))), (4, .int (nI (1 + ((joinT (SS k)).length + 32 - 1) / 32))), (3, .int (nI k)), (0, .ref h)] := hl
          refine lv_iload_n hx hb d_V_catalogBlocks_40 rfl (lv_at hl 0 rfl) ?_
          refine lv_iload hx hb d_V_catalogBlocks_41 (lv_at hl 2 rfl) ?_
          refine lv_isub hx hb d_V_catalogBlocks_43 (tpi (y := nI (126 - (1 + ((joinT (SS k)).length + 32 - 1) / 32))) (pk_sub (a := 126) (b := 1 + ((joinT (SS k)).length + 32 - 1) / 32) (by omega)) ?_)
          refine lv_istore_n hx hb d_V_catalogBlocks_44 rfl hl (by decide) rfl (fun ls hl => ?_)
          have hl : lv_has ls 5 [(2, .int (nI (126 - (1 + ((joinT (SS k)).length + 32 - 1) / 32)))), (1, .int (nI (b + 1))), (4, .int (nI (1 + ((joinT (SS k)).length + 32 - 1) / 32))), (3, .int (nI k)), (0, .ref h)] := hl
          refine lv_iinc (k := 3) (v := nI (k + 1)) hx hb d_V_catalogBlocks_45 hl rfl (iincN (k) 1 1 (by decide)) (by decide) rfl (fun ls hl => ?_)
          have hl : lv_has ls 5 [(3, .int (nI (k + 1))), (2, .int (nI (126 - (1 + ((joinT (SS k)).length + 32 - 1) / 32)))), (1, .int (nI (b + 1))), (4, .int (nI (1 + ((joinT (SS k)).length + 32 - 1) / 32))), (0, .ref h)] := hl
          refine lv_goto hx hb d_V_catalogBlocks_48 (tgt := 6) rfl ?_
          exact ih6 _ (by omega) (k + 1) (b + 1) (126 - (1 + ((joinT (SS k)).length + 32 - 1) / 32)) (by omega) (by show (if uS (SS k) ≤ (ctG2 SS k).2 then _ else _) = _; rw [i2]; exact if_neg g6) (by omega) rfl H _ ls hP hD hS (lv_sub hl [0, 2, 1, 4] rfl)
  exact L6 _ 0 0 0 (Nat.zero_le _) rfl (by omega) rfl H _ ls hP hD hS (lv_sub hl [0, 2, 1, 3] rfl)
theorem d_V_letter_9 : decode prog_1_method_26_code 9 = .ok (.aload_n 0, 1) := by decide +kernel
theorem d_V_letter_10 : decode prog_1_method_26_code 10 = .ok (.getfield 42, 3) := by decide +kernel
theorem d_V_letter_13 : decode prog_1_method_26_code 13 = .ok (.iload_n 1, 1) := by decide +kernel
theorem d_V_letter_14 : decode prog_1_method_26_code 14 = .ok (.aaload, 1) := by decide +kernel
theorem d_V_letter_15 : decode prog_1_method_26_code 15 = .ok (.getfield 225, 3) := by decide +kernel
theorem d_V_letter_18 : decode prog_1_method_26_code 18 = .ok (.iload_n 2, 1) := by decide +kernel
theorem d_V_letter_19 : decode prog_1_method_26_code 19 = .ok (.invokevirtual 247, 3) := by decide +kernel
theorem d_V_letter_22 : decode prog_1_method_26_code 22 = .ok (.ireturn, 1) := by decide +kernel
theorem w1327 : Cond.methodLink "SeriesVault" 247 ⟨"SeriesVault$Word", "at", "(I)I"⟩ ∈ aW := aw_of (tb_5 (List.mem_of_getElem? (i := 126) rfl)) rfl
theorem w1328 : Cond.code ⟨"SeriesVault$Word", "at", "(I)I"⟩ prog_12_method_2_code 2 (some FieldType.int) ∈ aW := aw_of (tb_5 (List.mem_of_getElem? (i := 129) rfl)) rfl
theorem w1329 : Cond.instanceMethod ⟨"SeriesVault$Word", "at", "(I)I"⟩ ∈ aW := aw_of (tb_5 (List.mem_of_getElem? (i := 127) rfl)) rfl
theorem w1330 : Cond.selects "SeriesVault$Word" ⟨"SeriesVault$Word", "at", "(I)I"⟩ ⟨"SeriesVault$Word", "at", "(I)I"⟩ ∈ aW := aw_of (tb_5 (List.mem_of_getElem? (i := 128) rfl)) rfl
set_option maxHeartbeats 4000000 in
set_option maxRecDepth 100000 in
theorem v_letter_n (l : Launch) (D : va_G) (dA : Nat → ClassId) (sz : Nat) (h : Nat) (ad : Nat → Nat) (x : VS) (SS : Nat → List LB) (w : Nat) (k : Int32) (hkn : knOk dA x.kn x.nser x.pl SS) (hn : x.nser ≤ 256) (ho : x.powered = true) (hw : w < x.nser) (h0 : k < 0 ∨ nI (joinT (SS w)).length ≤ k) : Met l ⟨"SeriesVault", "letter", "(II)I"⟩ [Cond.code ⟨"SeriesVault", "letter", "(II)I"⟩ prog_1_method_26_code 3 (some FieldType.int)] { frames := 2, cells := 0, slots := 0, locals := 21 } (pC D dA [.ref h, .int (nI w), .int k] (VW dA h ad x) sz) (va_Qi (fun (r9 : Int32) (u9 : Unit) => r9 = (-1)) (fun (u9 : Unit) t9 => bW D (va_A (VW dA h ad x) sz) (VW dA h ad x) t9) (va_A (VW dA h ad x) sz)) 0 0 (va_A (VW dA h ad x) sz) := by
  refine mkC (y := ⟨"SeriesVault", "letter", "(II)I"⟩) (cc := prog_1_method_26_code) (maxL := 3) (av := [.ref h, .int (nI w), .int k]) (ws := VW dA h ad x) (sz := sz) (Qc := fun A => va_Qi (fun (r9 : Int32) (u9 : Unit) => r9 = (-1)) (fun (u9 : Unit) t9 => bW D A (VW dA h ad x) t9) A) (by decide) (Nat.le_of_ble_eq_true rfl) ?_
  intro A p e s m below meth c ls hsz hB
  obtain ⟨hx, hb, hr, hml, hown, hin, hlk, hE, hK, hP, hD, hS, hA, hN, hl⟩ := hB
  have hown : s.vm.findClass "SeriesVault" = some m.cls := hown
  have hl : lv_has ls 3 [(0, .ref h), (1, .int (nI w)), (2, .int k)] := hl
  obtain ⟨H, hH⟩ : ∃ z, z = s.heap := ⟨_, rfl⟩
  have hP : va_P D vwCl (VW dA h ad x) H := by rw [hH]; exact hP
  have hS : va_S A s.heap H [] := by rw [hH]; exact hS
  rw [← hH]
  refine lv_aload_n hx hb d_V_letter_0 rfl (lv_at hl 0 rfl) ?_
  refine jkV (wr := []) (rnV (As := []) (rest := []) hx hb hml hown hE hK (hN _ _ hS) hP hD (v_checkPower l D dA H.size h ad x ho) (q0 := 0) rfl rfl w278 w276 w279 w280 w277 rfl rfl ⟨⟨by decide, by decide⟩, rfl⟩ ⟨(Nat.le_of_ble_eq_true rfl), (Nat.le_of_ble_eq_true rfl)⟩ rfl hl.1 rfl (Nat.le_of_ble_eq_true rfl) d_V_letter_1 ⟨(Nat.le_of_ble_eq_true rfl), (Nat.le_of_ble_eq_true rfl)⟩) hP hD hS hA (fun u2 H locs hp9 hP hD hS => ?_)
  have hP : va_P D vwCl (VW dA h ad x) H := hP
  have hD : va_D A (VW dA h ad x) := hD
  refine lv_aload_n hx hb d_V_letter_4 rfl (lv_at hl 0 rfl) ?_
  refine lv_iload_n hx hb d_V_letter_5 rfl (lv_at hl 1 rfl) ?_
  refine jkV (wr := []) (rnV (As := [.int (nI w)]) (rest := []) hx hb hml hown hE hK (hN _ _ hS) hP hD (v_checkSeries l D dA H.size h ad x w (show w < x.nser from by omega) (show x.nser ≤ 256 from by omega)) (q0 := 0) rfl rfl w300 w299 w301 w302 w277 rfl rfl ⟨⟨by decide, by decide⟩, rfl⟩ ⟨(Nat.le_of_ble_eq_true rfl), (Nat.le_of_ble_eq_true rfl)⟩ rfl hl.1 rfl (Nat.le_of_ble_eq_true rfl) d_V_letter_6 ⟨(Nat.le_of_ble_eq_true rfl), (Nat.le_of_ble_eq_true rfl)⟩) hP hD hS hA (fun u4 H locs hp9 hP hD hS => ?_)
  have hP : va_P D vwCl (VW dA h ad x) H := hP
  have hD : va_D A (VW dA h ad x) := hD
  obtain ⟨a1, ke, hs1, ho1⟩ := hkn w (by omega)
  have hs1c := hs1
  obtain ⟨na1, va1, no1, tx1, fn1, fv1, j1, j2, j3, wn1, wt1, he1⟩ := hs1c
  have wt1c := wt1
  obtain ⟨bx1, fx1, jx1, jx2, jy1, jf1⟩ := wt1c
  have jl1 := jt_le ho1
  refine lv_aload_n hx hb d_V_letter_9 rfl (lv_at hl 0 rfl) ?_
  refine gF (v := .ref (ad 17)) hx hb hown hE hK hP 0 rfl rfl layV 13 (by decide) w833 rfl d_V_letter_10 ?_
  refine lv_iload_n hx hb d_V_letter_13 rfl (lv_at hl 1 rfl) ?_
  refine nqld (f := x.kn) (n := 256) hx hb hK hP (31) 5 rfl rfl (w) (by omega) (by decide) ke d_V_letter_14 ?_
  obtain ⟨qp5, ep6⟩ := List.getElem?_of_mem (show ((a1, .inr (11, [.ref na1, .ref va1, .ref no1, .ref tx1])) : Nat × va_E) ∈ VW dA h ad x from (plm j1))
  refine gFN (v := .ref tx1) hx hb hown hE hK hP qp5 ep6 rfl layS 3 (by decide) w1321 rfl d_V_letter_15 ?_
  refine lv_iload_n hx hb d_V_letter_18 rfl (lv_at hl 2 rfl) ?_
  obtain ⟨qp7, ep8⟩ := List.getElem?_of_mem (show ((tx1, .inr (10, [.ref bx1])) : Nat × va_E) ∈ VW dA h ad x from (plm jx1))
  refine jkI (wr := []) (rnV (As := [.int k]) (rest := []) hx hb hml hown hE hK (hN _ _ hS) hP hD (v_Wat_n l D dA H.size (VW dA h ad x) tx1 (joinT (SS w)) k (isWo_m (fun _ hm => (plm hm)) wt1) (show (joinT (SS w)).length ≤ 65536 by omega) h0) (q0 := qp7) ep8 rfl w1328 w1327 w1329 w1330 w1281 rfl rfl ⟨⟨by decide, by decide⟩, rfl⟩ ⟨(Nat.le_of_ble_eq_true rfl), (Nat.le_of_ble_eq_true rfl)⟩ rfl hl.1 rfl (Nat.le_of_ble_eq_true rfl) d_V_letter_19 ⟨(Nat.le_of_ble_eq_true rfl), (Nat.le_of_ble_eq_true rfl)⟩) hP hD hS hA (fun r9 u10 H locs hp9 hP hD hS => ?_)
  have hP : va_P D vwCl (VW dA h ad x) H := hP
  have hD : va_D A (VW dA h ad x) := hD
  replace hp9 : (-1) = r9 := Eq.symm hp9
  subst hp9
  exact rfI hx hb hr hlk hS () rfl hP hD (Nat.le_of_ble_eq_true rfl) (Nat.le_of_ble_eq_true rfl) d_V_letter_22
set_option maxHeartbeats 4000000 in
set_option maxRecDepth 100000 in
theorem v_letter_0 (l : Launch) (D : va_G) (dA : Nat → ClassId) (sz : Nat) (h : Nat) (ad : Nat → Nat) (x : VS) (SS : Nat → List LB) (w : Nat) (k : Nat) (hkn : knOk dA x.kn x.nser x.pl SS) (hn : x.nser ≤ 256) (ho : x.powered = true) (hw : w < x.nser) (h0 : k < (joinT (SS w)).length) : Met l ⟨"SeriesVault", "letter", "(II)I"⟩ [Cond.code ⟨"SeriesVault", "letter", "(II)I"⟩ prog_1_method_26_code 3 (some FieldType.int)] { frames := 2, cells := 0, slots := 0, locals := 21 } (pC D dA [.ref h, .int (nI w), .int (nI k)] (VW dA h ad x) sz) (va_Qi (fun (r9 : Int32) (u9 : Unit) => r9 = (joinT (SS w)).getD k 0 &&& 255) (fun (u9 : Unit) t9 => bW D (va_A (VW dA h ad x) sz) (VW dA h ad x) t9) (va_A (VW dA h ad x) sz)) 0 0 (va_A (VW dA h ad x) sz) := by
  refine mkC (y := ⟨"SeriesVault", "letter", "(II)I"⟩) (cc := prog_1_method_26_code) (maxL := 3) (av := [.ref h, .int (nI w), .int (nI k)]) (ws := VW dA h ad x) (sz := sz) (Qc := fun A => va_Qi (fun (r9 : Int32) (u9 : Unit) => r9 = (joinT (SS w)).getD k 0 &&& 255) (fun (u9 : Unit) t9 => bW D A (VW dA h ad x) t9) A) (by decide) (Nat.le_of_ble_eq_true rfl) ?_
  intro A p e s m below meth c ls hsz hB
  obtain ⟨hx, hb, hr, hml, hown, hin, hlk, hE, hK, hP, hD, hS, hA, hN, hl⟩ := hB
  have hown : s.vm.findClass "SeriesVault" = some m.cls := hown
  have hl : lv_has ls 3 [(0, .ref h), (1, .int (nI w)), (2, .int (nI k))] := hl
  obtain ⟨H, hH⟩ : ∃ z, z = s.heap := ⟨_, rfl⟩
  have hP : va_P D vwCl (VW dA h ad x) H := by rw [hH]; exact hP
  have hS : va_S A s.heap H [] := by rw [hH]; exact hS
  rw [← hH]
  refine lv_aload_n hx hb d_V_letter_0 rfl (lv_at hl 0 rfl) ?_
  refine jkV (wr := []) (rnV (As := []) (rest := []) hx hb hml hown hE hK (hN _ _ hS) hP hD (v_checkPower l D dA H.size h ad x ho) (q0 := 0) rfl rfl w278 w276 w279 w280 w277 rfl rfl ⟨⟨by decide, by decide⟩, rfl⟩ ⟨(Nat.le_of_ble_eq_true rfl), (Nat.le_of_ble_eq_true rfl)⟩ rfl hl.1 rfl (Nat.le_of_ble_eq_true rfl) d_V_letter_1 ⟨(Nat.le_of_ble_eq_true rfl), (Nat.le_of_ble_eq_true rfl)⟩) hP hD hS hA (fun u2 H locs hp9 hP hD hS => ?_)
  have hP : va_P D vwCl (VW dA h ad x) H := hP
  have hD : va_D A (VW dA h ad x) := hD
  refine lv_aload_n hx hb d_V_letter_4 rfl (lv_at hl 0 rfl) ?_
  refine lv_iload_n hx hb d_V_letter_5 rfl (lv_at hl 1 rfl) ?_
  refine jkV (wr := []) (rnV (As := [.int (nI w)]) (rest := []) hx hb hml hown hE hK (hN _ _ hS) hP hD (v_checkSeries l D dA H.size h ad x w (show w < x.nser from by omega) (show x.nser ≤ 256 from by omega)) (q0 := 0) rfl rfl w300 w299 w301 w302 w277 rfl rfl ⟨⟨by decide, by decide⟩, rfl⟩ ⟨(Nat.le_of_ble_eq_true rfl), (Nat.le_of_ble_eq_true rfl)⟩ rfl hl.1 rfl (Nat.le_of_ble_eq_true rfl) d_V_letter_6 ⟨(Nat.le_of_ble_eq_true rfl), (Nat.le_of_ble_eq_true rfl)⟩) hP hD hS hA (fun u4 H locs hp9 hP hD hS => ?_)
  have hP : va_P D vwCl (VW dA h ad x) H := hP
  have hD : va_D A (VW dA h ad x) := hD
  obtain ⟨a1, ke, hs1, ho1⟩ := hkn w (by omega)
  have hs1c := hs1
  obtain ⟨na1, va1, no1, tx1, fn1, fv1, j1, j2, j3, wn1, wt1, he1⟩ := hs1c
  have wt1c := wt1
  obtain ⟨bx1, fx1, jx1, jx2, jy1, jf1⟩ := wt1c
  have jl1 := jt_le ho1
  refine lv_aload_n hx hb d_V_letter_9 rfl (lv_at hl 0 rfl) ?_
  refine gF (v := .ref (ad 17)) hx hb hown hE hK hP 0 rfl rfl layV 13 (by decide) w833 rfl d_V_letter_10 ?_
  refine lv_iload_n hx hb d_V_letter_13 rfl (lv_at hl 1 rfl) ?_
  refine nqld (f := x.kn) (n := 256) hx hb hK hP (31) 5 rfl rfl (w) (by omega) (by decide) ke d_V_letter_14 ?_
  obtain ⟨qp5, ep6⟩ := List.getElem?_of_mem (show ((a1, .inr (11, [.ref na1, .ref va1, .ref no1, .ref tx1])) : Nat × va_E) ∈ VW dA h ad x from (plm j1))
  refine gFN (v := .ref tx1) hx hb hown hE hK hP qp5 ep6 rfl layS 3 (by decide) w1321 rfl d_V_letter_15 ?_
  refine lv_iload_n hx hb d_V_letter_18 rfl (lv_at hl 2 rfl) ?_
  obtain ⟨qp7, ep8⟩ := List.getElem?_of_mem (show ((tx1, .inr (10, [.ref bx1])) : Nat × va_E) ∈ VW dA h ad x from (plm jx1))
  refine jkI (wr := []) (rnV (As := [.int (nI k)]) (rest := []) hx hb hml hown hE hK (hN _ _ hS) hP hD (v_Wat l D dA H.size (VW dA h ad x) tx1 (joinT (SS w)) k (isWo_m (fun _ hm => (plm hm)) wt1) (show (joinT (SS w)).length ≤ 65536 by omega) h0) (q0 := qp7) ep8 rfl w1328 w1327 w1329 w1330 w1281 rfl rfl ⟨⟨by decide, by decide⟩, rfl⟩ ⟨(Nat.le_of_ble_eq_true rfl), (Nat.le_of_ble_eq_true rfl)⟩ rfl hl.1 rfl (Nat.le_of_ble_eq_true rfl) d_V_letter_19 ⟨(Nat.le_of_ble_eq_true rfl), (Nat.le_of_ble_eq_true rfl)⟩) hP hD hS hA (fun r9 u10 H locs hp9 hP hD hS => ?_)
  have hP : va_P D vwCl (VW dA h ad x) H := hP
  have hD : va_D A (VW dA h ad x) := hD
  replace hp9 : (joinT (SS w)).getD k 0 &&& 255 = r9 := Eq.symm hp9
  subst hp9
  exact rfI hx hb hr hlk hS () rfl hP hD (Nat.le_of_ble_eq_true rfl) (Nat.le_of_ble_eq_true rfl) d_V_letter_22
set_option maxHeartbeats 4000000 in
set_option maxRecDepth 100000 in
theorem v_letter_1 (l : Launch) (htr : l.stackTraces = false) (D : va_G) (dA : Nat → ClassId) (sz : Nat) (h : Nat) (ad : Nat → Nat) (x : VS) (n : Int32) (k : Int32) (ho : x.powered = false) : mX l ⟨"SeriesVault", "letter", "(II)I"⟩ [Cond.code ⟨"SeriesVault", "letter", "(II)I"⟩ prog_1_method_26_code 3 (some FieldType.int)] { frames := 7, cells := 1, slots := 6, locals := 101 } (pC D dA [.ref h, .int n, .int k] (VW dA h ad x) sz) "java/lang/IllegalStateException" (fun st9 t9 => va_F (va_A (VW dA h ad x) sz) st9 t9 ∧ bW D (va_A (VW dA h ad x) sz) (VW dA h ad x) t9) 1 6 (va_A (VW dA h ad x) sz) := by
  refine mkX (y := ⟨"SeriesVault", "letter", "(II)I"⟩) (cc := prog_1_method_26_code) (maxL := 3) (av := [.ref h, .int n, .int k]) (ws := VW dA h ad x) (sz := sz) (B := fun A => (fun st9 t9 => va_F A st9 t9 ∧ bW D A (VW dA h ad x) t9)) (by decide) (Nat.le_of_ble_eq_true rfl) ?_
  intro A p e s m below meth c ls hsz hno hB
  obtain ⟨hx, hb, hr, hml, hown, hin, hlk, hE, hK, hP, hD, hS, hA, hN, hl⟩ := hB
  have hown : s.vm.findClass "SeriesVault" = some m.cls := hown
  have hl : lv_has ls 3 [(0, .ref h), (1, .int n), (2, .int k)] := hl
  obtain ⟨H, hH⟩ : ∃ z, z = s.heap := ⟨_, rfl⟩
  have hP : va_P D vwCl (VW dA h ad x) H := by rw [hH]; exact hP
  have hS : va_S A s.heap H [] := by rw [hH]; exact hS
  rw [← hH]
  refine lv_aload_n hx hb d_V_letter_0 rfl (lv_at hl 0 rfl) ?_
  refine xfV (w1 := VW dA h ad x) (As := []) (rest := []) hx hb hml hown hE hK (hN _ _ hS) (v_checkPower_x l htr D dA H.size h ad x ho) (q0 := 0) rfl rfl w278 w276 w279 w280 w277 rfl rfl ⟨⟨by decide, by decide⟩, rfl⟩ ⟨(Nat.le_of_ble_eq_true rfl), (Nat.le_of_ble_eq_true rfl)⟩ rfl hl.1 rfl (Nat.le_of_ble_eq_true rfl) d_V_letter_1 ⟨(Nat.le_of_ble_eq_true rfl), (Nat.le_of_ble_eq_true rfl)⟩ hP hD hS hA (fun xa1 ce H locs hP hD hS hce hcv hcl => ?_)
  exact xOut hno hlk hce hcv hcl (fun t ht => xEndV hP hD hS t (by rw [ht]; exact Nat.le_refl _) (fun q _ => by rw [ht])) hS.2.2 (Nat.le_of_ble_eq_true rfl) (Nat.le_of_ble_eq_true rfl)
set_option maxHeartbeats 4000000 in
set_option maxRecDepth 100000 in
theorem v_letter_2 (l : Launch) (htr : l.stackTraces = false) (D : va_G) (dA : Nat → ClassId) (sz : Nat) (h : Nat) (ad : Nat → Nat) (x : VS) (n : Int32) (k : Int32) (ho : x.powered = true) (h0 : n < 0 ∨ nI x.nser ≤ n) : mX l ⟨"SeriesVault", "letter", "(II)I"⟩ [Cond.code ⟨"SeriesVault", "letter", "(II)I"⟩ prog_1_method_26_code 3 (some FieldType.int)] { frames := 7, cells := 1, slots := 6, locals := 102 } (pC D dA [.ref h, .int n, .int k] (VW dA h ad x) sz) "java/lang/IndexOutOfBoundsException" (fun st9 t9 => va_F (va_A (VW dA h ad x) sz) st9 t9 ∧ bW D (va_A (VW dA h ad x) sz) (VW dA h ad x) t9) 1 6 (va_A (VW dA h ad x) sz) := by
  refine mkX (y := ⟨"SeriesVault", "letter", "(II)I"⟩) (cc := prog_1_method_26_code) (maxL := 3) (av := [.ref h, .int n, .int k]) (ws := VW dA h ad x) (sz := sz) (B := fun A => (fun st9 t9 => va_F A st9 t9 ∧ bW D A (VW dA h ad x) t9)) (by decide) (Nat.le_of_ble_eq_true rfl) ?_
  intro A p e s m below meth c ls hsz hno hB
  obtain ⟨hx, hb, hr, hml, hown, hin, hlk, hE, hK, hP, hD, hS, hA, hN, hl⟩ := hB
  have hown : s.vm.findClass "SeriesVault" = some m.cls := hown
  have hl : lv_has ls 3 [(0, .ref h), (1, .int n), (2, .int k)] := hl
  obtain ⟨H, hH⟩ : ∃ z, z = s.heap := ⟨_, rfl⟩
  have hP : va_P D vwCl (VW dA h ad x) H := by rw [hH]; exact hP
  have hS : va_S A s.heap H [] := by rw [hH]; exact hS
  rw [← hH]
  refine lv_aload_n hx hb d_V_letter_0 rfl (lv_at hl 0 rfl) ?_
  refine jfV (rnV (As := []) (rest := []) hx hb hml hown hE hK (hN _ _ hS) hP hD (v_checkPower l D dA H.size h ad x ho) (q0 := 0) rfl rfl w278 w276 w279 w280 w277 rfl rfl ⟨⟨by decide, by decide⟩, rfl⟩ ⟨(Nat.le_of_ble_eq_true rfl), (Nat.le_of_ble_eq_true rfl)⟩ rfl hl.1 rfl (Nat.le_of_ble_eq_true rfl) d_V_letter_1 ⟨(Nat.le_of_ble_eq_true rfl), (Nat.le_of_ble_eq_true rfl)⟩) hP hD hS hA (fun u2 H locs hp9 hP hD hS => ?_)
  have hP : va_P D vwCl (VW dA h ad x) H := hP
  have hD : va_D A (VW dA h ad x) := hD
  refine lv_aload_n hx hb d_V_letter_4 rfl (lv_at hl 0 rfl) ?_
  refine lv_iload_n hx hb d_V_letter_5 rfl (lv_at hl 1 rfl) ?_
  refine xfV (w1 := VW dA h ad x) (As := [.int n]) (rest := []) hx hb hml hown hE hK (hN _ _ hS) (v_checkSeries_x l htr D dA H.size h ad x n h0) (q0 := 0) rfl rfl w300 w299 w301 w302 w277 rfl rfl ⟨⟨by decide, by decide⟩, rfl⟩ ⟨(Nat.le_of_ble_eq_true rfl), (Nat.le_of_ble_eq_true rfl)⟩ rfl hl.1 rfl (Nat.le_of_ble_eq_true rfl) d_V_letter_6 ⟨(Nat.le_of_ble_eq_true rfl), (Nat.le_of_ble_eq_true rfl)⟩ hP hD hS hA (fun xa3 ce H locs hP hD hS hce hcv hcl => ?_)
  exact xOut hno hlk hce hcv hcl (fun t ht => xEndV hP hD hS t (by rw [ht]; exact Nat.le_refl _) (fun q _ => by rw [ht])) hS.2.2 (Nat.le_of_ble_eq_true rfl) (Nat.le_of_ble_eq_true rfl)
def VS.anS (x : VS) (a : Nat) : VS := VS.s_nser (VS.s_nlast (VS.s_kn x (va_up x.kn x.nser (some a))) (va_up x.nlast x.nser (-1))) (x.nser + 1)
theorem wrF_k (x : VS) (ja : Nat → Nat) (kd w n : Nat) (a b : Int64) : (x.wrF ja kd w n a b).pl = x.pl ∧ (x.wrF ja kd w n a b).kn = x.kn ∧ (x.wrF ja kd w n a b).nser = x.nser ∧ (x.wrF ja kd w n a b).nlast = x.nlast := by
  unfold VS.wrF VS.wrB VS.wjS VS.jadF
  repeat' split
  all_goals exact ⟨rfl, rfl, rfl, rfl⟩
theorem d_V_addNewSeries_0 : decode prog_1_method_25_code 0 = .ok (.aload_n 0, 1) := by decide +kernel
theorem d_V_addNewSeries_1 : decode prog_1_method_25_code 1 = .ok (.getfield 33, 3) := by decide +kernel
theorem d_V_addNewSeries_4 : decode prog_1_method_25_code 4 = .ok (.getfield 130, 3) := by decide +kernel
theorem d_V_addNewSeries_7 : decode prog_1_method_25_code 7 = .ok (.istore_n 2, 1) := by decide +kernel
theorem d_V_addNewSeries_8 : decode prog_1_method_25_code 8 = .ok (.iload_n 2, 1) := by decide +kernel
theorem d_V_addNewSeries_9 : decode prog_1_method_25_code 9 = .ok (.sipush 256, 3) := by decide +kernel
theorem d_V_addNewSeries_12 : decode prog_1_method_25_code 12 = .ok (.if_icmp .ge 17, 3) := by decide +kernel
theorem d_V_addNewSeries_15 : decode prog_1_method_25_code 15 = .ok (.aload_n 0, 1) := by decide +kernel
theorem d_V_addNewSeries_16 : decode prog_1_method_25_code 16 = .ok (.getfield 16, 3) := by decide +kernel
theorem d_V_addNewSeries_19 : decode prog_1_method_25_code 19 = .ok (.aload_n 1, 1) := by decide +kernel
theorem d_V_addNewSeries_20 : decode prog_1_method_25_code 20 = .ok (.invokevirtual 235, 3) := by decide +kernel
theorem d_V_addNewSeries_23 : decode prog_1_method_25_code 23 = .ok (.invokevirtual 238, 3) := by decide +kernel
theorem d_V_addNewSeries_26 : decode prog_1_method_25_code 26 = .ok (.ifCond .ne 11, 3) := by decide +kernel
theorem d_V_addNewSeries_37 : decode prog_1_method_25_code 37 = .ok (.aload_n 0, 1) := by decide +kernel
theorem d_V_addNewSeries_38 : decode prog_1_method_25_code 38 = .ok (.iconst 0, 1) := by decide +kernel
theorem d_V_addNewSeries_39 : decode prog_1_method_25_code 39 = .ok (.iload_n 2, 1) := by decide +kernel
theorem d_V_addNewSeries_40 : decode prog_1_method_25_code 40 = .ok (.aload_n 1, 1) := by decide +kernel
theorem d_V_addNewSeries_41 : decode prog_1_method_25_code 41 = .ok (.invokevirtual 235, 3) := by decide +kernel
theorem d_V_addNewSeries_44 : decode prog_1_method_25_code 44 = .ok (.lconst 0, 1) := by decide +kernel
theorem d_V_addNewSeries_45 : decode prog_1_method_25_code 45 = .ok (.lconst 0, 1) := by decide +kernel
theorem d_V_addNewSeries_46 : decode prog_1_method_25_code 46 = .ok (.invokevirtual 241, 3) := by decide +kernel
theorem d_V_addNewSeries_49 : decode prog_1_method_25_code 49 = .ok (.aload_n 0, 1) := by decide +kernel
theorem d_V_addNewSeries_50 : decode prog_1_method_25_code 50 = .ok (.getfield 42, 3) := by decide +kernel
theorem d_V_addNewSeries_53 : decode prog_1_method_25_code 53 = .ok (.iload_n 2, 1) := by decide +kernel
theorem d_V_addNewSeries_54 : decode prog_1_method_25_code 54 = .ok (.aload_n 1, 1) := by decide +kernel
theorem d_V_addNewSeries_55 : decode prog_1_method_25_code 55 = .ok (.aastore, 1) := by decide +kernel
theorem d_V_addNewSeries_56 : decode prog_1_method_25_code 56 = .ok (.aload_n 0, 1) := by decide +kernel
theorem d_V_addNewSeries_57 : decode prog_1_method_25_code 57 = .ok (.getfield 33, 3) := by decide +kernel
theorem d_V_addNewSeries_60 : decode prog_1_method_25_code 60 = .ok (.invokevirtual 166, 3) := by decide +kernel
theorem d_V_addNewSeries_63 : decode prog_1_method_25_code 63 = .ok (.return_, 1) := by decide +kernel
theorem w1331 : Cond.methodLink "SeriesVault" 166 ⟨"SeriesVault$Shelf", "addSeries", "()V"⟩ ∈ aW := aw_of (tb_5 (List.mem_of_getElem? (i := 87) rfl)) rfl
theorem w1332 : Cond.code ⟨"SeriesVault$Shelf", "addSeries", "()V"⟩ prog_9_method_5_code 1 none ∈ aW := aw_of (tb_5 (List.mem_of_getElem? (i := 90) rfl)) rfl
theorem w1333 : Cond.instanceMethod ⟨"SeriesVault$Shelf", "addSeries", "()V"⟩ ∈ aW := aw_of (tb_5 (List.mem_of_getElem? (i := 88) rfl)) rfl
theorem w1334 : Cond.selects "SeriesVault$Shelf" ⟨"SeriesVault$Shelf", "addSeries", "()V"⟩ ⟨"SeriesVault$Shelf", "addSeries", "()V"⟩ ∈ aW := aw_of (tb_5 (List.mem_of_getElem? (i := 89) rfl)) rfl
set_option maxHeartbeats 4000000 in
set_option maxRecDepth 100000 in
theorem v_addNewSeries (l : Launch) (D : va_G) (dA : Nat → ClassId) (sz : Nat) (h : Nat) (ad : Nat → Nat) (x : VS) (a : Nat) (S : List LB) (hsr : isSer dA x.pl a S) (hso : serOk S) (hbu : x.jblock + 1 < 2 ^ 31) (hlu : x.jlimit < 2 ^ 31) (hfl : x.jfill ≤ 126) (hs1 : x.jsize ≤ x.jN) (hs2 : 0 < x.jN) (hs3 : x.jN ≤ 65536) (hx0 : x.nser < 256) (hro : x.room (1 + ((joinT S).length + 32 - 1) / 32) = true) (hcr : x.jfill + (1 + ((joinT S).length + 32 - 1) / 32) ≤ 126 ∨ x.jch = false ∨ ¬ x.cutLeft = 0) : Met l ⟨"SeriesVault", "addNewSeries", "(LSeriesVault$Series;)V"⟩ [Cond.code ⟨"SeriesVault", "addNewSeries", "(LSeriesVault$Series;)V"⟩ prog_1_method_25_code 3 none] { frames := 5, cells := 6 * (x.jcap - x.jN), slots := 12 * (x.jcap - x.jN), locals := 136 } (pC D dA [.ref h, .ref a] (VW dA h ad x) sz) (va_Qv (fun (u9 : VS) => (∃ ja : Nat → Nat, u9 = (x.wrF ja 0 x.nser (1 + ((joinT S).length + 32 - 1) / 32) 0 0).anS a)) (fun (u9 : VS) t9 => bW D (va_A (VW dA h ad x) sz) (VW dA h ad u9) t9) (va_A (VW dA h ad x) sz)) (6 * (x.jcap - x.jN)) (12 * (x.jcap - x.jN)) (va_A (VW dA h ad x) sz) := by
  refine mkC (y := ⟨"SeriesVault", "addNewSeries", "(LSeriesVault$Series;)V"⟩) (cc := prog_1_method_25_code) (maxL := 3) (av := [.ref h, .ref a]) (ws := VW dA h ad x) (sz := sz) (Qc := fun A => va_Qv (fun (u9 : VS) => (∃ ja : Nat → Nat, u9 = (x.wrF ja 0 x.nser (1 + ((joinT S).length + 32 - 1) / 32) 0 0).anS a)) (fun (u9 : VS) t9 => bW D A (VW dA h ad u9) t9) A) (by decide) (Nat.le_of_ble_eq_true rfl) ?_
  intro A p e s m below meth c ls hsz hB
  obtain ⟨hx, hb, hr, hml, hown, hin, hlk, hE, hK, hP, hD, hS, hA, hN, hl⟩ := hB
  have hown : s.vm.findClass "SeriesVault" = some m.cls := hown
  have hl : lv_has ls 3 [(0, .ref h), (1, .ref a)] := hl
  obtain ⟨H, hH⟩ : ∃ z, z = s.heap := ⟨_, rfl⟩
  have hP : va_P D vwCl (VW dA h ad x) H := by rw [hH]; exact hP
  have hS : va_S A s.heap H [] := by rw [hH]; exact hS
  rw [← hH]
  have hsrc := hsr
  obtain ⟨na, va, no, tx, fn, fv, n1, n2, n3, wno, wtx, hel⟩ := hsrc
  have wtxc := wtx
  obtain ⟨b_tx, f_tx, m1tx, m2tx, y_tx, hf_tx⟩ := wtxc
  have jl := jt_le hso
  refine lv_aload_n hx hb d_V_addNewSeries_0 rfl (lv_at hl 0 rfl) ?_
  refine gF (v := .ref (ad 3)) hx hb hown hE hK hP 0 rfl rfl layV 11 (by decide) w297 rfl d_V_addNewSeries_1 ?_
  refine gFN (v := .int (nI x.nser)) hx hb hown hE hK hP 17 rfl rfl layH 8 (by decide) w298 rfl d_V_addNewSeries_4 ?_
  refine lv_istore_n hx hb d_V_addNewSeries_7 rfl hl (by decide) rfl (fun ls hl => ?_)
  have hl : lv_has ls 3 [(2, .int (nI x.nser)), (0, .ref h), (1, .ref a)] := hl
  refine lv_iload_n hx hb d_V_addNewSeries_8 rfl (lv_at hl 0 rfl) ?_
  refine lv_sipush (v := 256) hx hb d_V_addNewSeries_9 (by decide) ?_
  refine lv_icmp_ge hx hb d_V_addNewSeries_12 (tgt := 29) rfl (fun h9 => absurd h9 (mt (nI_leI (a := 256) (b := x.nser) (by omega) (by omega)).mp (Nat.not_le.mpr hx0))) (fun _ => ?_)
  refine lv_aload_n hx hb d_V_addNewSeries_15 rfl (lv_at hl 1 rfl) ?_
  refine gF (v := .ref (ad 0)) hx hb hown hE hK hP 0 rfl rfl layV 8 (by decide) w312 rfl d_V_addNewSeries_16 ?_
  refine lv_aload_n hx hb d_V_addNewSeries_19 rfl (lv_at hl 2 rfl) ?_
  obtain ⟨qp1, ep2⟩ := List.getElem?_of_mem (show ((a, .inr (11, [.ref na, .ref va, .ref no, .ref tx])) : Nat × va_E) ∈ VW dA h ad x from (plm n1))
  refine jkI (wr := []) (rnV (As := []) (rest := [.ref (ad 0)]) hx hb hml hown hE hK (hN _ _ hS) hP hD (v_Sunits l D dA H.size (VW dA h ad x) a S (isSer_m (fun _ hm => (plm hm)) hsr) hso) (q0 := qp1) ep2 rfl w1324 w1323 w1325 w1326 w1288 rfl rfl ⟨⟨by decide, by decide⟩, rfl⟩ ⟨(Nat.le_of_ble_eq_true rfl), (Nat.le_of_ble_eq_true rfl)⟩ rfl hl.1 rfl (Nat.le_of_ble_eq_true rfl) d_V_addNewSeries_20 ⟨(show 0 + 0 ≤ 6 * (x.jcap - x.jN) by omega), (show 0 + 0 ≤ 12 * (x.jcap - x.jN) by omega)⟩) hP hD hS hA (fun r3 u4 H locs hp9 hP hD hS => ?_)
  have hP : va_P D vwCl (VW dA h ad x) H := hP
  have hD : va_D A (VW dA h ad x) := hD
  replace hp9 : nI (1 + ((joinT S).length + 32 - 1) / 32) = r3 := Eq.symm hp9
  subst hp9
  refine jkI (wr := []) (rnV (As := [.int (nI (1 + ((joinT S).length + 32 - 1) / 32))]) (rest := []) hx hb hml hown hE hK (hN _ _ hS) hP hD (v_jhasRoom l D dA H.size h ad x (1 + ((joinT S).length + 32 - 1) / 32) (show x.jfill + (1 + ((joinT S).length + 32 - 1) / 32) < 2 ^ 31 from by omega) (show x.jblock + 1 < 2 ^ 31 from by omega) (show x.jlimit < 2 ^ 31 from by omega)) (q0 := 2) rfl rfl w1163 w1162 w1164 w1165 w556 rfl rfl ⟨⟨by decide, by decide⟩, rfl⟩ ⟨(Nat.le_of_ble_eq_true rfl), (Nat.le_of_ble_eq_true rfl)⟩ rfl hl.1 rfl (Nat.le_of_ble_eq_true rfl) d_V_addNewSeries_23 ⟨(show 0 + 0 + 0 ≤ 6 * (x.jcap - x.jN) by omega), (show 0 + 0 + 0 ≤ 12 * (x.jcap - x.jN) by omega)⟩) hP hD hS hA (fun r5 u6 H locs hp9 hP hD hS => ?_)
  have hP : va_P D vwCl (VW dA h ad x) H := hP
  have hD : va_D A (VW dA h ad x) := hD
  replace hp9 : bI (x.room (1 + ((joinT S).length + 32 - 1) / 32)) = r5 := Eq.symm hp9
  subst hp9
  refine lv_if_ne hx hb d_V_addNewSeries_26 (tgt := 37) rfl (fun _ => ?_) (fun h9 => absurd h9 (by rw [hro]; decide))
  refine lv_aload_n hx hb d_V_addNewSeries_37 rfl (lv_at hl 1 rfl) ?_
  refine lv_iconst (v := 0) hx hb d_V_addNewSeries_38 (by decide) ?_
  refine lv_iload_n hx hb d_V_addNewSeries_39 rfl (lv_at hl 0 rfl) ?_
  refine lv_aload_n hx hb d_V_addNewSeries_40 rfl (lv_at hl 2 rfl) ?_
  obtain ⟨qp7, ep8⟩ := List.getElem?_of_mem (show ((a, .inr (11, [.ref na, .ref va, .ref no, .ref tx])) : Nat × va_E) ∈ VW dA h ad x from (plm n1))
  refine jkI (wr := []) (rnV (As := []) (rest := [.int (nI x.nser), .int 0, .ref h]) hx hb hml hown hE hK (hN _ _ hS) hP hD (v_Sunits l D dA H.size (VW dA h ad x) a S (isSer_m (fun _ hm => (plm hm)) hsr) hso) (q0 := qp7) ep8 rfl w1324 w1323 w1325 w1326 w1288 rfl rfl ⟨⟨by decide, by decide⟩, rfl⟩ ⟨(Nat.le_of_ble_eq_true rfl), (Nat.le_of_ble_eq_true rfl)⟩ rfl hl.1 rfl (Nat.le_of_ble_eq_true rfl) d_V_addNewSeries_41 ⟨(show 0 + 0 + 0 + 0 ≤ 6 * (x.jcap - x.jN) by omega), (show 0 + 0 + 0 + 0 ≤ 12 * (x.jcap - x.jN) by omega)⟩) hP hD hS hA (fun r9 u10 H locs hp9 hP hD hS => ?_)
  have hP : va_P D vwCl (VW dA h ad x) H := hP
  have hD : va_D A (VW dA h ad x) := hD
  replace hp9 : nI (1 + ((joinT S).length + 32 - 1) / 32) = r9 := Eq.symm hp9
  subst hp9
  refine lv_lconst (v := 0) hx hb d_V_addNewSeries_44 (by decide) ?_
  refine lv_lconst (v := 0) hx hb d_V_addNewSeries_45 (by decide) ?_
  refine jkV (wr := []) (rnV (As := [.int 0, .int (nI x.nser), .int (nI (1 + ((joinT S).length + 32 - 1) / 32)), .long 0, .long 0]) (rest := []) hx hb hml hown hE hK (hN _ _ hS) hP hD (v_writeRecord l D dA H.size h ad x 0 x.nser (1 + ((joinT S).length + 32 - 1) / 32) 0 0 (show x.jsize ≤ x.jN from by omega) (show 0 < x.jN from by omega) (show x.jN ≤ 65536 from by omega) (show x.jfill + (1 + ((joinT S).length + 32 - 1) / 32) < 2 ^ 31 from by omega) hcr) (q0 := 0) rfl rfl w1133 w1132 w1134 w1135 w277 rfl rfl ⟨⟨by decide, by decide⟩, rfl⟩ ⟨(Nat.le_of_ble_eq_true rfl), (Nat.le_of_ble_eq_true rfl)⟩ rfl hl.1 rfl (Nat.le_of_ble_eq_true rfl) d_V_addNewSeries_46 ⟨(show 0 + 0 + 0 + 0 + (6 * (x.jcap - x.jN)) ≤ 6 * (x.jcap - x.jN) by omega), (show 0 + 0 + 0 + 0 + (12 * (x.jcap - x.jN)) ≤ 12 * (x.jcap - x.jN) by omega)⟩) hP hD hS hA (fun u12 H locs hp9 hP hD hS => ?_)
  obtain ⟨y13, h9u⟩ : ∃ z9, z9 = u12 := ⟨_, rfl⟩
  subst h9u
  have hP : va_P D vwCl (VW dA h ad y13) H := hP
  have hD : va_D A (VW dA h ad y13) := hD
  have f_e_14 := hp9
  obtain ⟨ja, eja⟩ := f_e_14
  obtain ⟨z1, z2, z3, z4⟩ := wrF_k x ja 0 x.nser (1 + ((joinT S).length + 32 - 1) / 32) 0 0
  rw [← eja] at z1 z2 z3 z4
  rw [← z1] at n1
  refine lv_aload_n hx hb d_V_addNewSeries_49 rfl (lv_at hl 1 rfl) ?_
  refine gF (v := .ref (ad 17)) hx hb hown hE hK hP 0 rfl rfl layV 13 (by decide) w833 rfl d_V_addNewSeries_50 ?_
  refine lv_iload_n hx hb d_V_addNewSeries_53 rfl (lv_at hl 0 rfl) ?_
  refine lv_aload_n hx hb d_V_addNewSeries_54 rfl (lv_at hl 2 rfl) ?_
  obtain ⟨qp15, ep16⟩ := List.getElem?_of_mem (show ((a, .inr (11, [.ref na, .ref va, .ref no, .ref tx])) : Nat × va_E) ∈ VW dA h ad y13 from (plm n1))
  refine nqst (r := ("SeriesVault$Series", TS, 4)) (f := y13.kn) (n := 256) hx hb hK hP hD hS (31) 5 (qp15) 11 rfl rfl ep16 rfl (x.nser) (show x.nser < 256 by omega) (by decide) d_V_addNewSeries_55 (fun H locs hP hD hS => ?_)
  have hP : va_P D vwCl (VW dA h ad (VS.s_kn y13 (va_up y13.kn x.nser (some a)))) H := hP
  have hD : va_D A (VW dA h ad (VS.s_kn y13 (va_up y13.kn x.nser (some a)))) := hD
  refine lv_aload_n hx hb d_V_addNewSeries_56 rfl (lv_at hl 1 rfl) ?_
  refine gF (v := .ref (ad 3)) hx hb hown hE hK hP 0 rfl rfl layV 11 (by decide) w297 rfl d_V_addNewSeries_57 ?_
  refine jkV (wr := []) (rnV (As := []) (rest := []) hx hb hml hown hE hK (hN _ _ hS) hP hD (v_addSeries l D dA H.size h ad (VS.s_kn y13 (va_up y13.kn x.nser (some a))) (show y13.nser < 256 from by omega)) (q0 := 17) rfl rfl w1332 w1331 w1333 w1334 w583 rfl rfl ⟨⟨by decide, by decide⟩, rfl⟩ ⟨(Nat.le_of_ble_eq_true rfl), (Nat.le_of_ble_eq_true rfl)⟩ rfl hl.1 rfl (Nat.le_of_ble_eq_true rfl) d_V_addNewSeries_60 ⟨(show 0 + 0 + 0 + 0 + (6 * (x.jcap - x.jN)) + 0 ≤ 6 * (x.jcap - x.jN) by omega), (show 0 + 0 + 0 + 0 + (12 * (x.jcap - x.jN)) + 0 ≤ 12 * (x.jcap - x.jN) by omega)⟩) hP hD hS hA (fun u18 H locs hp9 hP hD hS => ?_)
  have hP : va_P D vwCl (VW dA h ad (VS.s_kn (VS.s_nlast (VS.s_nser y13 (y13.nser + 1)) (va_up y13.nlast y13.nser (-1))) (va_up y13.kn x.nser (some a)))) H := hP
  have hD : va_D A (VW dA h ad (VS.s_kn (VS.s_nlast (VS.s_nser y13 (y13.nser + 1)) (va_up y13.nlast y13.nser (-1))) (va_up y13.kn x.nser (some a)))) := hD
  exact rfV hx hb hr hlk hS (VS.s_kn (VS.s_nlast (VS.s_nser y13 (y13.nser + 1)) (va_up y13.nlast y13.nser (-1))) (va_up y13.kn x.nser (some a))) ⟨ja, by rw [← eja]; show _ = _; unfold VS.anS; rw [z3]⟩ hP hD (show 0 + 0 + 0 + 0 + (6 * (x.jcap - x.jN)) + 0 ≤ 6 * (x.jcap - x.jN) by omega) (show 0 + 0 + 0 + 0 + (12 * (x.jcap - x.jN)) + 0 ≤ 12 * (x.jcap - x.jN) by omega) d_V_addNewSeries_63
theorem d_V_addNewSeries_29 : decode prog_1_method_25_code 29 = .ok (.new 76, 3) := by decide +kernel
theorem d_V_addNewSeries_32 : decode prog_1_method_25_code 32 = .ok (.dup, 1) := by decide +kernel
theorem d_V_addNewSeries_33 : decode prog_1_method_25_code 33 = .ok (.invokespecial 78, 3) := by decide +kernel
theorem d_V_addNewSeries_36 : decode prog_1_method_25_code 36 = .ok (.athrow, 1) := by decide +kernel
set_option maxHeartbeats 4000000 in
set_option maxRecDepth 100000 in
theorem v_addNewSeries_u (l : Launch) (htr : l.stackTraces = false) (D : va_G) (dA : Nat → ClassId) (sz : Nat) (h : Nat) (ad : Nat → Nat) (x : VS) (a : Nat) (S : List LB) (hsr : isSer dA x.pl a S) (hso : serOk S) (hbu : x.jblock + 1 < 2 ^ 31) (hlu : x.jlimit < 2 ^ 31) (hfl : x.jfill ≤ 126) (hx0 : x.nser ≤ 256) (hro : x.nser < 256 → x.room (1 + ((joinT S).length + 32 - 1) / 32) = false) : mX l ⟨"SeriesVault", "addNewSeries", "(LSeriesVault$Series;)V"⟩ [Cond.code ⟨"SeriesVault", "addNewSeries", "(LSeriesVault$Series;)V"⟩ prog_1_method_25_code 3 none] { frames := 6, cells := 1, slots := 6, locals := 81 } (pC D dA [.ref h, .ref a] (VW dA h ad x) sz) "java/lang/UnsupportedOperationException" (fun st9 t9 => va_F (va_A (VW dA h ad x) sz) st9 t9 ∧ ∃ u9 : Unit, (True) ∧ bW D (va_A (VW dA h ad x) sz) (VW dA h ad x) t9) 1 6 (va_A (VW dA h ad x) sz) := by
  refine mkX (y := ⟨"SeriesVault", "addNewSeries", "(LSeriesVault$Series;)V"⟩) (cc := prog_1_method_25_code) (maxL := 3) (av := [.ref h, .ref a]) (ws := VW dA h ad x) (sz := sz) (B := fun A => (fun st9 t9 => va_F A st9 t9 ∧ ∃ u9 : Unit, (True) ∧ bW D A (VW dA h ad x) t9)) (by decide) (Nat.le_of_ble_eq_true rfl) ?_
  intro A p e s m below meth c ls hsz hno hB
  obtain ⟨hx, hb, hr, hml, hown, hin, hlk, hE, hK, hP, hD, hS, hA, hN, hl⟩ := hB
  have hown : s.vm.findClass "SeriesVault" = some m.cls := hown
  have hl : lv_has ls 3 [(0, .ref h), (1, .ref a)] := hl
  obtain ⟨H, hH⟩ : ∃ z, z = s.heap := ⟨_, rfl⟩
  have hP : va_P D vwCl (VW dA h ad x) H := by rw [hH]; exact hP
  have hS : va_S A s.heap H [] := by rw [hH]; exact hS
  rw [← hH]
  have hsrc := hsr
  obtain ⟨na, va, no, tx, fn, fv, n1, n2, n3, wno, wtx, hel⟩ := hsrc
  have wtxc := wtx
  obtain ⟨b_tx, f_tx, m1tx, m2tx, y_tx, hf_tx⟩ := wtxc
  have jl := jt_le hso
  refine lv_aload_n hx hb d_V_addNewSeries_0 rfl (lv_at hl 0 rfl) ?_
  refine gF (v := .ref (ad 3)) hx hb hown hE hK hP 0 rfl rfl layV 11 (by decide) w297 rfl d_V_addNewSeries_1 ?_
  refine gFN (v := .int (nI x.nser)) hx hb hown hE hK hP 17 rfl rfl layH 8 (by decide) w298 rfl d_V_addNewSeries_4 ?_
  refine lv_istore_n hx hb d_V_addNewSeries_7 rfl hl (by decide) rfl (fun ls hl => ?_)
  have hl : lv_has ls 3 [(2, .int (nI x.nser)), (0, .ref h), (1, .ref a)] := hl
  refine lv_iload_n hx hb d_V_addNewSeries_8 rfl (lv_at hl 0 rfl) ?_
  refine lv_sipush (v := 256) hx hb d_V_addNewSeries_9 (by decide) ?_
  refine lv_icmp_ge hx hb d_V_addNewSeries_12 (tgt := 29) rfl (fun g1 => ?_) (fun g1 => ?_)
  · have g1 := (nI_leI (a := 256) (b := x.nser) (by omega) (by omega)).mp g1
    exact xNew (E := "java/lang/UnsupportedOperationException") (names := ["java/lang/RuntimeException", "java/lang/Exception"]) hx hb htr hown (by decide) (by decide) hE w1156 w1157 (fun U hU => at_V_UOE hU) (hN _ _ hS) (hl.1.trans hml.symm) d_V_addNewSeries_29 d_V_addNewSeries_32 d_V_addNewSeries_33 d_V_addNewSeries_36 hno (by decide) (Nat.le_of_ble_eq_true rfl) (show 0 + 1 ≤ 1 by omega) (show 0 + 6 ≤ 6 by omega) hlk (fun t h1 h2 => xkE () trivial hP hD hS t h1 h2) hS.2.2 (show 0 + 1 ≤ 1 by omega) (show 0 + 6 ≤ 6 by omega)
  · have g1 := mt (nI_leI (a := 256) (b := x.nser) (by omega) (by omega)).mpr g1
    refine lv_aload_n hx hb d_V_addNewSeries_15 rfl (lv_at hl 1 rfl) ?_
    refine gF (v := .ref (ad 0)) hx hb hown hE hK hP 0 rfl rfl layV 8 (by decide) w312 rfl d_V_addNewSeries_16 ?_
    refine lv_aload_n hx hb d_V_addNewSeries_19 rfl (lv_at hl 2 rfl) ?_
    obtain ⟨qp2, ep3⟩ := List.getElem?_of_mem (show ((a, .inr (11, [.ref na, .ref va, .ref no, .ref tx])) : Nat × va_E) ∈ VW dA h ad x from (plm n1))
    refine jkI (wr := []) (rnV (As := []) (rest := [.ref (ad 0)]) hx hb hml hown hE hK (hN _ _ hS) hP hD (v_Sunits l D dA H.size (VW dA h ad x) a S (isSer_m (fun _ hm => (plm hm)) hsr) hso) (q0 := qp2) ep3 rfl w1324 w1323 w1325 w1326 w1288 rfl rfl ⟨⟨by decide, by decide⟩, rfl⟩ ⟨(Nat.le_of_ble_eq_true rfl), (Nat.le_of_ble_eq_true rfl)⟩ rfl hl.1 rfl (Nat.le_of_ble_eq_true rfl) d_V_addNewSeries_20 ⟨(show 0 + 0 ≤ 1 by omega), (show 0 + 0 ≤ 6 by omega)⟩) hP hD hS hA (fun r4 u5 H locs hp9 hP hD hS => ?_)
    have hP : va_P D vwCl (VW dA h ad x) H := hP
    have hD : va_D A (VW dA h ad x) := hD
    replace hp9 : nI (1 + ((joinT S).length + 32 - 1) / 32) = r4 := Eq.symm hp9
    subst hp9
    refine jkI (wr := []) (rnV (As := [.int (nI (1 + ((joinT S).length + 32 - 1) / 32))]) (rest := []) hx hb hml hown hE hK (hN _ _ hS) hP hD (v_jhasRoom l D dA H.size h ad x (1 + ((joinT S).length + 32 - 1) / 32) (show x.jfill + (1 + ((joinT S).length + 32 - 1) / 32) < 2 ^ 31 from by omega) (show x.jblock + 1 < 2 ^ 31 from by omega) (show x.jlimit < 2 ^ 31 from by omega)) (q0 := 2) rfl rfl w1163 w1162 w1164 w1165 w556 rfl rfl ⟨⟨by decide, by decide⟩, rfl⟩ ⟨(Nat.le_of_ble_eq_true rfl), (Nat.le_of_ble_eq_true rfl)⟩ rfl hl.1 rfl (Nat.le_of_ble_eq_true rfl) d_V_addNewSeries_23 ⟨(show 0 + 0 + 0 ≤ 1 by omega), (show 0 + 0 + 0 ≤ 6 by omega)⟩) hP hD hS hA (fun r6 u7 H locs hp9 hP hD hS => ?_)
    have hP : va_P D vwCl (VW dA h ad x) H := hP
    have hD : va_D A (VW dA h ad x) := hD
    replace hp9 : bI (x.room (1 + ((joinT S).length + 32 - 1) / 32)) = r6 := Eq.symm hp9
    subst hp9
    refine lv_if_ne hx hb d_V_addNewSeries_26 (tgt := 37) rfl (fun h9 => absurd (by rw [hro (by omega)]; decide) h9) (fun _ => ?_)
    exact xNew (E := "java/lang/UnsupportedOperationException") (names := ["java/lang/RuntimeException", "java/lang/Exception"]) hx hb htr hown (by decide) (by decide) hE w1156 w1157 (fun U hU => at_V_UOE hU) (hN _ _ hS) (hl.1.trans hml.symm) d_V_addNewSeries_29 d_V_addNewSeries_32 d_V_addNewSeries_33 d_V_addNewSeries_36 hno (by decide) (Nat.le_of_ble_eq_true rfl) (show 0 + 0 + 0 + 1 ≤ 1 by omega) (show 0 + 0 + 0 + 6 ≤ 6 by omega) hlk (fun t h1 h2 => xkE () trivial hP hD hS t h1 h2) hS.2.2 (show 0 + 0 + 0 + 1 ≤ 1 by omega) (show 0 + 0 + 0 + 6 ≤ 6 by omega)
set_option maxHeartbeats 4000000 in
set_option maxRecDepth 100000 in
theorem v_addNewSeries_i (l : Launch) (htr : l.stackTraces = false) (D : va_G) (dA : Nat → ClassId) (sz : Nat) (h : Nat) (ad : Nat → Nat) (x : VS) (a : Nat) (S : List LB) (hsr : isSer dA x.pl a S) (hso : serOk S) (hbu : x.jblock + 1 < 2 ^ 31) (hlu : x.jlimit < 2 ^ 31) (hfl : x.jfill ≤ 126) (hx0 : x.nser < 256) (hro : x.room (1 + ((joinT S).length + 32 - 1) / 32) = true) (c1 : 126 < x.jfill + (1 + ((joinT S).length + 32 - 1) / 32)) (hc2 : x.jch = true) (hc : x.cutLeft = 0) : mX l ⟨"SeriesVault", "addNewSeries", "(LSeriesVault$Series;)V"⟩ [Cond.code ⟨"SeriesVault", "addNewSeries", "(LSeriesVault$Series;)V"⟩ prog_1_method_25_code 3 none] { frames := 9, cells := 1, slots := 6, locals := 148 } (pC D dA [.ref h, .ref a] (VW dA h ad x) sz) "java/lang/IllegalStateException" (fun st9 t9 => va_F (va_A (VW dA h ad x) sz) st9 t9 ∧ ∃ u9 : Unit, (True) ∧ bW D (va_A (VW dA h ad x) sz) (VW dA h ad (VS.s_cutLeft (VS.s_powered x false) (-1))) t9) 1 6 (va_A (VW dA h ad x) sz) := by
  refine mkX (y := ⟨"SeriesVault", "addNewSeries", "(LSeriesVault$Series;)V"⟩) (cc := prog_1_method_25_code) (maxL := 3) (av := [.ref h, .ref a]) (ws := VW dA h ad x) (sz := sz) (B := fun A => (fun st9 t9 => va_F A st9 t9 ∧ ∃ u9 : Unit, (True) ∧ bW D A (VW dA h ad (VS.s_cutLeft (VS.s_powered x false) (-1))) t9)) (by decide) (Nat.le_of_ble_eq_true rfl) ?_
  intro A p e s m below meth c ls hsz hno hB
  obtain ⟨hx, hb, hr, hml, hown, hin, hlk, hE, hK, hP, hD, hS, hA, hN, hl⟩ := hB
  have hown : s.vm.findClass "SeriesVault" = some m.cls := hown
  have hl : lv_has ls 3 [(0, .ref h), (1, .ref a)] := hl
  obtain ⟨H, hH⟩ : ∃ z, z = s.heap := ⟨_, rfl⟩
  have hP : va_P D vwCl (VW dA h ad x) H := by rw [hH]; exact hP
  have hS : va_S A s.heap H [] := by rw [hH]; exact hS
  rw [← hH]
  have hsrc := hsr
  obtain ⟨na, va, no, tx, fn, fv, n1, n2, n3, wno, wtx, hel⟩ := hsrc
  have wtxc := wtx
  obtain ⟨b_tx, f_tx, m1tx, m2tx, y_tx, hf_tx⟩ := wtxc
  have jl := jt_le hso
  refine lv_aload_n hx hb d_V_addNewSeries_0 rfl (lv_at hl 0 rfl) ?_
  refine gF (v := .ref (ad 3)) hx hb hown hE hK hP 0 rfl rfl layV 11 (by decide) w297 rfl d_V_addNewSeries_1 ?_
  refine gFN (v := .int (nI x.nser)) hx hb hown hE hK hP 17 rfl rfl layH 8 (by decide) w298 rfl d_V_addNewSeries_4 ?_
  refine lv_istore_n hx hb d_V_addNewSeries_7 rfl hl (by decide) rfl (fun ls hl => ?_)
  have hl : lv_has ls 3 [(2, .int (nI x.nser)), (0, .ref h), (1, .ref a)] := hl
  refine lv_iload_n hx hb d_V_addNewSeries_8 rfl (lv_at hl 0 rfl) ?_
  refine lv_sipush (v := 256) hx hb d_V_addNewSeries_9 (by decide) ?_
  refine lv_icmp_ge hx hb d_V_addNewSeries_12 (tgt := 29) rfl (fun h9 => absurd h9 (mt (nI_leI (a := 256) (b := x.nser) (by omega) (by omega)).mp (Nat.not_le.mpr hx0))) (fun _ => ?_)
  refine lv_aload_n hx hb d_V_addNewSeries_15 rfl (lv_at hl 1 rfl) ?_
  refine gF (v := .ref (ad 0)) hx hb hown hE hK hP 0 rfl rfl layV 8 (by decide) w312 rfl d_V_addNewSeries_16 ?_
  refine lv_aload_n hx hb d_V_addNewSeries_19 rfl (lv_at hl 2 rfl) ?_
  obtain ⟨qp1, ep2⟩ := List.getElem?_of_mem (show ((a, .inr (11, [.ref na, .ref va, .ref no, .ref tx])) : Nat × va_E) ∈ VW dA h ad x from (plm n1))
  refine jkI (wr := []) (rnV (As := []) (rest := [.ref (ad 0)]) hx hb hml hown hE hK (hN _ _ hS) hP hD (v_Sunits l D dA H.size (VW dA h ad x) a S (isSer_m (fun _ hm => (plm hm)) hsr) hso) (q0 := qp1) ep2 rfl w1324 w1323 w1325 w1326 w1288 rfl rfl ⟨⟨by decide, by decide⟩, rfl⟩ ⟨(Nat.le_of_ble_eq_true rfl), (Nat.le_of_ble_eq_true rfl)⟩ rfl hl.1 rfl (Nat.le_of_ble_eq_true rfl) d_V_addNewSeries_20 ⟨(show 0 + 0 ≤ 1 by omega), (show 0 + 0 ≤ 6 by omega)⟩) hP hD hS hA (fun r3 u4 H locs hp9 hP hD hS => ?_)
  have hP : va_P D vwCl (VW dA h ad x) H := hP
  have hD : va_D A (VW dA h ad x) := hD
  replace hp9 : nI (1 + ((joinT S).length + 32 - 1) / 32) = r3 := Eq.symm hp9
  subst hp9
  refine jkI (wr := []) (rnV (As := [.int (nI (1 + ((joinT S).length + 32 - 1) / 32))]) (rest := []) hx hb hml hown hE hK (hN _ _ hS) hP hD (v_jhasRoom l D dA H.size h ad x (1 + ((joinT S).length + 32 - 1) / 32) (show x.jfill + (1 + ((joinT S).length + 32 - 1) / 32) < 2 ^ 31 from by omega) (show x.jblock + 1 < 2 ^ 31 from by omega) (show x.jlimit < 2 ^ 31 from by omega)) (q0 := 2) rfl rfl w1163 w1162 w1164 w1165 w556 rfl rfl ⟨⟨by decide, by decide⟩, rfl⟩ ⟨(Nat.le_of_ble_eq_true rfl), (Nat.le_of_ble_eq_true rfl)⟩ rfl hl.1 rfl (Nat.le_of_ble_eq_true rfl) d_V_addNewSeries_23 ⟨(show 0 + 0 + 0 ≤ 1 by omega), (show 0 + 0 + 0 ≤ 6 by omega)⟩) hP hD hS hA (fun r5 u6 H locs hp9 hP hD hS => ?_)
  have hP : va_P D vwCl (VW dA h ad x) H := hP
  have hD : va_D A (VW dA h ad x) := hD
  replace hp9 : bI (x.room (1 + ((joinT S).length + 32 - 1) / 32)) = r5 := Eq.symm hp9
  subst hp9
  refine lv_if_ne hx hb d_V_addNewSeries_26 (tgt := 37) rfl (fun _ => ?_) (fun h9 => absurd h9 (by rw [hro]; decide))
  refine lv_aload_n hx hb d_V_addNewSeries_37 rfl (lv_at hl 1 rfl) ?_
  refine lv_iconst (v := 0) hx hb d_V_addNewSeries_38 (by decide) ?_
  refine lv_iload_n hx hb d_V_addNewSeries_39 rfl (lv_at hl 0 rfl) ?_
  refine lv_aload_n hx hb d_V_addNewSeries_40 rfl (lv_at hl 2 rfl) ?_
  obtain ⟨qp7, ep8⟩ := List.getElem?_of_mem (show ((a, .inr (11, [.ref na, .ref va, .ref no, .ref tx])) : Nat × va_E) ∈ VW dA h ad x from (plm n1))
  refine jkI (wr := []) (rnV (As := []) (rest := [.int (nI x.nser), .int 0, .ref h]) hx hb hml hown hE hK (hN _ _ hS) hP hD (v_Sunits l D dA H.size (VW dA h ad x) a S (isSer_m (fun _ hm => (plm hm)) hsr) hso) (q0 := qp7) ep8 rfl w1324 w1323 w1325 w1326 w1288 rfl rfl ⟨⟨by decide, by decide⟩, rfl⟩ ⟨(Nat.le_of_ble_eq_true rfl), (Nat.le_of_ble_eq_true rfl)⟩ rfl hl.1 rfl (Nat.le_of_ble_eq_true rfl) d_V_addNewSeries_41 ⟨(show 0 + 0 + 0 + 0 ≤ 1 by omega), (show 0 + 0 + 0 + 0 ≤ 6 by omega)⟩) hP hD hS hA (fun r9 u10 H locs hp9 hP hD hS => ?_)
  have hP : va_P D vwCl (VW dA h ad x) H := hP
  have hD : va_D A (VW dA h ad x) := hD
  replace hp9 : nI (1 + ((joinT S).length + 32 - 1) / 32) = r9 := Eq.symm hp9
  subst hp9
  refine lv_lconst (v := 0) hx hb d_V_addNewSeries_44 (by decide) ?_
  refine lv_lconst (v := 0) hx hb d_V_addNewSeries_45 (by decide) ?_
  refine xfV (w1 := VW dA h ad (VS.s_cutLeft (VS.s_powered x false) (-1))) (As := [.int 0, .int (nI x.nser), .int (nI (1 + ((joinT S).length + 32 - 1) / 32)), .long 0, .long 0]) (rest := []) hx hb hml hown hE hK (hN _ _ hS) (v_writeRecord_x l htr D dA H.size h ad x 0 x.nser (1 + ((joinT S).length + 32 - 1) / 32) 0 0 (show x.jfill + (1 + ((joinT S).length + 32 - 1) / 32) < 2 ^ 31 from by omega) (show 126 < x.jfill + (1 + ((joinT S).length + 32 - 1) / 32) from by omega) hc2 hc) (q0 := 0) rfl rfl w1133 w1132 w1134 w1135 w277 rfl rfl ⟨⟨by decide, by decide⟩, rfl⟩ ⟨(Nat.le_of_ble_eq_true rfl), (Nat.le_of_ble_eq_true rfl)⟩ rfl hl.1 rfl (Nat.le_of_ble_eq_true rfl) d_V_addNewSeries_46 ⟨(show 0 + 0 + 0 + 0 + 1 ≤ 1 by omega), (show 0 + 0 + 0 + 0 + 6 ≤ 6 by omega)⟩ hP hD hS hA (fun xa11 ce H locs hP hD hS hce hcv hcl => ?_)
  have hP : va_P D vwCl (VW dA h ad (VS.s_cutLeft (VS.s_powered x false) (-1))) H := hP
  have hD : va_D A (VW dA h ad (VS.s_cutLeft (VS.s_powered x false) (-1))) := hD
  exact xOut hno hlk hce hcv hcl (fun t ht => xkE () trivial hP hD hS t (by rw [ht]; exact Nat.le_refl _) (fun q _ => by rw [ht])) hS.2.2 (show 0 + 0 + 0 + 0 + 1 ≤ 1 by omega) (show 0 + 0 + 0 + 0 + 6 ≤ 6 by omega)
