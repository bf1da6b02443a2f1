/-- seen, and no later than a time; seen, of a series, within times -/
def VS.siPc (x : VS) (P : PT) (a : Int64) (i : Nat) : Bool := !decide (a < P.t i) && x.sePc P i
def VS.soPc (x : VS) (P : PT) (w : Nat) (a b : Int64) (i : Nat) : Bool := decide (P.o i = w) && (!decide (P.t i < a) && (!decide (b < P.t i) && x.sePc P i))
/-- the parcels of a shelf -/
def psOk (dA : Nat → ClassId) (nP : Nat → Option Nat) (n : Nat) (pl : va_W) (PS : Nat → PT) : Prop := ∀ k : Nat, k < n → ∃ pp : Nat, nP k = some pp ∧ isPc dA pl pp (PS k) ∧ pcOk (PS k)
def VS.sbN (x : VS) (PS : Nat → PT) (a : Int64) (k : Nat) : Nat := cnt (PS k).n (x.siPc (PS k) a)
def VS.soN (x : VS) (PS : Nat → PT) (w : Nat) (a b : Int64) (k : Nat) : Nat := cnt (PS k).n (x.soPc (PS k) w a b)
def blN (PS : Nat → PT) (k : Nat) : Nat := (PS k).bl
theorem d_H_countSeenIn_0 : decode prog_9_method_16_code 0 = .ok (.iconst 0, 1) := by decide +kernel
theorem d_H_countSeenIn_1 : decode prog_9_method_16_code 1 = .ok (.istore 4, 2) := by decide +kernel
theorem d_H_countSeenIn_3 : decode prog_9_method_16_code 3 = .ok (.iconst 0, 1) := by decide +kernel
theorem d_H_countSeenIn_4 : decode prog_9_method_16_code 4 = .ok (.istore 5, 2) := by decide +kernel
theorem d_H_countSeenIn_6 : decode prog_9_method_16_code 6 = .ok (.iload 5, 2) := by decide +kernel
theorem d_H_countSeenIn_8 : decode prog_9_method_16_code 8 = .ok (.aload_n 1, 1) := by decide +kernel
theorem d_H_countSeenIn_9 : decode prog_9_method_16_code 9 = .ok (.getfield 84, 3) := by decide +kernel
theorem d_H_countSeenIn_12 : decode prog_9_method_16_code 12 = .ok (.if_icmp .ge 34, 3) := by decide +kernel
theorem d_H_countSeenIn_46 : decode prog_9_method_16_code 46 = .ok (.iload 4, 2) := by decide +kernel
theorem d_H_countSeenIn_48 : decode prog_9_method_16_code 48 = .ok (.ireturn, 1) := by decide +kernel
theorem d_H_countSeenIn_15 : decode prog_9_method_16_code 15 = .ok (.aload_n 1, 1) := by decide +kernel
theorem d_H_countSeenIn_16 : decode prog_9_method_16_code 16 = .ok (.getfield 90, 3) := by decide +kernel
theorem d_H_countSeenIn_19 : decode prog_9_method_16_code 19 = .ok (.iload 5, 2) := by decide +kernel
theorem d_H_countSeenIn_21 : decode prog_9_method_16_code 21 = .ok (.laload, 1) := by decide +kernel
theorem d_H_countSeenIn_22 : decode prog_9_method_16_code 22 = .ok (.lload_n 2, 1) := by decide +kernel
theorem d_H_countSeenIn_23 : decode prog_9_method_16_code 23 = .ok (.lcmp, 1) := by decide +kernel
theorem d_H_countSeenIn_24 : decode prog_9_method_16_code 24 = .ok (.ifCond .gt 16, 3) := by decide +kernel
theorem d_H_countSeenIn_40 : decode prog_9_method_16_code 40 = .ok (.iinc 5 1, 3) := by decide +kernel
theorem d_H_countSeenIn_43 : decode prog_9_method_16_code 43 = .ok (.goto (-37), 3) := by decide +kernel
theorem d_H_countSeenIn_27 : decode prog_9_method_16_code 27 = .ok (.aload_n 0, 1) := by decide +kernel
theorem d_H_countSeenIn_28 : decode prog_9_method_16_code 28 = .ok (.aload_n 1, 1) := by decide +kernel
theorem d_H_countSeenIn_29 : decode prog_9_method_16_code 29 = .ok (.iload 5, 2) := by decide +kernel
theorem d_H_countSeenIn_31 : decode prog_9_method_16_code 31 = .ok (.invokevirtual 103, 3) := by decide +kernel
theorem d_H_countSeenIn_34 : decode prog_9_method_16_code 34 = .ok (.ifCond .eq 6, 3) := by decide +kernel
theorem d_H_countSeenIn_37 : decode prog_9_method_16_code 37 = .ok (.iinc 4 1, 3) := by decide +kernel
theorem w1176 : Cond.fieldLinkNest "SeriesVault$Shelf" 84 "SeriesVault$Parcel" "size" "I" "SeriesVault" ∈ aW := aw_of (tb_6 (List.mem_of_getElem? (i := 55) rfl)) rfl
theorem w1177 : Cond.methodLink "SeriesVault$Shelf" 103 ⟨"SeriesVault$Shelf", "sees", "(LSeriesVault$Parcel;I)Z"⟩ ∈ aW := aw_of (tb_5 (List.mem_of_getElem? (i := 189) rfl)) rfl
theorem w1178 : Cond.code ⟨"SeriesVault$Shelf", "sees", "(LSeriesVault$Parcel;I)Z"⟩ prog_9_method_14_code 3 (some FieldType.boolean) ∈ aW := aw_of (tb_5 (List.mem_of_getElem? (i := 192) rfl)) rfl
theorem w1179 : Cond.instanceMethod ⟨"SeriesVault$Shelf", "sees", "(LSeriesVault$Parcel;I)Z"⟩ ∈ aW := aw_of (tb_5 (List.mem_of_getElem? (i := 190) rfl)) rfl
theorem w1180 : Cond.selects "SeriesVault$Shelf" ⟨"SeriesVault$Shelf", "sees", "(LSeriesVault$Parcel;I)Z"⟩ ⟨"SeriesVault$Shelf", "sees", "(LSeriesVault$Parcel;I)Z"⟩ ∈ aW := aw_of (tb_5 (List.mem_of_getElem? (i := 191) rfl)) rfl
set_option maxHeartbeats 4000000 in
set_option maxRecDepth 100000 in
theorem v_countSeenIn (l : Launch) (D : va_G) (dA : Nat → ClassId) (sz : Nat) (h : Nat) (ad : Nat → Nat) (x : VS) (pp : Nat) (P : PT) (a : Int64) (hpp : isPc dA x.pl pp P) (hpk : pcOk P) (h1 : x.nsc ≤ 64) (h7 : ∀ q : Nat, q < x.nsc → x.nsO q < 2 ^ 31) : Met l ⟨"SeriesVault$Shelf", "countSeenIn", "(LSeriesVault$Parcel;J)I"⟩ [Cond.code ⟨"SeriesVault$Shelf", "countSeenIn", "(LSeriesVault$Parcel;J)I"⟩ prog_9_method_16_code 6 (some FieldType.int)] { frames := 3, cells := 0, slots := 0, locals := 46 } (pC D dA [.ref (ad 3), .ref pp, .long a] (VW dA h ad x) sz) (va_Qi (fun (r9 : Int32) (u9 : Unit) => r9 = nI (cnt P.n (x.siPc P a))) (fun (u9 : Unit) t9 => bW D (va_A (VW dA h ad x) sz) (VW dA h ad x) t9) (va_A (VW dA h ad x) sz)) 0 0 (va_A (VW dA h ad x) sz) := by
  refine mkC (y := ⟨"SeriesVault$Shelf", "countSeenIn", "(LSeriesVault$Parcel;J)I"⟩) (cc := prog_9_method_16_code) (maxL := 6) (av := [.ref (ad 3), .ref pp, .long a]) (ws := VW dA h ad x) (sz := sz) (Qc := fun A => va_Qi (fun (r9 : Int32) (u9 : Unit) => r9 = nI (cnt P.n (x.siPc P a))) (fun (u9 : Unit) t9 => bW D A (VW dA h ad x) t9) A) (by decide) (Nat.le_of_ble_eq_true rfl) ?_
  intro A p e s m below meth c ls hsz hB
  obtain ⟨hx, hb, hr, hml, hown, hin, hlk, hE, hK, hP, hD, hS, hA, hN, hl⟩ := hB
  have hown : s.vm.findClass "SeriesVault$Shelf" = some m.cls := hown
  have hl : lv_has ls 6 [(0, .ref (ad 3)), (1, .ref pp), (2, .long a)] := hl
  obtain ⟨H, hH⟩ : ∃ z, z = s.heap := ⟨_, rfl⟩
  have hP : va_P D vwCl (VW dA h ad x) H := by rw [hH]; exact hP
  have hS : va_S A s.heap H [] := by rw [hH]; exact hS
  rw [← hH]
  have pk1 := hpk.1
  have pk2 := hpk.2
  have hpp0 := hpp
  obtain ⟨po, pt, pv, m1, m2, m3, m4⟩ := hpp
  refine lv_iconst (v := 0) hx hb d_H_countSeenIn_0 (by decide) ?_
  refine lv_istore hx hb d_H_countSeenIn_1 hl (by decide) rfl (fun ls hl => ?_)
  have hl : lv_has ls 6 [(4, .int 0), (0, .ref (ad 3)), (1, .ref pp), (2, .long a)] := hl
  refine lv_iconst (v := 0) hx hb d_H_countSeenIn_3 (by decide) ?_
  refine lv_istore hx hb d_H_countSeenIn_4 hl (by decide) rfl (fun ls hl => ?_)
  have hl : lv_has ls 6 [(5, .int 0), (4, .int 0), (0, .ref (ad 3)), (1, .ref pp), (2, .long a)] := hl
  have L6 : ∀ (k9 : Nat) (i : Nat) (n : Nat) (i1 : i ≤ P.n) (i2 : n = cnt i (x.siPc P a)) (i3 : n ≤ i) (hk9 : P.n - i = k9), ∀ (H : Heap) (locs : List Loc) (ls : Array Slot) (hP : va_P D vwCl (VW dA h ad x) H) (hD : va_D A (VW dA h ad x)) (hS : va_S A s.heap H locs) (hl : lv_has ls 6 [(4, .int (nI n)), (5, .int (nI i)), (1, .ref pp), (2, .long a), (0, .ref (ad 3))]), W p l e ({ frames := 3, cells := 0, slots := 0, locals := 46 } : Room) s m ([.ref (ad 3), .ref pp, .long a] : List Value).toArray below meth c H locs 0 0 (MQ below (va_Qi (fun (r9 : Int32) (u9 : Unit) => r9 = nI (cnt P.n (x.siPc P a))) (fun (u9 : Unit) t9 => bW D A (VW dA h ad x) t9) A) ([.ref (ad 3), .ref pp, .long a] : List Value).toArray s 0 0 A) (F0 m 6 ls []) := by
    intro k9
    induction k9 using Nat.strongRecOn with
    | ind k9 ih6 =>
      intro i n i1 i2 i3 hk9 H locs ls hP hD hS hl
      refine lv_iload hx hb d_H_countSeenIn_6 (lv_at hl 1 rfl) ?_
      refine lv_aload_n hx hb d_H_countSeenIn_8 rfl (lv_at hl 2 rfl) ?_
      obtain ⟨qp1, ep2⟩ := plv (dA := dA) (h := h) (ad := ad) (x := x) m1
      refine gFN (v := .int (nI P.n)) hx hb hown hE hK hP qp1 ep2 rfl layC 3 (by decide) w1176 rfl d_H_countSeenIn_9 ?_
      refine lv_icmp_ge hx hb d_H_countSeenIn_12 (tgt := 46) rfl (fun g3 => ?_) (fun g3 => ?_)
      · have g3 := (nI_leI (a := P.n) (b := i) (by omega) (by omega)).mp g3
        refine lv_iload hx hb d_H_countSeenIn_46 (lv_at hl 0 rfl) ?_
        exact rfI hx hb hr hlk hS () (by rw [i2, show i = P.n by omega]) hP hD (Nat.le_of_ble_eq_true rfl) (Nat.le_of_ble_eq_true rfl) d_H_countSeenIn_48
      · have g3 := mt (nI_leI (a := P.n) (b := i) (by omega) (by omega)).mpr g3
        refine lv_aload_n hx hb d_H_countSeenIn_15 rfl (lv_at hl 2 rfl) ?_
        obtain ⟨qp4, ep5⟩ := plv (dA := dA) (h := h) (ad := ad) (x := x) m1
        refine gFN (v := .ref pt) hx hb hown hE hK hP qp4 ep5 rfl layC 1 (by decide) w1170 rfl d_H_countSeenIn_16 ?_
        refine lv_iload hx hb d_H_countSeenIn_19 (lv_at hl 1 rfl) ?_
        obtain ⟨qp6, ep7⟩ := plv (dA := dA) (h := h) (ad := ad) (x := x) m3
        refine nlld (f := P.t) (n := P.n) hx hb hK hP qp6 2 ep7 rfl (i) (by omega) (by omega) d_H_countSeenIn_21 ?_
        refine lv_lload_n hx hb d_H_countSeenIn_22 rfl (lv_at hl 3 rfl) ?_
        refine W.lcmp hx hb d_H_countSeenIn_23 ?_
        refine lv_if_gt hx hb d_H_countSeenIn_24 (tgt := 40) rfl (fun g8 => ?_) (fun g8 => ?_)
        · have g8 := (lg_cmp_gt _ _).mp g8
          refine lv_iinc (k := 1) (v := nI (i + 1)) hx hb d_H_countSeenIn_40 hl rfl (iincN (i) 1 1 (by decide)) (by decide) rfl (fun ls hl => ?_)
          have hl : lv_has ls 6 [(5, .int (nI (i + 1))), (4, .int (nI n)), (1, .ref pp), (2, .long a), (0, .ref (ad 3))] := hl
          refine lv_goto hx hb d_H_countSeenIn_43 (tgt := 6) rfl ?_
          exact ih6 _ (by omega) (i + 1) n (by omega) (by rw [cnt_f (show x.siPc P a i = false by unfold VS.siPc; rw [decide_eq_true g8]; rfl), i2]) (by omega) rfl H _ ls hP hD hS (lv_sub hl [1, 0, 2, 3, 4] rfl)
        · have g8 := mt (lg_cmp_gt _ _).mpr g8
          refine lv_aload_n hx hb d_H_countSeenIn_27 rfl (lv_at hl 4 rfl) ?_
          refine lv_aload_n hx hb d_H_countSeenIn_28 rfl (lv_at hl 2 rfl) ?_
          refine lv_iload hx hb d_H_countSeenIn_29 (lv_at hl 1 rfl) ?_
          refine jfI (rnV (As := [.ref pp, .int (nI i)]) (rest := []) hx hb hml hown hE hK (hN _ _ hS) hP hD (v_sees l D dA H.size h ad x pp P i hpp0 hpk (show x.nsc ≤ 64 from by omega) h7 (show i < P.n from by omega)) (q0 := 17) rfl rfl w1178 w1177 w1179 w1180 w583 rfl rfl ⟨⟨by decide, by decide⟩, rfl⟩ ⟨(Nat.le_of_ble_eq_true rfl), (Nat.le_of_ble_eq_true rfl)⟩ rfl hl.1 rfl (Nat.le_of_ble_eq_true rfl) d_H_countSeenIn_31 ⟨(Nat.le_of_ble_eq_true rfl), (Nat.le_of_ble_eq_true rfl)⟩) hP hD hS hA (fun r9 u10 H locs hp9 hP hD hS => ?_)
          have hP : va_P D vwCl (VW dA h ad x) H := hP
          have hD : va_D A (VW dA h ad x) := hD
          replace hp9 : bI (x.sePc P i) = r9 := Eq.symm hp9
          subst hp9
          refine lv_if_eq hx hb d_H_countSeenIn_34 (tgt := 40) rfl (fun g11 => ?_) (fun g11 => ?_)
          · have g11 := bI_0 g11
            refine lv_iinc (k := 1) (v := nI (i + 1)) hx hb d_H_countSeenIn_40 hl rfl (iincN (i) 1 1 (by decide)) (by decide) rfl (fun ls hl => ?_)
            have hl : lv_has ls 6 [(5, .int (nI (i + 1))), (4, .int (nI n)), (1, .ref pp), (2, .long a), (0, .ref (ad 3))] := hl
            refine lv_goto hx hb d_H_countSeenIn_43 (tgt := 6) rfl ?_
            exact ih6 _ (by omega) (i + 1) n (by omega) (by rw [cnt_f (show x.siPc P a i = false by unfold VS.siPc; rw [g11, Bool.and_false]), i2]) (by omega) rfl H _ ls hP hD hS (lv_sub hl [1, 0, 2, 3, 4] rfl)
          · have g11 := bI_n0 g11
            refine lv_iinc (k := 0) (v := nI (n + 1)) hx hb d_H_countSeenIn_37 hl rfl (iincN (n) 1 1 (by decide)) (by decide) rfl (fun ls hl => ?_)
            have hl : lv_has ls 6 [(4, .int (nI (n + 1))), (5, .int (nI i)), (1, .ref pp), (2, .long a), (0, .ref (ad 3))] := hl
            refine lv_iinc (k := 1) (v := nI (i + 1)) hx hb d_H_countSeenIn_40 hl rfl (iincN (i) 1 1 (by decide)) (by decide) rfl (fun ls hl => ?_)
            have hl : lv_has ls 6 [(5, .int (nI (i + 1))), (4, .int (nI (n + 1))), (1, .ref pp), (2, .long a), (0, .ref (ad 3))] := hl
            refine lv_goto hx hb d_H_countSeenIn_43 (tgt := 6) rfl ?_
            exact ih6 _ (by omega) (i + 1) (n + 1) (by omega) (by rw [cnt_t (show x.siPc P a i = true by unfold VS.siPc; rw [decide_eq_false g8, g11]; rfl), i2]) (by omega) rfl H _ ls hP hD hS (lv_sub hl [1, 0, 2, 3, 4] rfl)
  exact L6 _ 0 0 (Nat.zero_le _) rfl (Nat.le_refl _) rfl H _ ls hP hD hS (lv_sub hl [1, 0, 3, 4, 2] rfl)
theorem d_H_countSeenOfOwner_0 : decode prog_9_method_20_code 0 = .ok (.iconst 0, 1) := by decide +kernel
theorem d_H_countSeenOfOwner_1 : decode prog_9_method_20_code 1 = .ok (.istore 7, 2) := by decide +kernel
theorem d_H_countSeenOfOwner_3 : decode prog_9_method_20_code 3 = .ok (.iconst 0, 1) := by decide +kernel
theorem d_H_countSeenOfOwner_4 : decode prog_9_method_20_code 4 = .ok (.istore 8, 2) := by decide +kernel
theorem d_H_countSeenOfOwner_6 : decode prog_9_method_20_code 6 = .ok (.iload 8, 2) := by decide +kernel
theorem d_H_countSeenOfOwner_8 : decode prog_9_method_20_code 8 = .ok (.aload_n 1, 1) := by decide +kernel
theorem d_H_countSeenOfOwner_9 : decode prog_9_method_20_code 9 = .ok (.getfield 84, 3) := by decide +kernel
theorem d_H_countSeenOfOwner_12 : decode prog_9_method_20_code 12 = .ok (.if_icmp .ge 57, 3) := by decide +kernel
theorem d_H_countSeenOfOwner_69 : decode prog_9_method_20_code 69 = .ok (.iload 7, 2) := by decide +kernel
theorem d_H_countSeenOfOwner_71 : decode prog_9_method_20_code 71 = .ok (.ireturn, 1) := by decide +kernel
theorem d_H_countSeenOfOwner_15 : decode prog_9_method_20_code 15 = .ok (.aload_n 1, 1) := by decide +kernel
theorem d_H_countSeenOfOwner_16 : decode prog_9_method_20_code 16 = .ok (.getfield 90, 3) := by decide +kernel
theorem d_H_countSeenOfOwner_19 : decode prog_9_method_20_code 19 = .ok (.iload 8, 2) := by decide +kernel
theorem d_H_countSeenOfOwner_21 : decode prog_9_method_20_code 21 = .ok (.laload, 1) := by decide +kernel
theorem d_H_countSeenOfOwner_22 : decode prog_9_method_20_code 22 = .ok (.lstore 9, 2) := by decide +kernel
theorem d_H_countSeenOfOwner_24 : decode prog_9_method_20_code 24 = .ok (.aload_n 1, 1) := by decide +kernel
theorem d_H_countSeenOfOwner_25 : decode prog_9_method_20_code 25 = .ok (.getfield 87, 3) := by decide +kernel
theorem d_H_countSeenOfOwner_28 : decode prog_9_method_20_code 28 = .ok (.iload 8, 2) := by decide +kernel
theorem d_H_countSeenOfOwner_30 : decode prog_9_method_20_code 30 = .ok (.iaload, 1) := by decide +kernel
theorem d_H_countSeenOfOwner_31 : decode prog_9_method_20_code 31 = .ok (.iload_n 2, 1) := by decide +kernel
theorem d_H_countSeenOfOwner_32 : decode prog_9_method_20_code 32 = .ok (.if_icmp .ne 31, 3) := by decide +kernel
theorem d_H_countSeenOfOwner_63 : decode prog_9_method_20_code 63 = .ok (.iinc 8 1, 3) := by decide +kernel
theorem d_H_countSeenOfOwner_66 : decode prog_9_method_20_code 66 = .ok (.goto (-60), 3) := by decide +kernel
theorem d_H_countSeenOfOwner_35 : decode prog_9_method_20_code 35 = .ok (.lload 9, 2) := by decide +kernel
theorem d_H_countSeenOfOwner_37 : decode prog_9_method_20_code 37 = .ok (.lload_n 3, 1) := by decide +kernel
theorem d_H_countSeenOfOwner_38 : decode prog_9_method_20_code 38 = .ok (.lcmp, 1) := by decide +kernel
theorem d_H_countSeenOfOwner_39 : decode prog_9_method_20_code 39 = .ok (.ifCond .lt 24, 3) := by decide +kernel
theorem d_H_countSeenOfOwner_42 : decode prog_9_method_20_code 42 = .ok (.lload 9, 2) := by decide +kernel
theorem d_H_countSeenOfOwner_44 : decode prog_9_method_20_code 44 = .ok (.lload 5, 2) := by decide +kernel
theorem d_H_countSeenOfOwner_46 : decode prog_9_method_20_code 46 = .ok (.lcmp, 1) := by decide +kernel
theorem d_H_countSeenOfOwner_47 : decode prog_9_method_20_code 47 = .ok (.ifCond .gt 16, 3) := by decide +kernel
theorem d_H_countSeenOfOwner_50 : decode prog_9_method_20_code 50 = .ok (.aload_n 0, 1) := by decide +kernel
theorem d_H_countSeenOfOwner_51 : decode prog_9_method_20_code 51 = .ok (.aload_n 1, 1) := by decide +kernel
theorem d_H_countSeenOfOwner_52 : decode prog_9_method_20_code 52 = .ok (.iload 8, 2) := by decide +kernel
theorem d_H_countSeenOfOwner_54 : decode prog_9_method_20_code 54 = .ok (.invokevirtual 103, 3) := by decide +kernel
theorem d_H_countSeenOfOwner_57 : decode prog_9_method_20_code 57 = .ok (.ifCond .eq 6, 3) := by decide +kernel
theorem d_H_countSeenOfOwner_60 : decode prog_9_method_20_code 60 = .ok (.iinc 7 1, 3) := by decide +kernel
set_option maxHeartbeats 4000000 in
set_option maxRecDepth 100000 in
theorem v_countSeenOfOwner (l : Launch) (D : va_G) (dA : Nat → ClassId) (sz : Nat) (h : Nat) (ad : Nat → Nat) (x : VS) (pp : Nat) (P : PT) (w : Nat) (a : Int64) (b : Int64) (hpp : isPc dA x.pl pp P) (hpk : pcOk P) (h1 : x.nsc ≤ 64) (h7 : ∀ q : Nat, q < x.nsc → x.nsO q < 2 ^ 31) (hw : w < 256) : Met l ⟨"SeriesVault$Shelf", "countSeenOfOwner", "(LSeriesVault$Parcel;IJJ)I"⟩ [Cond.code ⟨"SeriesVault$Shelf", "countSeenOfOwner", "(LSeriesVault$Parcel;IJJ)I"⟩ prog_9_method_20_code 11 (some FieldType.int)] { frames := 3, cells := 0, slots := 0, locals := 46 } (pC D dA [.ref (ad 3), .ref pp, .int (nI w), .long a, .long b] (VW dA h ad x) sz) (va_Qi (fun (r9 : Int32) (u9 : Unit) => r9 = nI (cnt P.n (x.soPc P w a b))) (fun (u9 : Unit) t9 => bW D (va_A (VW dA h ad x) sz) (VW dA h ad x) t9) (va_A (VW dA h ad x) sz)) 0 0 (va_A (VW dA h ad x) sz) := by
  refine mkC (y := ⟨"SeriesVault$Shelf", "countSeenOfOwner", "(LSeriesVault$Parcel;IJJ)I"⟩) (cc := prog_9_method_20_code) (maxL := 11) (av := [.ref (ad 3), .ref pp, .int (nI w), .long a, .long b]) (ws := VW dA h ad x) (sz := sz) (Qc := fun A => va_Qi (fun (r9 : Int32) (u9 : Unit) => r9 = nI (cnt P.n (x.soPc P w a b))) (fun (u9 : Unit) t9 => bW D A (VW dA h ad x) t9) A) (by decide) (Nat.le_of_ble_eq_true rfl) ?_
  intro A p e s m below meth c ls hsz hB
  obtain ⟨hx, hb, hr, hml, hown, hin, hlk, hE, hK, hP, hD, hS, hA, hN, hl⟩ := hB
  have hown : s.vm.findClass "SeriesVault$Shelf" = some m.cls := hown
  have hl : lv_has ls 11 [(0, .ref (ad 3)), (1, .ref pp), (2, .int (nI w)), (3, .long a), (5, .long b)] := hl
  obtain ⟨H, hH⟩ : ∃ z, z = s.heap := ⟨_, rfl⟩
  have hP : va_P D vwCl (VW dA h ad x) H := by rw [hH]; exact hP
  have hS : va_S A s.heap H [] := by rw [hH]; exact hS
  rw [← hH]
  have pk1 := hpk.1
  have pk2 := hpk.2
  have hpp0 := hpp
  obtain ⟨po, pt, pv, m1, m2, m3, m4⟩ := hpp
  refine lv_iconst (v := 0) hx hb d_H_countSeenOfOwner_0 (by decide) ?_
  refine lv_istore hx hb d_H_countSeenOfOwner_1 hl (by decide) rfl (fun ls hl => ?_)
  have hl : lv_has ls 11 [(7, .int 0), (0, .ref (ad 3)), (1, .ref pp), (2, .int (nI w)), (3, .long a), (5, .long b)] := hl
  refine lv_iconst (v := 0) hx hb d_H_countSeenOfOwner_3 (by decide) ?_
  refine lv_istore hx hb d_H_countSeenOfOwner_4 hl (by decide) rfl (fun ls hl => ?_)
  have hl : lv_has ls 11 [(8, .int 0), (7, .int 0), (0, .ref (ad 3)), (1, .ref pp), (2, .int (nI w)), (3, .long a), (5, .long b)] := hl
  have L6 : ∀ (k9 : Nat) (i : Nat) (n : Nat) (i1 : i ≤ P.n) (i2 : n = cnt i (x.soPc P w a b)) (i3 : n ≤ i) (hk9 : P.n - i = k9), ∀ (H : Heap) (locs : List Loc) (ls : Array Slot) (hP : va_P D vwCl (VW dA h ad x) H) (hD : va_D A (VW dA h ad x)) (hS : va_S A s.heap H locs) (hl : lv_has ls 11 [(7, .int (nI n)), (8, .int (nI i)), (1, .ref pp), (2, .int (nI w)), (3, .long a), (5, .long b), (0, .ref (ad 3))]), W p l e ({ frames := 3, cells := 0, slots := 0, locals := 46 } : Room) s m ([.ref (ad 3), .ref pp, .int (nI w), .long a, .long b] : List Value).toArray below meth c H locs 0 0 (MQ below (va_Qi (fun (r9 : Int32) (u9 : Unit) => r9 = nI (cnt P.n (x.soPc P w a b))) (fun (u9 : Unit) t9 => bW D A (VW dA h ad x) t9) A) ([.ref (ad 3), .ref pp, .int (nI w), .long a, .long b] : List Value).toArray s 0 0 A) (F0 m 6 ls []) := by
    intro k9
    induction k9 using Nat.strongRecOn with
    | ind k9 ih6 =>
      intro i n i1 i2 i3 hk9 H locs ls hP hD hS hl
      refine lv_iload hx hb d_H_countSeenOfOwner_6 (lv_at hl 1 rfl) ?_
      refine lv_aload_n hx hb d_H_countSeenOfOwner_8 rfl (lv_at hl 2 rfl) ?_
      obtain ⟨qp1, ep2⟩ := plv (dA := dA) (h := h) (ad := ad) (x := x) m1
      refine gFN (v := .int (nI P.n)) hx hb hown hE hK hP qp1 ep2 rfl layC 3 (by decide) w1176 rfl d_H_countSeenOfOwner_9 ?_
      refine lv_icmp_ge hx hb d_H_countSeenOfOwner_12 (tgt := 69) rfl (fun g3 => ?_) (fun g3 => ?_)
      · have g3 := (nI_leI (a := P.n) (b := i) (by omega) (by omega)).mp g3
        refine lv_iload hx hb d_H_countSeenOfOwner_69 (lv_at hl 0 rfl) ?_
        exact rfI hx hb hr hlk hS () (by rw [i2, show i = P.n by omega]) hP hD (Nat.le_of_ble_eq_true rfl) (Nat.le_of_ble_eq_true rfl) d_H_countSeenOfOwner_71
      · have g3 := mt (nI_leI (a := P.n) (b := i) (by omega) (by omega)).mpr g3
        have pk3 := pk2 i (by omega)
        refine lv_aload_n hx hb d_H_countSeenOfOwner_15 rfl (lv_at hl 2 rfl) ?_
        obtain ⟨qp4, ep5⟩ := plv (dA := dA) (h := h) (ad := ad) (x := x) m1
        refine gFN (v := .ref pt) hx hb hown hE hK hP qp4 ep5 rfl layC 1 (by decide) w1170 rfl d_H_countSeenOfOwner_16 ?_
        refine lv_iload hx hb d_H_countSeenOfOwner_19 (lv_at hl 1 rfl) ?_
        obtain ⟨qp6, ep7⟩ := plv (dA := dA) (h := h) (ad := ad) (x := x) m3
        refine nlld (f := P.t) (n := P.n) hx hb hK hP qp6 2 ep7 rfl (i) (by omega) (by omega) d_H_countSeenOfOwner_21 ?_
        refine lv_lstore hx hb d_H_countSeenOfOwner_22 hl (by decide) rfl (fun ls hl => ?_)
        have hl : lv_has ls 11 [(9, .long (P.t i)), (7, .int (nI n)), (8, .int (nI i)), (1, .ref pp), (2, .int (nI w)), (3, .long a), (5, .long b), (0, .ref (ad 3))] := hl
        refine lv_aload_n hx hb d_H_countSeenOfOwner_24 rfl (lv_at hl 3 rfl) ?_
        obtain ⟨qp8, ep9⟩ := plv (dA := dA) (h := h) (ad := ad) (x := x) m1
        refine gFN (v := .ref po) hx hb hown hE hK hP qp8 ep9 rfl layC 0 (by decide) w1171 rfl d_H_countSeenOfOwner_25 ?_
        refine lv_iload hx hb d_H_countSeenOfOwner_28 (lv_at hl 2 rfl) ?_
        obtain ⟨qp10, ep11⟩ := plv (dA := dA) (h := h) (ad := ad) (x := x) m2
        refine nild (f := (fun k => nI (P.o k))) (n := P.n) hx hb hK hP qp10 1 ep11 rfl (i) (by omega) (by omega) d_H_countSeenOfOwner_30 ?_
        refine lv_iload_n hx hb d_H_countSeenOfOwner_31 rfl (lv_at hl 4 rfl) ?_
        refine lv_icmp_ne hx hb d_H_countSeenOfOwner_32 (tgt := 63) rfl (fun g12 => ?_) (fun g12 => ?_)
        · have g12 := mt (nI_eq (a := P.o i) (b := w) (by omega) (by omega)).mpr g12
          refine lv_iinc (k := 2) (v := nI (i + 1)) hx hb d_H_countSeenOfOwner_63 hl rfl (iincN (i) 1 1 (by decide)) (by decide) rfl (fun ls hl => ?_)
          have hl : lv_has ls 11 [(8, .int (nI (i + 1))), (9, .long (P.t i)), (7, .int (nI n)), (1, .ref pp), (2, .int (nI w)), (3, .long a), (5, .long b), (0, .ref (ad 3))] := hl
          refine lv_goto hx hb d_H_countSeenOfOwner_66 (tgt := 6) rfl ?_
          exact ih6 _ (by omega) (i + 1) n (by omega) (by rw [cnt_f (show x.soPc P w a b i = false by unfold VS.soPc; rw [decide_eq_false g12]; rfl), i2]) (by omega) rfl H _ ls hP hD hS (lv_sub hl [2, 0, 3, 4, 5, 6, 7] rfl)
        · have g12 := (nI_eq (a := P.o i) (b := w) (by omega) (by omega)).mp g12
          refine lv_lload hx hb d_H_countSeenOfOwner_35 (lv_at hl 0 rfl) ?_
          refine lv_lload_n hx hb d_H_countSeenOfOwner_37 rfl (lv_at hl 5 rfl) ?_
          refine W.lcmp hx hb d_H_countSeenOfOwner_38 ?_
          refine lv_if_lt hx hb d_H_countSeenOfOwner_39 (tgt := 63) rfl (fun g13 => ?_) (fun g13 => ?_)
          · have g13 := (lg_cmp_lt _ _).mp g13
            refine lv_iinc (k := 2) (v := nI (i + 1)) hx hb d_H_countSeenOfOwner_63 hl rfl (iincN (i) 1 1 (by decide)) (by decide) rfl (fun ls hl => ?_)
            have hl : lv_has ls 11 [(8, .int (nI (i + 1))), (9, .long (P.t i)), (7, .int (nI n)), (1, .ref pp), (2, .int (nI w)), (3, .long a), (5, .long b), (0, .ref (ad 3))] := hl
            refine lv_goto hx hb d_H_countSeenOfOwner_66 (tgt := 6) rfl ?_
            exact ih6 _ (by omega) (i + 1) n (by omega) (by rw [cnt_f (show x.soPc P w a b i = false by unfold VS.soPc; rw [decide_eq_true g12, decide_eq_true g13]; rfl), i2]) (by omega) rfl H _ ls hP hD hS (lv_sub hl [2, 0, 3, 4, 5, 6, 7] rfl)
          · have g13 := mt (lg_cmp_lt _ _).mpr g13
            refine lv_lload hx hb d_H_countSeenOfOwner_42 (lv_at hl 0 rfl) ?_
            refine lv_lload hx hb d_H_countSeenOfOwner_44 (lv_at hl 6 rfl) ?_
            refine W.lcmp hx hb d_H_countSeenOfOwner_46 ?_
            refine lv_if_gt hx hb d_H_countSeenOfOwner_47 (tgt := 63) rfl (fun g14 => ?_) (fun g14 => ?_)
            · have g14 := (lg_cmp_gt _ _).mp g14
              refine lv_iinc (k := 2) (v := nI (i + 1)) hx hb d_H_countSeenOfOwner_63 hl rfl (iincN (i) 1 1 (by decide)) (by decide) rfl (fun ls hl => ?_)
              have hl : lv_has ls 11 [(8, .int (nI (i + 1))), (9, .long (P.t i)), (7, .int (nI n)), (1, .ref pp), (2, .int (nI w)), (3, .long a), (5, .long b), (0, .ref (ad 3))] := hl
              refine lv_goto hx hb d_H_countSeenOfOwner_66 (tgt := 6) rfl ?_
              exact ih6 _ (by omega) (i + 1) n (by omega) (by rw [cnt_f (show x.soPc P w a b i = false by unfold VS.soPc; rw [decide_eq_true g12, decide_eq_false g13, decide_eq_true g14]; rfl), i2]) (by omega) rfl H _ ls hP hD hS (lv_sub hl [2, 0, 3, 4, 5, 6, 7] rfl)
            · have g14 := mt (lg_cmp_gt _ _).mpr g14
              refine lv_aload_n hx hb d_H_countSeenOfOwner_50 rfl (lv_at hl 7 rfl) ?_
              refine lv_aload_n hx hb d_H_countSeenOfOwner_51 rfl (lv_at hl 3 rfl) ?_
              refine lv_iload hx hb d_H_countSeenOfOwner_52 (lv_at hl 2 rfl) ?_
              refine jfI (rnV (As := [.ref pp, .int (nI i)]) (rest := []) hx hb hml hown hE hK (hN _ _ hS) hP hD (v_sees l D dA H.size h ad x pp P i hpp0 hpk (show x.nsc ≤ 64 from by omega) h7 (show i < P.n from by omega)) (q0 := 17) rfl rfl w1178 w1177 w1179 w1180 w583 rfl rfl ⟨⟨by decide, by decide⟩, rfl⟩ ⟨(Nat.le_of_ble_eq_true rfl), (Nat.le_of_ble_eq_true rfl)⟩ rfl hl.1 rfl (Nat.le_of_ble_eq_true rfl) d_H_countSeenOfOwner_54 ⟨(Nat.le_of_ble_eq_true rfl), (Nat.le_of_ble_eq_true rfl)⟩) hP hD hS hA (fun r15 u16 H locs hp9 hP hD hS => ?_)
              have hP : va_P D vwCl (VW dA h ad x) H := hP
              have hD : va_D A (VW dA h ad x) := hD
              replace hp9 : bI (x.sePc P i) = r15 := Eq.symm hp9
              subst hp9
              refine lv_if_eq hx hb d_H_countSeenOfOwner_57 (tgt := 63) rfl (fun g17 => ?_) (fun g17 => ?_)
              · have g17 := bI_0 g17
                refine lv_iinc (k := 2) (v := nI (i + 1)) hx hb d_H_countSeenOfOwner_63 hl rfl (iincN (i) 1 1 (by decide)) (by decide) rfl (fun ls hl => ?_)
                have hl : lv_has ls 11 [(8, .int (nI (i + 1))), (9, .long (P.t i)), (7, .int (nI n)), (1, .ref pp), (2, .int (nI w)), (3, .long a), (5, .long b), (0, .ref (ad 3))] := hl
                refine lv_goto hx hb d_H_countSeenOfOwner_66 (tgt := 6) rfl ?_
                exact ih6 _ (by omega) (i + 1) n (by omega) (by rw [cnt_f (show x.soPc P w a b i = false by unfold VS.soPc; rw [decide_eq_true g12, decide_eq_false g13, decide_eq_false g14, g17]; rfl), i2]) (by omega) rfl H _ ls hP hD hS (lv_sub hl [2, 0, 3, 4, 5, 6, 7] rfl)
              · have g17 := bI_n0 g17
                refine lv_iinc (k := 1) (v := nI (n + 1)) hx hb d_H_countSeenOfOwner_60 hl rfl (iincN (n) 1 1 (by decide)) (by decide) rfl (fun ls hl => ?_)
                have hl : lv_has ls 11 [(7, .int (nI (n + 1))), (9, .long (P.t i)), (8, .int (nI i)), (1, .ref pp), (2, .int (nI w)), (3, .long a), (5, .long b), (0, .ref (ad 3))] := hl
                refine lv_iinc (k := 2) (v := nI (i + 1)) hx hb d_H_countSeenOfOwner_63 hl rfl (iincN (i) 1 1 (by decide)) (by decide) rfl (fun ls hl => ?_)
                have hl : lv_has ls 11 [(8, .int (nI (i + 1))), (7, .int (nI (n + 1))), (9, .long (P.t i)), (1, .ref pp), (2, .int (nI w)), (3, .long a), (5, .long b), (0, .ref (ad 3))] := hl
                refine lv_goto hx hb d_H_countSeenOfOwner_66 (tgt := 6) rfl ?_
                exact ih6 _ (by omega) (i + 1) (n + 1) (by omega) (by rw [cnt_t (show x.soPc P w a b i = true by unfold VS.soPc; rw [decide_eq_true g12, decide_eq_false g13, decide_eq_false g14, g17]; rfl), i2]) (by omega) rfl H _ ls hP hD hS (lv_sub hl [1, 0, 3, 4, 5, 6, 7] rfl)
  exact L6 _ 0 0 (Nat.zero_le _) rfl (Nat.le_refl _) rfl H _ ls hP hD hS (lv_sub hl [1, 0, 3, 4, 5, 6, 2] rfl)
theorem d_H_countSeenOf_0 : decode prog_9_method_15_code 0 = .ok (.aload_n 0, 1) := by decide +kernel
theorem d_H_countSeenOf_1 : decode prog_9_method_15_code 1 = .ok (.aload_n 1, 1) := by decide +kernel
theorem d_H_countSeenOf_2 : decode prog_9_method_15_code 2 = .ok (.ldc2_w 97, 3) := by decide +kernel
theorem d_H_countSeenOf_5 : decode prog_9_method_15_code 5 = .ok (.invokevirtual 99, 3) := by decide +kernel
theorem d_H_countSeenOf_8 : decode prog_9_method_15_code 8 = .ok (.ireturn, 1) := by decide +kernel
theorem w1181 : Cond.constantLong "SeriesVault$Shelf" 97 1099511627775 ∈ aW := aw_of (tb_8 (List.mem_of_getElem? (i := 130) rfl)) rfl
theorem w1182 : Cond.methodLink "SeriesVault$Shelf" 99 ⟨"SeriesVault$Shelf", "countSeenIn", "(LSeriesVault$Parcel;J)I"⟩ ∈ aW := aw_of (tb_6 (List.mem_of_getElem? (i := 158) rfl)) rfl
theorem w1183 : Cond.code ⟨"SeriesVault$Shelf", "countSeenIn", "(LSeriesVault$Parcel;J)I"⟩ prog_9_method_16_code 6 (some FieldType.int) ∈ aW := aw_of (tb_6 (List.mem_of_getElem? (i := 161) rfl)) rfl
theorem w1184 : Cond.instanceMethod ⟨"SeriesVault$Shelf", "countSeenIn", "(LSeriesVault$Parcel;J)I"⟩ ∈ aW := aw_of (tb_6 (List.mem_of_getElem? (i := 160) rfl)) rfl
theorem w1185 : Cond.selects "SeriesVault$Shelf" ⟨"SeriesVault$Shelf", "countSeenIn", "(LSeriesVault$Parcel;J)I"⟩ ⟨"SeriesVault$Shelf", "countSeenIn", "(LSeriesVault$Parcel;J)I"⟩ ∈ aW := aw_pr (List.mem_map.mpr ⟨_, pv_3 (List.mem_of_getElem? (i := 1) rfl), rfl⟩) rfl
set_option maxHeartbeats 4000000 in
set_option maxRecDepth 100000 in
theorem v_countSeenOf (l : Launch) (D : va_G) (dA : Nat → ClassId) (sz : Nat) (h : Nat) (ad : Nat → Nat) (x : VS) (pp : Nat) (P : PT) (hpp : isPc dA x.pl pp P) (hpk : pcOk P) (h1 : x.nsc ≤ 64) (h7 : ∀ q : Nat, q < x.nsc → x.nsO q < 2 ^ 31) : Met l ⟨"SeriesVault$Shelf", "countSeenOf", "(LSeriesVault$Parcel;)I"⟩ [Cond.code ⟨"SeriesVault$Shelf", "countSeenOf", "(LSeriesVault$Parcel;)I"⟩ prog_9_method_15_code 2 (some FieldType.int)] { frames := 4, cells := 0, slots := 0, locals := 71 } (pC D dA [.ref (ad 3), .ref pp] (VW dA h ad x) sz) (va_Qi (fun (r9 : Int32) (u9 : Unit) => r9 = nI (cnt P.n (x.siPc P 1099511627775))) (fun (u9 : Unit) t9 => bW D (va_A (VW dA h ad x) sz) (VW dA h ad x) t9) (va_A (VW dA h ad x) sz)) 0 0 (va_A (VW dA h ad x) sz) := by
  refine mkC (y := ⟨"SeriesVault$Shelf", "countSeenOf", "(LSeriesVault$Parcel;)I"⟩) (cc := prog_9_method_15_code) (maxL := 2) (av := [.ref (ad 3), .ref pp]) (ws := VW dA h ad x) (sz := sz) (Qc := fun A => va_Qi (fun (r9 : Int32) (u9 : Unit) => r9 = nI (cnt P.n (x.siPc P 1099511627775))) (fun (u9 : Unit) t9 => bW D A (VW dA h ad x) t9) A) (by decide) (Nat.le_of_ble_eq_true rfl) ?_
  intro A p e s m below meth c ls hsz hB
  obtain ⟨hx, hb, hr, hml, hown, hin, hlk, hE, hK, hP, hD, hS, hA, hN, hl⟩ := hB
  have hown : s.vm.findClass "SeriesVault$Shelf" = some m.cls := hown
  have hl : lv_has ls 2 [(0, .ref (ad 3)), (1, .ref pp)] := hl
  obtain ⟨H, hH⟩ : ∃ z, z = s.heap := ⟨_, rfl⟩
  have hP : va_P D vwCl (VW dA h ad x) H := by rw [hH]; exact hP
  have hS : va_S A s.heap H [] := by rw [hH]; exact hS
  rw [← hH]
  refine lv_aload_n hx hb d_H_countSeenOf_0 rfl (lv_at hl 0 rfl) ?_
  refine lv_aload_n hx hb d_H_countSeenOf_1 rfl (lv_at hl 1 rfl) ?_
  refine lv_ldc2 (v := 1099511627775) hx hb hown (hE.t w1181 rfl) d_H_countSeenOf_2 ?_
  refine jfI (rnV (As := [.ref pp, .long 1099511627775]) (rest := []) hx hb hml hown hE hK (hN _ _ hS) hP hD (v_countSeenIn l D dA H.size h ad x pp P 1099511627775 hpp hpk (show x.nsc ≤ 64 from by omega) h7) (q0 := 17) rfl rfl w1183 w1182 w1184 w1185 w583 rfl rfl ⟨⟨by decide, by decide⟩, rfl⟩ ⟨(Nat.le_of_ble_eq_true rfl), (Nat.le_of_ble_eq_true rfl)⟩ rfl hl.1 rfl (Nat.le_of_ble_eq_true rfl) d_H_countSeenOf_5 ⟨(Nat.le_of_ble_eq_true rfl), (Nat.le_of_ble_eq_true rfl)⟩) hP hD hS hA (fun r1 u2 H locs hp9 hP hD hS => ?_)
  have hP : va_P D vwCl (VW dA h ad x) H := hP
  have hD : va_D A (VW dA h ad x) := hD
  replace hp9 : nI (cnt P.n (x.siPc P 1099511627775)) = r1 := Eq.symm hp9
  subst hp9
  exact rfI hx hb hr hlk hS () rfl hP hD (Nat.le_of_ble_eq_true rfl) (Nat.le_of_ble_eq_true rfl) d_H_countSeenOf_8
theorem d_H_countSeenBelow_14 : decode prog_9_method_18_code 14 = .ok (.iload_n 3, 1) := by decide +kernel
theorem d_H_countSeenBelow_15 : decode prog_9_method_18_code 15 = .ok (.aload_n 0, 1) := by decide +kernel
theorem d_H_countSeenBelow_16 : decode prog_9_method_18_code 16 = .ok (.aload_n 0, 1) := by decide +kernel
theorem d_H_countSeenBelow_17 : decode prog_9_method_18_code 17 = .ok (.getfield 11, 3) := by decide +kernel
theorem d_H_countSeenBelow_20 : decode prog_9_method_18_code 20 = .ok (.iload 4, 2) := by decide +kernel
theorem d_H_countSeenBelow_22 : decode prog_9_method_18_code 22 = .ok (.aaload, 1) := by decide +kernel
theorem d_H_countSeenBelow_23 : decode prog_9_method_18_code 23 = .ok (.lload_n 1, 1) := by decide +kernel
theorem d_H_countSeenBelow_24 : decode prog_9_method_18_code 24 = .ok (.lconst 1, 1) := by decide +kernel
theorem d_H_countSeenBelow_25 : decode prog_9_method_18_code 25 = .ok (.lsub, 1) := by decide +kernel
theorem d_H_countSeenBelow_26 : decode prog_9_method_18_code 26 = .ok (.invokevirtual 99, 3) := by decide +kernel
theorem d_H_countSeenBelow_29 : decode prog_9_method_18_code 29 = .ok (.iadd, 1) := by decide +kernel
theorem d_H_countSeenBelow_30 : decode prog_9_method_18_code 30 = .ok (.istore_n 3, 1) := by decide +kernel
theorem d_H_countSeenBelow_31 : decode prog_9_method_18_code 31 = .ok (.iinc 4 1, 3) := by decide +kernel
theorem d_H_countSeenBelow_34 : decode prog_9_method_18_code 34 = .ok (.goto (-29), 3) := by decide +kernel
set_option maxHeartbeats 4000000 in
set_option maxRecDepth 100000 in
theorem v_countSeenBelow (l : Launch) (D : va_G) (dA : Nat → ClassId) (sz : Nat) (h : Nat) (ad : Nat → Nat) (x : VS) (PS : Nat → PT) (a : Int64) (hps : psOk dA x.nP x.npc x.pl PS) (hpn : x.npc ≤ 32) (h1 : x.nsc ≤ 64) (h7 : ∀ q : Nat, q < x.nsc → x.nsO q < 2 ^ 31) : Met l ⟨"SeriesVault$Shelf", "countSeenBelow", "(J)I"⟩ [Cond.code ⟨"SeriesVault$Shelf", "countSeenBelow", "(J)I"⟩ prog_9_method_18_code 5 (some FieldType.int)] { frames := 4, cells := 0, slots := 0, locals := 71 } (pC D dA [.ref (ad 3), .long a] (VW dA h ad x) sz) (va_Qi (fun (r9 : Int32) (u9 : Unit) => r9 = nI (sumN x.npc (x.sbN PS (a - 1)))) (fun (u9 : Unit) t9 => bW D (va_A (VW dA h ad x) sz) (VW dA h ad x) t9) (va_A (VW dA h ad x) sz)) 0 0 (va_A (VW dA h ad x) sz) := by
  refine mkC (y := ⟨"SeriesVault$Shelf", "countSeenBelow", "(J)I"⟩) (cc := prog_9_method_18_code) (maxL := 5) (av := [.ref (ad 3), .long a]) (ws := VW dA h ad x) (sz := sz) (Qc := fun A => va_Qi (fun (r9 : Int32) (u9 : Unit) => r9 = nI (sumN x.npc (x.sbN PS (a - 1)))) (fun (u9 : Unit) t9 => bW D A (VW dA h ad x) t9) A) (by decide) (Nat.le_of_ble_eq_true rfl) ?_
  intro A p e s m below meth c ls hsz hB
  obtain ⟨hx, hb, hr, hml, hown, hin, hlk, hE, hK, hP, hD, hS, hA, hN, hl⟩ := hB
  have hown : s.vm.findClass "SeriesVault$Shelf" = some m.cls := hown
  have hl : lv_has ls 5 [(0, .ref (ad 3)), (1, .long a)] := hl
  obtain ⟨H, hH⟩ : ∃ z, z = s.heap := ⟨_, rfl⟩
  have hP : va_P D vwCl (VW dA h ad x) H := by rw [hH]; exact hP
  have hS : va_S A s.heap H [] := by rw [hH]; exact hS
  rw [← hH]
  refine lv_iconst (v := 0) hx hb d_H_countSeenBelow_0 (by decide) ?_
  refine lv_istore_n hx hb d_H_countSeenBelow_1 rfl hl (by decide) rfl (fun ls hl => ?_)
  have hl : lv_has ls 5 [(3, .int 0), (0, .ref (ad 3)), (1, .long a)] := hl
  refine lv_iconst (v := 0) hx hb d_H_countSeenBelow_2 (by decide) ?_
  refine lv_istore hx hb d_H_countSeenBelow_3 hl (by decide) rfl (fun ls hl => ?_)
  have hl : lv_has ls 5 [(4, .int 0), (3, .int 0), (0, .ref (ad 3)), (1, .long a)] := hl
  have L5 : ∀ (k9 : Nat) (k : Nat) (n : Nat) (i1 : k ≤ x.npc) (i2 : n = sumN k (x.sbN PS (a - 1))) (i3 : n ≤ 12000 * k) (hk9 : x.npc - k = k9), ∀ (H : Heap) (locs : List Loc) (ls : Array Slot) (hP : va_P D vwCl (VW dA h ad x) H) (hD : va_D A (VW dA h ad x)) (hS : va_S A s.heap H locs) (hl : lv_has ls 5 [(3, .int (nI n)), (4, .int (nI k)), (1, .long a), (0, .ref (ad 3))]), W p l e ({ frames := 4, cells := 0, slots := 0, locals := 71 } : Room) s m ([.ref (ad 3), .long a] : List Value).toArray below meth c H locs 0 0 (MQ below (va_Qi (fun (r9 : Int32) (u9 : Unit) => r9 = nI (sumN x.npc (x.sbN PS (a - 1)))) (fun (u9 : Unit) t9 => bW D A (VW dA h ad x) t9) A) ([.ref (ad 3), .long a] : List Value).toArray s 0 0 A) (F0 m 5 ls []) := by
    intro k9
    induction k9 using Nat.strongRecOn with
    | ind k9 ih5 =>
      intro k n i1 i2 i3 hk9 H locs ls hP hD hS hl
      refine lv_iload hx hb d_H_countSeenBelow_5 (lv_at hl 1 rfl) ?_
      refine lv_aload_n hx hb d_H_countSeenBelow_7 rfl (lv_at hl 3 rfl) ?_
      refine gF (v := .int (nI x.npc)) hx hb hown hE hK hP 17 rfl rfl layH 1 (by decide) w566 rfl d_H_countSeenBelow_8 ?_
      refine lv_icmp_ge hx hb d_H_countSeenBelow_11 (tgt := 37) rfl (fun g1 => ?_) (fun g1 => ?_)
      · have g1 := (nI_leI (a := x.npc) (b := k) (by omega) (by omega)).mp g1
        refine lv_iload_n hx hb d_H_countSeenBelow_37 rfl (lv_at hl 0 rfl) ?_
        exact rfI hx hb hr hlk hS () (by rw [i2, show k = x.npc by omega]) hP hD (Nat.le_of_ble_eq_true rfl) (Nat.le_of_ble_eq_true rfl) d_H_countSeenBelow_38
      · have g1 := mt (nI_leI (a := x.npc) (b := k) (by omega) (by omega)).mpr g1
        obtain ⟨pp, ke, hpp, hpk⟩ := hps k (by omega)
        have hpp0 := hpp
        obtain ⟨po, pt, pv, m1, m2, m3, m4⟩ := hpp
        have pk1 := hpk.1
        refine lv_iload_n hx hb d_H_countSeenBelow_14 rfl (lv_at hl 0 rfl) ?_
        refine lv_aload_n hx hb d_H_countSeenBelow_15 rfl (lv_at hl 3 rfl) ?_
        refine lv_aload_n hx hb d_H_countSeenBelow_16 rfl (lv_at hl 3 rfl) ?_
        refine gF (v := .ref (ad 4)) hx hb hown hE hK hP 17 rfl rfl layH 0 (by decide) w199 rfl d_H_countSeenBelow_17 ?_
        refine lv_iload hx hb d_H_countSeenBelow_20 (lv_at hl 1 rfl) ?_
        refine nqld (f := x.nP) (n := 32) hx hb hK hP (18) 4 rfl rfl (k) (by omega) (by decide) ke d_H_countSeenBelow_22 ?_
        refine lv_lload_n hx hb d_H_countSeenBelow_23 rfl (lv_at hl 2 rfl) ?_
        refine lv_lconst (v := 1) hx hb d_H_countSeenBelow_24 (by decide) ?_
        refine lv_lsub hx hb d_H_countSeenBelow_25 ?_
        refine jfI (rnV (As := [.ref pp, .long (a - 1)]) (rest := [.int (nI n)]) hx hb hml hown hE hK (hN _ _ hS) hP hD (v_countSeenIn l D dA H.size h ad x pp (PS k) (a - 1) hpp0 hpk (show x.nsc ≤ 64 from by omega) h7) (q0 := 17) rfl rfl w1183 w1182 w1184 w1185 w583 rfl rfl ⟨⟨by decide, by decide⟩, rfl⟩ ⟨(Nat.le_of_ble_eq_true rfl), (Nat.le_of_ble_eq_true rfl)⟩ rfl hl.1 rfl (Nat.le_of_ble_eq_true rfl) d_H_countSeenBelow_26 ⟨(Nat.le_of_ble_eq_true rfl), (Nat.le_of_ble_eq_true rfl)⟩) hP hD hS hA (fun r2 u3 H locs hp9 hP hD hS => ?_)
        have hP : va_P D vwCl (VW dA h ad x) H := hP
        have hD : va_D A (VW dA h ad x) := hD
        replace hp9 : nI (cnt (PS k).n (x.siPc (PS k) (a - 1))) = r2 := Eq.symm hp9
        subst hp9
        refine lv_iadd hx hb d_H_countSeenBelow_29 (tpi (y := nI (n + (cnt (PS k).n (x.siPc (PS k) (a - 1))))) (nI_add (n) (cnt (PS k).n (x.siPc (PS k) (a - 1)))) ?_)
        refine lv_istore_n hx hb d_H_countSeenBelow_30 rfl hl (by decide) rfl (fun ls hl => ?_)
        have hl : lv_has ls 5 [(3, .int (nI (n + (cnt (PS k).n (x.siPc (PS k) (a - 1)))))), (4, .int (nI k)), (1, .long a), (0, .ref (ad 3))] := hl
        refine lv_iinc (k := 1) (v := nI (k + 1)) hx hb d_H_countSeenBelow_31 hl rfl (iincN (k) 1 1 (by decide)) (by decide) rfl (fun ls hl => ?_)
        have hl : lv_has ls 5 [(4, .int (nI (k + 1))), (3, .int (nI (n + (cnt (PS k).n (x.siPc (PS k) (a - 1)))))), (1, .long a), (0, .ref (ad 3))] := hl
        refine lv_goto hx hb d_H_countSeenBelow_34 (tgt := 5) rfl ?_
        exact ih5 _ (by omega) (k + 1) (n + (cnt (PS k).n (x.siPc (PS k) (a - 1)))) (by omega) (by rw [i2]; rfl) (by have := cnt_le (PS k).n (x.siPc (PS k) (a - 1)); omega) rfl H _ ls hP hD hS (lv_sub hl [1, 0, 2, 3] rfl)
  exact L5 _ 0 0 (Nat.zero_le _) rfl (by omega) rfl H _ ls hP hD hS (lv_sub hl [1, 0, 3, 2] rfl)
set_option maxHeartbeats 4000000 in
set_option maxRecDepth 100000 in
theorem v_countAllSeen (l : Launch) (D : va_G) (dA : Nat → ClassId) (sz : Nat) (h : Nat) (ad : Nat → Nat) (x : VS) (PS : Nat → PT) (hps : psOk dA x.nP x.npc x.pl PS) (hpn : x.npc ≤ 32) (h1 : x.nsc ≤ 64) (h7 : ∀ q : Nat, q < x.nsc → x.nsO q < 2 ^ 31) : Met l ⟨"SeriesVault$Shelf", "countAllSeen", "()I"⟩ [Cond.code ⟨"SeriesVault$Shelf", "countAllSeen", "()I"⟩ prog_9_method_17_code 1 (some FieldType.int)] { frames := 5, cells := 0, slots := 0, locals := 95 } (pC D dA [.ref (ad 3)] (VW dA h ad x) sz) (va_Qi (fun (r9 : Int32) (u9 : Unit) => r9 = nI (sumN x.npc (x.sbN PS (1099511627776 - 1)))) (fun (u9 : Unit) t9 => bW D (va_A (VW dA h ad x) sz) (VW dA h ad x) t9) (va_A (VW dA h ad x) sz)) 0 0 (va_A (VW dA h ad x) sz) := by
  refine mkC (y := ⟨"SeriesVault$Shelf", "countAllSeen", "()I"⟩) (cc := prog_9_method_17_code) (maxL := 1) (av := [.ref (ad 3)]) (ws := VW dA h ad x) (sz := sz) (Qc := fun A => va_Qi (fun (r9 : Int32) (u9 : Unit) => r9 = nI (sumN x.npc (x.sbN PS (1099511627776 - 1)))) (fun (u9 : Unit) t9 => bW D A (VW dA h ad x) t9) A) (by decide) (Nat.le_of_ble_eq_true rfl) ?_
  intro A p e s m below meth c ls hsz hB
  obtain ⟨hx, hb, hr, hml, hown, hin, hlk, hE, hK, hP, hD, hS, hA, hN, hl⟩ := hB
  have hown : s.vm.findClass "SeriesVault$Shelf" = some m.cls := hown
  have hl : lv_has ls 1 [(0, .ref (ad 3))] := hl
  obtain ⟨H, hH⟩ : ∃ z, z = s.heap := ⟨_, rfl⟩
  have hP : va_P D vwCl (VW dA h ad x) H := by rw [hH]; exact hP
  have hS : va_S A s.heap H [] := by rw [hH]; exact hS
  rw [← hH]
  refine lv_aload_n hx hb d_H_countAllSeen_0 rfl (lv_at hl 0 rfl) ?_
  refine lv_ldc2 (v := 1099511627776) hx hb hown (hE.t w631 rfl) d_H_countAllSeen_1 ?_
  refine jfI (rnV (As := [.long 1099511627776]) (rest := []) hx hb hml hown hE hK (hN _ _ hS) hP hD (v_countSeenBelow l D dA H.size h ad x PS 1099511627776 hps (show x.npc ≤ 32 from by omega) (show x.nsc ≤ 64 from by omega) h7) (q0 := 17) rfl rfl w633 w632 w634 w635 w583 rfl rfl ⟨⟨by decide, by decide⟩, rfl⟩ ⟨(Nat.le_of_ble_eq_true rfl), (Nat.le_of_ble_eq_true rfl)⟩ rfl hl.1 rfl (Nat.le_of_ble_eq_true rfl) d_H_countAllSeen_4 ⟨(Nat.le_of_ble_eq_true rfl), (Nat.le_of_ble_eq_true rfl)⟩) hP hD hS hA (fun r1 u2 H locs hp9 hP hD hS => ?_)
  have hP : va_P D vwCl (VW dA h ad x) H := hP
  have hD : va_D A (VW dA h ad x) := hD
  replace hp9 : nI (sumN x.npc (x.sbN PS (1099511627776 - 1))) = r1 := Eq.symm hp9
  subst hp9
  exact rfI hx hb hr hlk hS () rfl hP hD (Nat.le_of_ble_eq_true rfl) (Nat.le_of_ble_eq_true rfl) d_H_countAllSeen_7
theorem d_H_countSeen_0 : decode prog_9_method_19_code 0 = .ok (.iconst 0, 1) := by decide +kernel
theorem d_H_countSeen_1 : decode prog_9_method_19_code 1 = .ok (.istore 6, 2) := by decide +kernel
theorem d_H_countSeen_3 : decode prog_9_method_19_code 3 = .ok (.iconst 0, 1) := by decide +kernel
theorem d_H_countSeen_4 : decode prog_9_method_19_code 4 = .ok (.istore 7, 2) := by decide +kernel
theorem d_H_countSeen_6 : decode prog_9_method_19_code 6 = .ok (.iload 7, 2) := by decide +kernel
theorem d_H_countSeen_8 : decode prog_9_method_19_code 8 = .ok (.aload_n 0, 1) := by decide +kernel
theorem d_H_countSeen_9 : decode prog_9_method_19_code 9 = .ok (.getfield 34, 3) := by decide +kernel
theorem d_H_countSeen_12 : decode prog_9_method_19_code 12 = .ok (.if_icmp .ge 29, 3) := by decide +kernel
theorem d_H_countSeen_41 : decode prog_9_method_19_code 41 = .ok (.iload 6, 2) := by decide +kernel
theorem d_H_countSeen_43 : decode prog_9_method_19_code 43 = .ok (.ireturn, 1) := by decide +kernel
theorem d_H_countSeen_15 : decode prog_9_method_19_code 15 = .ok (.iload 6, 2) := by decide +kernel
theorem d_H_countSeen_17 : decode prog_9_method_19_code 17 = .ok (.aload_n 0, 1) := by decide +kernel
theorem d_H_countSeen_18 : decode prog_9_method_19_code 18 = .ok (.aload_n 0, 1) := by decide +kernel
theorem d_H_countSeen_19 : decode prog_9_method_19_code 19 = .ok (.getfield 11, 3) := by decide +kernel
theorem d_H_countSeen_22 : decode prog_9_method_19_code 22 = .ok (.iload 7, 2) := by decide +kernel
theorem d_H_countSeen_24 : decode prog_9_method_19_code 24 = .ok (.aaload, 1) := by decide +kernel
theorem d_H_countSeen_25 : decode prog_9_method_19_code 25 = .ok (.iload_n 1, 1) := by decide +kernel
theorem d_H_countSeen_26 : decode prog_9_method_19_code 26 = .ok (.lload_n 2, 1) := by decide +kernel
theorem d_H_countSeen_27 : decode prog_9_method_19_code 27 = .ok (.lload 4, 2) := by decide +kernel
theorem d_H_countSeen_29 : decode prog_9_method_19_code 29 = .ok (.invokevirtual 113, 3) := by decide +kernel
theorem d_H_countSeen_32 : decode prog_9_method_19_code 32 = .ok (.iadd, 1) := by decide +kernel
theorem d_H_countSeen_33 : decode prog_9_method_19_code 33 = .ok (.istore 6, 2) := by decide +kernel
theorem d_H_countSeen_35 : decode prog_9_method_19_code 35 = .ok (.iinc 7 1, 3) := by decide +kernel
theorem d_H_countSeen_38 : decode prog_9_method_19_code 38 = .ok (.goto (-32), 3) := by decide +kernel
theorem w1186 : Cond.methodLink "SeriesVault$Shelf" 113 ⟨"SeriesVault$Shelf", "countSeenOfOwner", "(LSeriesVault$Parcel;IJJ)I"⟩ ∈ aW := aw_of (tb_5 (List.mem_of_getElem? (i := 185) rfl)) rfl
theorem w1187 : Cond.code ⟨"SeriesVault$Shelf", "countSeenOfOwner", "(LSeriesVault$Parcel;IJJ)I"⟩ prog_9_method_20_code 11 (some FieldType.int) ∈ aW := aw_of (tb_5 (List.mem_of_getElem? (i := 188) rfl)) rfl
theorem w1188 : Cond.instanceMethod ⟨"SeriesVault$Shelf", "countSeenOfOwner", "(LSeriesVault$Parcel;IJJ)I"⟩ ∈ aW := aw_of (tb_5 (List.mem_of_getElem? (i := 187) rfl)) rfl
theorem w1189 : Cond.selects "SeriesVault$Shelf" ⟨"SeriesVault$Shelf", "countSeenOfOwner", "(LSeriesVault$Parcel;IJJ)I"⟩ ⟨"SeriesVault$Shelf", "countSeenOfOwner", "(LSeriesVault$Parcel;IJJ)I"⟩ ∈ aW := aw_pr (List.mem_map.mpr ⟨_, pv_2 (List.mem_of_getElem? (i := 7) rfl), rfl⟩) rfl
set_option maxHeartbeats 4000000 in
set_option maxRecDepth 100000 in
theorem v_countSeen (l : Launch) (D : va_G) (dA : Nat → ClassId) (sz : Nat) (h : Nat) (ad : Nat → Nat) (x : VS) (PS : Nat → PT) (w : Nat) (a : Int64) (b : Int64) (hps : psOk dA x.nP x.npc x.pl PS) (hpn : x.npc ≤ 32) (h1 : x.nsc ≤ 64) (h7 : ∀ q : Nat, q < x.nsc → x.nsO q < 2 ^ 31) (hw : w < 256) : Met l ⟨"SeriesVault$Shelf", "countSeen", "(IJJ)I"⟩ [Cond.code ⟨"SeriesVault$Shelf", "countSeen", "(IJJ)I"⟩ prog_9_method_19_code 8 (some FieldType.int)] { frames := 4, cells := 0, slots := 0, locals := 76 } (pC D dA [.ref (ad 3), .int (nI w), .long a, .long b] (VW dA h ad x) sz) (va_Qi (fun (r9 : Int32) (u9 : Unit) => r9 = nI (sumN x.npc (x.soN PS w a b))) (fun (u9 : Unit) t9 => bW D (va_A (VW dA h ad x) sz) (VW dA h ad x) t9) (va_A (VW dA h ad x) sz)) 0 0 (va_A (VW dA h ad x) sz) := by
  refine mkC (y := ⟨"SeriesVault$Shelf", "countSeen", "(IJJ)I"⟩) (cc := prog_9_method_19_code) (maxL := 8) (av := [.ref (ad 3), .int (nI w), .long a, .long b]) (ws := VW dA h ad x) (sz := sz) (Qc := fun A => va_Qi (fun (r9 : Int32) (u9 : Unit) => r9 = nI (sumN x.npc (x.soN PS w a b))) (fun (u9 : Unit) t9 => bW D A (VW dA h ad x) t9) A) (by decide) (Nat.le_of_ble_eq_true rfl) ?_
  intro A p e s m below meth c ls hsz hB
  obtain ⟨hx, hb, hr, hml, hown, hin, hlk, hE, hK, hP, hD, hS, hA, hN, hl⟩ := hB
  have hown : s.vm.findClass "SeriesVault$Shelf" = some m.cls := hown
  have hl : lv_has ls 8 [(0, .ref (ad 3)), (1, .int (nI w)), (2, .long a), (4, .long b)] := hl
  obtain ⟨H, hH⟩ : ∃ z, z = s.heap := ⟨_, rfl⟩
  have hP : va_P D vwCl (VW dA h ad x) H := by rw [hH]; exact hP
  have hS : va_S A s.heap H [] := by rw [hH]; exact hS
  rw [← hH]
  refine lv_iconst (v := 0) hx hb d_H_countSeen_0 (by decide) ?_
  refine lv_istore hx hb d_H_countSeen_1 hl (by decide) rfl (fun ls hl => ?_)
  have hl : lv_has ls 8 [(6, .int 0), (0, .ref (ad 3)), (1, .int (nI w)), (2, .long a), (4, .long b)] := hl
  refine lv_iconst (v := 0) hx hb d_H_countSeen_3 (by decide) ?_
  refine lv_istore hx hb d_H_countSeen_4 hl (by decide) rfl (fun ls hl => ?_)
  have hl : lv_has ls 8 [(7, .int 0), (6, .int 0), (0, .ref (ad 3)), (1, .int (nI w)), (2, .long a), (4, .long b)] := hl
  have L6 : ∀ (k9 : Nat) (k : Nat) (n : Nat) (i1 : k ≤ x.npc) (i2 : n = sumN k (x.soN PS w a b)) (i3 : n ≤ 12000 * k) (hk9 : x.npc - k = k9), ∀ (H : Heap) (locs : List Loc) (ls : Array Slot) (hP : va_P D vwCl (VW dA h ad x) H) (hD : va_D A (VW dA h ad x)) (hS : va_S A s.heap H locs) (hl : lv_has ls 8 [(6, .int (nI n)), (7, .int (nI k)), (1, .int (nI w)), (2, .long a), (4, .long b), (0, .ref (ad 3))]), W p l e ({ frames := 4, cells := 0, slots := 0, locals := 76 } : Room) s m ([.ref (ad 3), .int (nI w), .long a, .long b] : List Value).toArray below meth c H locs 0 0 (MQ below (va_Qi (fun (r9 : Int32) (u9 : Unit) => r9 = nI (sumN x.npc (x.soN PS w a b))) (fun (u9 : Unit) t9 => bW D A (VW dA h ad x) t9) A) ([.ref (ad 3), .int (nI w), .long a, .long b] : List Value).toArray s 0 0 A) (F0 m 6 ls []) := by
    intro k9
    induction k9 using Nat.strongRecOn with
    | ind k9 ih6 =>
      intro k n i1 i2 i3 hk9 H locs ls hP hD hS hl
      refine lv_iload hx hb d_H_countSeen_6 (lv_at hl 1 rfl) ?_
      refine lv_aload_n hx hb d_H_countSeen_8 rfl (lv_at hl 5 rfl) ?_
      refine gF (v := .int (nI x.npc)) hx hb hown hE hK hP 17 rfl rfl layH 1 (by decide) w566 rfl d_H_countSeen_9 ?_
      refine lv_icmp_ge hx hb d_H_countSeen_12 (tgt := 41) rfl (fun g1 => ?_) (fun g1 => ?_)
      · have g1 := (nI_leI (a := x.npc) (b := k) (by omega) (by omega)).mp g1
        refine lv_iload hx hb d_H_countSeen_41 (lv_at hl 0 rfl) ?_
        exact rfI hx hb hr hlk hS () (by rw [i2, show k = x.npc by omega]) hP hD (Nat.le_of_ble_eq_true rfl) (Nat.le_of_ble_eq_true rfl) d_H_countSeen_43
      · have g1 := mt (nI_leI (a := x.npc) (b := k) (by omega) (by omega)).mpr g1
        obtain ⟨pp, ke, hpp, hpk⟩ := hps k (by omega)
        have hpp0 := hpp
        obtain ⟨po, pt, pv, m1, m2, m3, m4⟩ := hpp
        have pk1 := hpk.1
        refine lv_iload hx hb d_H_countSeen_15 (lv_at hl 0 rfl) ?_
        refine lv_aload_n hx hb d_H_countSeen_17 rfl (lv_at hl 5 rfl) ?_
        refine lv_aload_n hx hb d_H_countSeen_18 rfl (lv_at hl 5 rfl) ?_
        refine gF (v := .ref (ad 4)) hx hb hown hE hK hP 17 rfl rfl layH 0 (by decide) w199 rfl d_H_countSeen_19 ?_
        refine lv_iload hx hb d_H_countSeen_22 (lv_at hl 1 rfl) ?_
        refine nqld (f := x.nP) (n := 32) hx hb hK hP (18) 4 rfl rfl (k) (by omega) (by decide) ke d_H_countSeen_24 ?_
        refine lv_iload_n hx hb d_H_countSeen_25 rfl (lv_at hl 2 rfl) ?_
        refine lv_lload_n hx hb d_H_countSeen_26 rfl (lv_at hl 3 rfl) ?_
        refine lv_lload hx hb d_H_countSeen_27 (lv_at hl 4 rfl) ?_
        refine jfI (rnV (As := [.ref pp, .int (nI w), .long a, .long b]) (rest := [.int (nI n)]) hx hb hml hown hE hK (hN _ _ hS) hP hD (v_countSeenOfOwner l D dA H.size h ad x pp (PS k) w a b hpp0 hpk (show x.nsc ≤ 64 from by omega) h7 (show w < 256 from by omega)) (q0 := 17) rfl rfl w1187 w1186 w1188 w1189 w583 rfl rfl ⟨⟨by decide, by decide⟩, rfl⟩ ⟨(Nat.le_of_ble_eq_true rfl), (Nat.le_of_ble_eq_true rfl)⟩ rfl hl.1 rfl (Nat.le_of_ble_eq_true rfl) d_H_countSeen_29 ⟨(Nat.le_of_ble_eq_true rfl), (Nat.le_of_ble_eq_true rfl)⟩) hP hD hS hA (fun r2 u3 H locs hp9 hP hD hS => ?_)
        have hP : va_P D vwCl (VW dA h ad x) H := hP
        have hD : va_D A (VW dA h ad x) := hD
        replace hp9 : nI (cnt (PS k).n (x.soPc (PS k) w a b)) = r2 := Eq.symm hp9
        subst hp9
        refine lv_iadd hx hb d_H_countSeen_32 (tpi (y := nI (n + (cnt (PS k).n (x.soPc (PS k) w a b)))) (nI_add (n) (cnt (PS k).n (x.soPc (PS k) w a b))) ?_)
        refine lv_istore hx hb d_H_countSeen_33 hl (by decide) rfl (fun ls hl => ?_)
        have hl : lv_has ls 8 [(6, .int (nI (n + (cnt (PS k).n (x.soPc (PS k) w a b))))), (7, .int (nI k)), (1, .int (nI w)), (2, .long a), (4, .long b), (0, .ref (ad 3))] := hl
        refine lv_iinc (k := 1) (v := nI (k + 1)) hx hb d_H_countSeen_35 hl rfl (iincN (k) 1 1 (by decide)) (by decide) rfl (fun ls hl => ?_)
        have hl : lv_has ls 8 [(7, .int (nI (k + 1))), (6, .int (nI (n + (cnt (PS k).n (x.soPc (PS k) w a b))))), (1, .int (nI w)), (2, .long a), (4, .long b), (0, .ref (ad 3))] := hl
        refine lv_goto hx hb d_H_countSeen_38 (tgt := 6) rfl ?_
        exact ih6 _ (by omega) (k + 1) (n + (cnt (PS k).n (x.soPc (PS k) w a b))) (by omega) (by rw [i2]; rfl) (by have := cnt_le (PS k).n (x.soPc (PS k) w a b); omega) rfl H _ ls hP hD hS (lv_sub hl [1, 0, 2, 3, 4, 5] rfl)
  exact L6 _ 0 0 (Nat.zero_le _) rfl (by omega) rfl H _ ls hP hD hS (lv_sub hl [1, 0, 3, 4, 5, 2] rfl)
theorem d_H_blocksInUse_15 : decode prog_9_method_6_code 15 = .ok (.iload_n 1, 1) := by decide +kernel
theorem d_H_blocksInUse_16 : decode prog_9_method_6_code 16 = .ok (.aload_n 0, 1) := by decide +kernel
theorem d_H_blocksInUse_17 : decode prog_9_method_6_code 17 = .ok (.getfield 11, 3) := by decide +kernel
theorem d_H_blocksInUse_20 : decode prog_9_method_6_code 20 = .ok (.iload_n 2, 1) := by decide +kernel
theorem d_H_blocksInUse_21 : decode prog_9_method_6_code 21 = .ok (.aaload, 1) := by decide +kernel
theorem d_H_blocksInUse_22 : decode prog_9_method_6_code 22 = .ok (.getfield 59, 3) := by decide +kernel
theorem d_H_blocksInUse_25 : decode prog_9_method_6_code 25 = .ok (.iadd, 1) := by decide +kernel
theorem d_H_blocksInUse_26 : decode prog_9_method_6_code 26 = .ok (.istore_n 1, 1) := by decide +kernel
theorem d_H_blocksInUse_27 : decode prog_9_method_6_code 27 = .ok (.iinc 2 1, 3) := by decide +kernel
theorem d_H_blocksInUse_30 : decode prog_9_method_6_code 30 = .ok (.goto (-23), 3) := by decide +kernel
theorem w1190 : Cond.fieldLinkNest "SeriesVault$Shelf" 59 "SeriesVault$Parcel" "blocks" "I" "SeriesVault" ∈ aW := aw_of (tb_6 (List.mem_of_getElem? (i := 62) rfl)) rfl
set_option maxHeartbeats 4000000 in
set_option maxRecDepth 100000 in
theorem v_blocksInUse (l : Launch) (D : va_G) (dA : Nat → ClassId) (sz : Nat) (h : Nat) (ad : Nat → Nat) (x : VS) (PS : Nat → PT) (hps : psOk dA x.nP x.npc x.pl PS) (hpn : x.npc ≤ 32) : Met l ⟨"SeriesVault$Shelf", "blocksInUse", "()I"⟩ [Cond.code ⟨"SeriesVault$Shelf", "blocksInUse", "()I"⟩ prog_9_method_6_code 3 (some FieldType.int)] { frames := 1, cells := 0, slots := 0, locals := 0 } (pC D dA [.ref (ad 3)] (VW dA h ad x) sz) (va_Qi (fun (r9 : Int32) (u9 : Unit) => r9 = nI (x.ncat + sumN x.npc (blN PS))) (fun (u9 : Unit) t9 => bW D (va_A (VW dA h ad x) sz) (VW dA h ad x) t9) (va_A (VW dA h ad x) sz)) 0 0 (va_A (VW dA h ad x) sz) := by
  refine mkC (y := ⟨"SeriesVault$Shelf", "blocksInUse", "()I"⟩) (cc := prog_9_method_6_code) (maxL := 3) (av := [.ref (ad 3)]) (ws := VW dA h ad x) (sz := sz) (Qc := fun A => va_Qi (fun (r9 : Int32) (u9 : Unit) => r9 = nI (x.ncat + sumN x.npc (blN PS))) (fun (u9 : Unit) t9 => bW D A (VW dA h ad x) t9) A) (by decide) (Nat.le_of_ble_eq_true rfl) ?_
  intro A p e s m below meth c ls hsz hB
  obtain ⟨hx, hb, hr, hml, hown, hin, hlk, hE, hK, hP, hD, hS, hA, hN, hl⟩ := hB
  have hown : s.vm.findClass "SeriesVault$Shelf" = some m.cls := hown
  have hl : lv_has ls 3 [(0, .ref (ad 3))] := hl
  obtain ⟨H, hH⟩ : ∃ z, z = s.heap := ⟨_, rfl⟩
  have hP : va_P D vwCl (VW dA h ad x) H := by rw [hH]; exact hP
  have hS : va_S A s.heap H [] := by rw [hH]; exact hS
  rw [← hH]
  refine lv_aload_n hx hb d_H_blocksInUse_0 rfl (lv_at hl 0 rfl) ?_
  refine gF (v := .int (nI x.ncat)) hx hb hown hE hK hP 17 rfl rfl layH 10 (by decide) w570 rfl d_H_blocksInUse_1 ?_
  refine lv_istore_n hx hb d_H_blocksInUse_4 rfl hl (by decide) rfl (fun ls hl => ?_)
  have hl : lv_has ls 3 [(1, .int (nI x.ncat)), (0, .ref (ad 3))] := hl
  refine lv_iconst (v := 0) hx hb d_H_blocksInUse_5 (by decide) ?_
  refine lv_istore_n hx hb d_H_blocksInUse_6 rfl hl (by decide) rfl (fun ls hl => ?_)
  have hl : lv_has ls 3 [(2, .int 0), (1, .int (nI x.ncat)), (0, .ref (ad 3))] := hl
  have L7 : ∀ (k9 : Nat) (k : Nat) (n : Nat) (i1 : k ≤ x.npc) (i2 : n = x.ncat + sumN k (blN PS)) (hk9 : x.npc - k = k9), ∀ (H : Heap) (locs : List Loc) (ls : Array Slot) (hP : va_P D vwCl (VW dA h ad x) H) (hD : va_D A (VW dA h ad x)) (hS : va_S A s.heap H locs) (hl : lv_has ls 3 [(1, .int (nI n)), (2, .int (nI k)), (0, .ref (ad 3))]), W p l e ({ frames := 1, cells := 0, slots := 0, locals := 0 } : Room) s m ([.ref (ad 3)] : List Value).toArray below meth c H locs 0 0 (MQ below (va_Qi (fun (r9 : Int32) (u9 : Unit) => r9 = nI (x.ncat + sumN x.npc (blN PS))) (fun (u9 : Unit) t9 => bW D A (VW dA h ad x) t9) A) ([.ref (ad 3)] : List Value).toArray s 0 0 A) (F0 m 7 ls []) := by
    intro k9
    induction k9 using Nat.strongRecOn with
    | ind k9 ih7 =>
      intro k n i1 i2 hk9 H locs ls hP hD hS hl
      refine lv_iload_n hx hb d_H_blocksInUse_7 rfl (lv_at hl 1 rfl) ?_
      refine lv_aload_n hx hb d_H_blocksInUse_8 rfl (lv_at hl 2 rfl) ?_
      refine gF (v := .int (nI x.npc)) hx hb hown hE hK hP 17 rfl rfl layH 1 (by decide) w566 rfl d_H_blocksInUse_9 ?_
      refine lv_icmp_ge hx hb d_H_blocksInUse_12 (tgt := 33) rfl (fun g1 => ?_) (fun g1 => ?_)
      · have g1 := (nI_leI (a := x.npc) (b := k) (by omega) (by omega)).mp g1
        refine lv_iload_n hx hb d_H_blocksInUse_33 rfl (lv_at hl 0 rfl) ?_
        exact rfI hx hb hr hlk hS () (by rw [i2, show k = x.npc by omega]) hP hD (Nat.le_of_ble_eq_true rfl) (Nat.le_of_ble_eq_true rfl) d_H_blocksInUse_34
      · have g1 := mt (nI_leI (a := x.npc) (b := k) (by omega) (by omega)).mpr g1
        obtain ⟨pp, ke, hpp, hpk⟩ := hps k (by omega)
        have hpp0 := hpp
        obtain ⟨po, pt, pv, m1, m2, m3, m4⟩ := hpp
        have pk1 := hpk.1
        refine lv_iload_n hx hb d_H_blocksInUse_15 rfl (lv_at hl 0 rfl) ?_
        refine lv_aload_n hx hb d_H_blocksInUse_16 rfl (lv_at hl 2 rfl) ?_
        refine gF (v := .ref (ad 4)) hx hb hown hE hK hP 17 rfl rfl layH 0 (by decide) w199 rfl d_H_blocksInUse_17 ?_
        refine lv_iload_n hx hb d_H_blocksInUse_20 rfl (lv_at hl 1 rfl) ?_
        refine nqld (f := x.nP) (n := 32) hx hb hK hP (18) 4 rfl rfl (k) (by omega) (by decide) ke d_H_blocksInUse_21 ?_
        obtain ⟨qp2, ep3⟩ := plv (dA := dA) (h := h) (ad := ad) (x := x) m1
        refine gFN (v := .int (nI (PS k).bl)) hx hb hown hE hK hP qp2 ep3 rfl layC 6 (by decide) w1190 rfl d_H_blocksInUse_22 ?_
        refine lv_iadd hx hb d_H_blocksInUse_25 (tpi (y := nI (n + ((PS k).bl))) (nI_add (n) ((PS k).bl)) ?_)
        refine lv_istore_n hx hb d_H_blocksInUse_26 rfl hl (by decide) rfl (fun ls hl => ?_)
        have hl : lv_has ls 3 [(1, .int (nI (n + ((PS k).bl)))), (2, .int (nI k)), (0, .ref (ad 3))] := hl
        refine lv_iinc (k := 1) (v := nI (k + 1)) hx hb d_H_blocksInUse_27 hl rfl (iincN (k) 1 1 (by decide)) (by decide) rfl (fun ls hl => ?_)
        have hl : lv_has ls 3 [(2, .int (nI (k + 1))), (1, .int (nI (n + ((PS k).bl)))), (0, .ref (ad 3))] := hl
        refine lv_goto hx hb d_H_blocksInUse_30 (tgt := 7) rfl ?_
        exact ih7 _ (by omega) (k + 1) (n + ((PS k).bl)) (by omega) (by rw [i2]; exact Nat.add_assoc _ _ _) rfl H _ ls hP hD hS (lv_sub hl [1, 0, 2] rfl)
  exact L7 _ 0 x.ncat (Nat.zero_le _) rfl rfl H _ ls hP hD hS (lv_sub hl [1, 0, 2] rfl)
