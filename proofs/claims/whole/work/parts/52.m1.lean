/-- how many below n -/
def cnt (n : Nat) (f : Nat → Bool) : Nat := match n with
  | 0 => 0
  | k + 1 => cnt k f + (if f k then 1 else 0)
theorem cnt_t {n : Nat} {f : Nat → Bool} (h : f n = true) : cnt (n + 1) f = cnt n f + 1 := by simp [cnt, h]
theorem cnt_f {n : Nat} {f : Nat → Bool} (h : f n = false) : cnt (n + 1) f = cnt n f := by simp [cnt, h]
theorem cnt_le (n : Nat) (f : Nat → Bool) : cnt n f ≤ n := by
  induction n with
  | zero => exact Nat.le_refl _
  | succ k ih => unfold cnt; split <;> omega
def MS.room (x : MS) (n : Nat) : Bool := decide (x.used + n ≤ 126) || decide (x.block + 1 < x.journal)
def MS.seen (x : MS) (q : Nat) : Bool := !decide (x.places q ≤ -2) && (!decide (0 ≤ x.hidden q) && !decide (x.pointTimes q < x.horizon))
def MS.heads (x : MS) : Nat := cnt x.points (fun q => decide (x.places q = -1) && x.seen q)
theorem d_M_isSeen_0 : decode prog_14_method_13_code 0 = .ok (.aload_n 0, 1) := by decide +kernel
theorem d_M_isSeen_1 : decode prog_14_method_13_code 1 = .ok (.getfield 52, 3) := by decide +kernel
theorem d_M_isSeen_4 : decode prog_14_method_13_code 4 = .ok (.iload_n 1, 1) := by decide +kernel
theorem d_M_isSeen_5 : decode prog_14_method_13_code 5 = .ok (.iaload, 1) := by decide +kernel
theorem d_M_isSeen_6 : decode prog_14_method_13_code 6 = .ok (.bipush (-2), 2) := by decide +kernel
theorem d_M_isSeen_8 : decode prog_14_method_13_code 8 = .ok (.if_icmp .le 30, 3) := by decide +kernel
theorem d_M_isSeen_38 : decode prog_14_method_13_code 38 = .ok (.iconst 0, 1) := by decide +kernel
theorem d_M_isSeen_39 : decode prog_14_method_13_code 39 = .ok (.ireturn, 1) := by decide +kernel
theorem d_M_isSeen_11 : decode prog_14_method_13_code 11 = .ok (.aload_n 0, 1) := by decide +kernel
theorem d_M_isSeen_12 : decode prog_14_method_13_code 12 = .ok (.getfield 55, 3) := by decide +kernel
theorem d_M_isSeen_15 : decode prog_14_method_13_code 15 = .ok (.iload_n 1, 1) := by decide +kernel
theorem d_M_isSeen_16 : decode prog_14_method_13_code 16 = .ok (.iaload, 1) := by decide +kernel
theorem d_M_isSeen_17 : decode prog_14_method_13_code 17 = .ok (.ifCond .ge 21, 3) := by decide +kernel
theorem d_M_isSeen_20 : decode prog_14_method_13_code 20 = .ok (.aload_n 0, 1) := by decide +kernel
theorem d_M_isSeen_21 : decode prog_14_method_13_code 21 = .ok (.getfield 46, 3) := by decide +kernel
theorem d_M_isSeen_24 : decode prog_14_method_13_code 24 = .ok (.iload_n 1, 1) := by decide +kernel
theorem d_M_isSeen_25 : decode prog_14_method_13_code 25 = .ok (.laload, 1) := by decide +kernel
theorem d_M_isSeen_26 : decode prog_14_method_13_code 26 = .ok (.aload_n 0, 1) := by decide +kernel
theorem d_M_isSeen_27 : decode prog_14_method_13_code 27 = .ok (.getfield 172, 3) := by decide +kernel
theorem d_M_isSeen_30 : decode prog_14_method_13_code 30 = .ok (.lcmp, 1) := by decide +kernel
theorem d_M_isSeen_31 : decode prog_14_method_13_code 31 = .ok (.ifCond .lt 7, 3) := by decide +kernel
theorem d_M_isSeen_34 : decode prog_14_method_13_code 34 = .ok (.iconst 1, 1) := by decide +kernel
theorem d_M_isSeen_35 : decode prog_14_method_13_code 35 = .ok (.goto 4, 3) := by decide +kernel
set_option maxHeartbeats 4000000 in
set_option maxRecDepth 100000 in
theorem k_isSeen (l : Launch) (D : va_G) (dA : Nat → ClassId) (sz : Nat) (h : Nat) (ad : Nat → Nat) (x : MS) (q : Nat) (hq : q < 12000) : Met l ⟨"SeriesVaultModel", "isSeen", "(I)Z"⟩ [Cond.code ⟨"SeriesVaultModel", "isSeen", "(I)Z"⟩ prog_14_method_13_code 2 (some FieldType.boolean)] { frames := 1, cells := 0, slots := 0, locals := 0 } (pC D dA [.ref h, .int (nI q)] (MW dA h ad x) sz) (va_Qi (fun (r9 : Int32) (u9 : Unit) => r9 = bI (x.seen q)) (fun (u9 : Unit) t9 => bW D (va_A (MW dA h ad x) sz) (MW dA h ad x) t9) (va_A (MW dA h ad x) sz)) 0 0 (va_A (MW dA h ad x) sz) := by
  refine mkC (y := ⟨"SeriesVaultModel", "isSeen", "(I)Z"⟩) (cc := prog_14_method_13_code) (maxL := 2) (av := [.ref h, .int (nI q)]) (ws := MW dA h ad x) (sz := sz) (Qc := fun A => va_Qi (fun (r9 : Int32) (u9 : Unit) => r9 = bI (x.seen q)) (fun (u9 : Unit) t9 => bW D A (MW dA h ad x) t9) A) (by decide) (Nat.le_of_ble_eq_true rfl) ?_
  intro A p e s m below meth c ls hsz hB
  obtain ⟨hx, hb, hr, hml, hown, hin, hlk, hE, hK, hP, hD, hS, hA, hN, hl⟩ := hB
  have hown : s.vm.findClass "SeriesVaultModel" = some m.cls := hown
  have hl : lv_has ls 2 [(0, .ref h), (1, .int (nI q))] := hl
  obtain ⟨H, hH⟩ : ∃ z, z = s.heap := ⟨_, rfl⟩
  have hP : va_P D vwCl (MW dA h ad x) H := by rw [hH]; exact hP
  have hS : va_S A s.heap H [] := by rw [hH]; exact hS
  rw [← hH]
  refine lv_aload_n hx hb d_M_isSeen_0 rfl (lv_at hl 0 rfl) ?_
  refine gF (v := .ref (ad 20)) hx hb hown hE hK hP 0 rfl rfl layM 20 (by decide) w506 rfl d_M_isSeen_1 ?_
  refine lv_iload_n hx hb d_M_isSeen_4 rfl (lv_at hl 1 rfl) ?_
  refine nild (f := x.places) hx hb hK hP 9 1 rfl rfl (q) (by omega) (by decide) d_M_isSeen_5 ?_
  refine lv_bipush (v := (-2)) hx hb d_M_isSeen_6 (by decide) ?_
  refine lv_icmp_le hx hb d_M_isSeen_8 (tgt := 38) rfl (fun g1 => ?_) (fun g1 => ?_)
  · have g1 := g1
    refine lv_iconst (v := 0) hx hb d_M_isSeen_38 (by decide) ?_
    exact rfZ hx hb hr (bI_nar false) hlk hS () (by simp [MS.seen, bI, *]) hP hD (Nat.le_of_ble_eq_true rfl) (Nat.le_of_ble_eq_true rfl) d_M_isSeen_39
  · have g1 := g1
    refine lv_aload_n hx hb d_M_isSeen_11 rfl (lv_at hl 0 rfl) ?_
    refine gF (v := .ref (ad 21)) hx hb hown hE hK hP 0 rfl rfl layM 21 (by decide) w507 rfl d_M_isSeen_12 ?_
    refine lv_iload_n hx hb d_M_isSeen_15 rfl (lv_at hl 1 rfl) ?_
    refine nild (f := x.hidden) hx hb hK hP 10 1 rfl rfl (q) (by omega) (by decide) d_M_isSeen_16 ?_
    refine lv_if_ge hx hb d_M_isSeen_17 (tgt := 38) rfl (fun g2 => ?_) (fun g2 => ?_)
    · have g2 := g2
      refine lv_iconst (v := 0) hx hb d_M_isSeen_38 (by decide) ?_
      exact rfZ hx hb hr (bI_nar false) hlk hS () (by simp [MS.seen, bI, *]) hP hD (Nat.le_of_ble_eq_true rfl) (Nat.le_of_ble_eq_true rfl) d_M_isSeen_39
    · have g2 := g2
      refine lv_aload_n hx hb d_M_isSeen_20 rfl (lv_at hl 0 rfl) ?_
      refine gF (v := .ref (ad 18)) hx hb hown hE hK hP 0 rfl rfl layM 18 (by decide) w504 rfl d_M_isSeen_21 ?_
      refine lv_iload_n hx hb d_M_isSeen_24 rfl (lv_at hl 1 rfl) ?_
      refine nlld (f := x.pointTimes) hx hb hK hP 7 2 rfl rfl (q) (by omega) (by decide) d_M_isSeen_25 ?_
      refine lv_aload_n hx hb d_M_isSeen_26 rfl (lv_at hl 0 rfl) ?_
      refine gF (v := .long x.horizon) hx hb hown hE hK hP 0 rfl rfl layM 24 (by decide) w421 rfl d_M_isSeen_27 ?_
      refine W.lcmp hx hb d_M_isSeen_30 ?_
      refine lv_if_lt hx hb d_M_isSeen_31 (tgt := 38) rfl (fun g3 => ?_) (fun g3 => ?_)
      · have g3 := (lg_cmp_lt _ _).mp g3
        refine lv_iconst (v := 0) hx hb d_M_isSeen_38 (by decide) ?_
        exact rfZ hx hb hr (bI_nar false) hlk hS () (by simp [MS.seen, bI, *]) hP hD (Nat.le_of_ble_eq_true rfl) (Nat.le_of_ble_eq_true rfl) d_M_isSeen_39
      · have g3 := mt (lg_cmp_lt _ _).mpr g3
        refine lv_iconst (v := 1) hx hb d_M_isSeen_34 (by decide) ?_
        refine lv_goto hx hb d_M_isSeen_35 (tgt := 39) rfl ?_
        exact rfZ hx hb hr (bI_nar true) hlk hS () (by simp [MS.seen, bI, *]) hP hD (Nat.le_of_ble_eq_true rfl) (Nat.le_of_ble_eq_true rfl) d_M_isSeen_39
theorem d_M_headCount_12 : decode prog_14_method_14_code 12 = .ok (.iload_n 1, 1) := by decide +kernel
theorem d_M_headCount_13 : decode prog_14_method_14_code 13 = .ok (.aload_n 0, 1) := by decide +kernel
theorem d_M_headCount_14 : decode prog_14_method_14_code 14 = .ok (.getfield 52, 3) := by decide +kernel
theorem d_M_headCount_17 : decode prog_14_method_14_code 17 = .ok (.iload_n 2, 1) := by decide +kernel
theorem d_M_headCount_18 : decode prog_14_method_14_code 18 = .ok (.iaload, 1) := by decide +kernel
theorem d_M_headCount_19 : decode prog_14_method_14_code 19 = .ok (.iconst (-1), 1) := by decide +kernel
theorem d_M_headCount_20 : decode prog_14_method_14_code 20 = .ok (.if_icmp .ne 15, 3) := by decide +kernel
theorem d_M_headCount_35 : decode prog_14_method_14_code 35 = .ok (.iconst 0, 1) := by decide +kernel
theorem d_M_headCount_36 : decode prog_14_method_14_code 36 = .ok (.iadd, 1) := by decide +kernel
theorem d_M_headCount_37 : decode prog_14_method_14_code 37 = .ok (.istore_n 1, 1) := by decide +kernel
theorem d_M_headCount_38 : decode prog_14_method_14_code 38 = .ok (.iinc 2 1, 3) := by decide +kernel
theorem d_M_headCount_41 : decode prog_14_method_14_code 41 = .ok (.goto (-37), 3) := by decide +kernel
theorem d_M_headCount_23 : decode prog_14_method_14_code 23 = .ok (.aload_n 0, 1) := by decide +kernel
theorem d_M_headCount_24 : decode prog_14_method_14_code 24 = .ok (.iload_n 2, 1) := by decide +kernel
theorem d_M_headCount_25 : decode prog_14_method_14_code 25 = .ok (.invokevirtual 207, 3) := by decide +kernel
theorem d_M_headCount_28 : decode prog_14_method_14_code 28 = .ok (.ifCond .eq 7, 3) := by decide +kernel
theorem d_M_headCount_31 : decode prog_14_method_14_code 31 = .ok (.iconst 1, 1) := by decide +kernel
theorem d_M_headCount_32 : decode prog_14_method_14_code 32 = .ok (.goto 4, 3) := by decide +kernel
theorem w860 : Cond.methodLink "SeriesVaultModel" 207 ⟨"SeriesVaultModel", "isSeen", "(I)Z"⟩ ∈ aW := aw_of (tb_10 (List.mem_of_getElem? (i := 36) rfl)) rfl
theorem w861 : Cond.code ⟨"SeriesVaultModel", "isSeen", "(I)Z"⟩ prog_14_method_13_code 2 (some FieldType.boolean) ∈ aW := aw_of (tb_10 (List.mem_of_getElem? (i := 39) rfl)) rfl
theorem w862 : Cond.instanceMethod ⟨"SeriesVaultModel", "isSeen", "(I)Z"⟩ ∈ aW := aw_of (tb_10 (List.mem_of_getElem? (i := 38) rfl)) rfl
theorem w863 : Cond.selects "SeriesVaultModel" ⟨"SeriesVaultModel", "isSeen", "(I)Z"⟩ ⟨"SeriesVaultModel", "isSeen", "(I)Z"⟩ ∈ aW := aw_pr (List.mem_map.mpr ⟨_, pv_6 (List.mem_of_getElem? (i := 2) rfl), rfl⟩) rfl
set_option maxHeartbeats 4000000 in
set_option maxRecDepth 100000 in
theorem k_headCount (l : Launch) (D : va_G) (dA : Nat → ClassId) (sz : Nat) (h : Nat) (ad : Nat → Nat) (x : MS) (h1 : x.points ≤ 12000) : Met l ⟨"SeriesVaultModel", "headCount", "()I"⟩ [Cond.code ⟨"SeriesVaultModel", "headCount", "()I"⟩ prog_14_method_14_code 3 (some FieldType.int)] { frames := 2, cells := 0, slots := 0, locals := 21 } (pC D dA [.ref h] (MW dA h ad x) sz) (va_Qi (fun (r9 : Int32) (u9 : Unit) => r9 = nI x.heads) (fun (u9 : Unit) t9 => bW D (va_A (MW dA h ad x) sz) (MW dA h ad x) t9) (va_A (MW dA h ad x) sz)) 0 0 (va_A (MW dA h ad x) sz) := by
  refine mkC (y := ⟨"SeriesVaultModel", "headCount", "()I"⟩) (cc := prog_14_method_14_code) (maxL := 3) (av := [.ref h]) (ws := MW dA h ad x) (sz := sz) (Qc := fun A => va_Qi (fun (r9 : Int32) (u9 : Unit) => r9 = nI x.heads) (fun (u9 : Unit) t9 => bW D A (MW dA h ad x) t9) A) (by decide) (Nat.le_of_ble_eq_true rfl) ?_
  intro A p e s m below meth c ls hsz hB
  obtain ⟨hx, hb, hr, hml, hown, hin, hlk, hE, hK, hP, hD, hS, hA, hN, hl⟩ := hB
  have hown : s.vm.findClass "SeriesVaultModel" = some m.cls := hown
  have hl : lv_has ls 3 [(0, .ref h)] := hl
  obtain ⟨H, hH⟩ : ∃ z, z = s.heap := ⟨_, rfl⟩
  have hP : va_P D vwCl (MW dA h ad x) H := by rw [hH]; exact hP
  have hS : va_S A s.heap H [] := by rw [hH]; exact hS
  rw [← hH]
  refine lv_iconst (v := 0) hx hb d_M_headCount_0 (by decide) ?_
  refine lv_istore_n hx hb d_M_headCount_1 rfl hl (by decide) rfl (fun ls hl => ?_)
  have hl : lv_has ls 3 [(1, .int 0), (0, .ref h)] := hl
  refine lv_iconst (v := 0) hx hb d_M_headCount_2 (by decide) ?_
  refine lv_istore_n hx hb d_M_headCount_3 rfl hl (by decide) rfl (fun ls hl => ?_)
  have hl : lv_has ls 3 [(2, .int 0), (1, .int 0), (0, .ref h)] := hl
  have L4 : ∀ (k9 : Nat) (q : Nat) (n : Nat) (i1 : q ≤ x.points) (i2 : n = cnt q (fun q => decide (x.places q = -1) && x.seen q)) (hk9 : x.points - q = k9), ∀ (H : Heap) (locs : List Loc) (ls : Array Slot) (hP : va_P D vwCl (MW dA h ad x) H) (hD : va_D A (MW dA h ad x)) (hS : va_S A s.heap H locs) (hl : lv_has ls 3 [(2, .int (nI q)), (1, .int (nI n)), (0, .ref h)]), W p l e ({ frames := 2, cells := 0, slots := 0, locals := 21 } : Room) s m ([.ref h] : List Value).toArray below meth c H locs 0 0 (MQ below (va_Qi (fun (r9 : Int32) (u9 : Unit) => r9 = nI x.heads) (fun (u9 : Unit) t9 => bW D A (MW dA h ad x) t9) A) ([.ref h] : List Value).toArray s 0 0 A) (F0 m 4 ls []) := by
    intro k9
    induction k9 using Nat.strongRecOn with
    | ind k9 ih4 =>
      intro q n i1 i2 hk9 H locs ls hP hD hS hl
      refine lv_iload_n hx hb d_M_headCount_4 rfl (lv_at hl 0 rfl) ?_
      refine lv_aload_n hx hb d_M_headCount_5 rfl (lv_at hl 2 rfl) ?_
      refine gF (v := .int (nI x.points)) hx hb hown hE hK hP 0 rfl rfl layM 23 (by decide) w420 rfl d_M_headCount_6 ?_
      refine lv_icmp_ge hx hb d_M_headCount_9 (tgt := 44) rfl (fun g1 => ?_) (fun g1 => ?_)
      · have g1 := (nI_leI (a := x.points) (b := q) (by omega) (by omega)).mp g1
        refine lv_iload_n hx hb d_M_headCount_44 rfl (lv_at hl 1 rfl) ?_
        exact rfI hx hb hr hlk hS () (by rw [i2, show q = x.points by omega]; rfl) hP hD (Nat.le_of_ble_eq_true rfl) (Nat.le_of_ble_eq_true rfl) d_M_headCount_45
      · have g1 := mt (nI_leI (a := x.points) (b := q) (by omega) (by omega)).mpr g1
        refine lv_iload_n hx hb d_M_headCount_12 rfl (lv_at hl 1 rfl) ?_
        refine lv_aload_n hx hb d_M_headCount_13 rfl (lv_at hl 2 rfl) ?_
        refine gF (v := .ref (ad 20)) hx hb hown hE hK hP 0 rfl rfl layM 20 (by decide) w506 rfl d_M_headCount_14 ?_
        refine lv_iload_n hx hb d_M_headCount_17 rfl (lv_at hl 0 rfl) ?_
        refine nild (f := x.places) hx hb hK hP 9 1 rfl rfl (q) (by omega) (by decide) d_M_headCount_18 ?_
        refine lv_iconst (v := (-1)) hx hb d_M_headCount_19 (by decide) ?_
        refine lv_icmp_ne hx hb d_M_headCount_20 (tgt := 35) rfl (fun g2 => ?_) (fun g2 => ?_)
        · have g2 := g2
          refine lv_iconst (v := 0) hx hb d_M_headCount_35 (by decide) ?_
          refine lv_iadd hx hb d_M_headCount_36 (tpi (y := nI (n)) (nI_add (n) (0)) ?_)
          refine lv_istore_n hx hb d_M_headCount_37 rfl hl (by decide) rfl (fun ls hl => ?_)
          have hl : lv_has ls 3 [(1, .int (nI (n))), (2, .int (nI q)), (0, .ref h)] := hl
          refine lv_iinc (k := 1) (v := nI (q + 1)) hx hb d_M_headCount_38 hl rfl (iincN (q) 1 1 (by decide)) (by decide) rfl (fun ls hl => ?_)
          have hl : lv_has ls 3 [(2, .int (nI (q + 1))), (1, .int (nI (n))), (0, .ref h)] := hl
          refine lv_goto hx hb d_M_headCount_41 (tgt := 4) rfl ?_
          exact ih4 _ (by omega) (q + 1) n (by omega) (by simp [cnt, *]) rfl H _ ls hP hD hS (lv_sub hl [0, 1, 2] rfl)
        · have g2 := g2
          refine lv_aload_n hx hb d_M_headCount_23 rfl (lv_at hl 2 rfl) ?_
          refine lv_iload_n hx hb d_M_headCount_24 rfl (lv_at hl 0 rfl) ?_
          refine jfI (rnV (As := [.int (nI q)]) (rest := [.int (nI n)]) hx hb hml hown hE hK (hN _ _ hS) hP hD (k_isSeen l D dA H.size h ad x q (show q < 12000 from by omega)) (q0 := 0) rfl rfl w861 w860 w862 w863 w328 rfl rfl ⟨⟨by decide, by decide⟩, rfl⟩ ⟨(Nat.le_of_ble_eq_true rfl), (Nat.le_of_ble_eq_true rfl)⟩ rfl hl.1 rfl (Nat.le_of_ble_eq_true rfl) d_M_headCount_25 ⟨(Nat.le_of_ble_eq_true rfl), (Nat.le_of_ble_eq_true rfl)⟩) hP hD hS hA (fun r3 u4 H locs hp9 hP hD hS => ?_)
          have hP : va_P D vwCl (MW dA h ad x) H := hP
          have hD : va_D A (MW dA h ad x) := hD
          replace hp9 : bI (x.seen q) = r3 := Eq.symm hp9
          subst hp9
          refine lv_if_eq hx hb d_M_headCount_28 (tgt := 35) rfl (fun g5 => ?_) (fun g5 => ?_)
          · have g5 := bI_0 g5
            refine lv_iconst (v := 0) hx hb d_M_headCount_35 (by decide) ?_
            refine lv_iadd hx hb d_M_headCount_36 (tpi (y := nI (n)) (nI_add (n) (0)) ?_)
            refine lv_istore_n hx hb d_M_headCount_37 rfl hl (by decide) rfl (fun ls hl => ?_)
            have hl : lv_has ls 3 [(1, .int (nI (n))), (2, .int (nI q)), (0, .ref h)] := hl
            refine lv_iinc (k := 1) (v := nI (q + 1)) hx hb d_M_headCount_38 hl rfl (iincN (q) 1 1 (by decide)) (by decide) rfl (fun ls hl => ?_)
            have hl : lv_has ls 3 [(2, .int (nI (q + 1))), (1, .int (nI (n))), (0, .ref h)] := hl
            refine lv_goto hx hb d_M_headCount_41 (tgt := 4) rfl ?_
            exact ih4 _ (by omega) (q + 1) n (by omega) (by simp [cnt, *]) rfl H _ ls hP hD hS (lv_sub hl [0, 1, 2] rfl)
          · have g5 := bI_n0 g5
            refine lv_iconst (v := 1) hx hb d_M_headCount_31 (by decide) ?_
            refine lv_goto hx hb d_M_headCount_32 (tgt := 36) rfl ?_
            refine lv_iadd hx hb d_M_headCount_36 (tpi (y := nI (n + 1)) (nI_add (n) (1)) ?_)
            refine lv_istore_n hx hb d_M_headCount_37 rfl hl (by decide) rfl (fun ls hl => ?_)
            have hl : lv_has ls 3 [(1, .int (nI (n + 1))), (2, .int (nI q)), (0, .ref h)] := hl
            refine lv_iinc (k := 1) (v := nI (q + 1)) hx hb d_M_headCount_38 hl rfl (iincN (q) 1 1 (by decide)) (by decide) rfl (fun ls hl => ?_)
            have hl : lv_has ls 3 [(2, .int (nI (q + 1))), (1, .int (nI (n + 1))), (0, .ref h)] := hl
            refine lv_goto hx hb d_M_headCount_41 (tgt := 4) rfl ?_
            exact ih4 _ (by omega) (q + 1) (n + 1) (by omega) (by simp [cnt, *]) rfl H _ ls hP hD hS (lv_sub hl [0, 1, 2] rfl)
  exact L4 _ 0 0 (by omega) rfl rfl H _ ls hP hD hS (lv_sub hl [0, 1, 2] rfl)
set_option maxHeartbeats 4000000 in
set_option maxRecDepth 100000 in
theorem k_thrown (l : Launch) (D : va_G) (dA : Nat → ClassId) (sz : Nat) (h : Nat) (ad : Nat → Nat) (x : MS) : Met l ⟨"SeriesVaultModel", "thrown", "()I"⟩ [Cond.code ⟨"SeriesVaultModel", "thrown", "()I"⟩ prog_14_method_2_code 1 (some FieldType.int)] { frames := 1, cells := 0, slots := 0, locals := 0 } (pC D dA [.ref h] (MW dA h ad x) sz) (va_Qi (fun (r9 : Int32) (u9 : Unit) => r9 = x.cod) (fun (u9 : Unit) t9 => bW D (va_A (MW dA h ad x) sz) (MW dA h ad x) t9) (va_A (MW dA h ad x) sz)) 0 0 (va_A (MW dA h ad x) sz) := by
  refine mkC (y := ⟨"SeriesVaultModel", "thrown", "()I"⟩) (cc := prog_14_method_2_code) (maxL := 1) (av := [.ref h]) (ws := MW dA h ad x) (sz := sz) (Qc := fun A => va_Qi (fun (r9 : Int32) (u9 : Unit) => r9 = x.cod) (fun (u9 : Unit) t9 => bW D A (MW dA h ad x) t9) A) (by decide) (Nat.le_of_ble_eq_true rfl) ?_
  intro A p e s m below meth c ls hsz hB
  obtain ⟨hx, hb, hr, hml, hown, hin, hlk, hE, hK, hP, hD, hS, hA, hN, hl⟩ := hB
  have hown : s.vm.findClass "SeriesVaultModel" = some m.cls := hown
  have hl : lv_has ls 1 [(0, .ref h)] := hl
  obtain ⟨H, hH⟩ : ∃ z, z = s.heap := ⟨_, rfl⟩
  have hP : va_P D vwCl (MW dA h ad x) H := by rw [hH]; exact hP
  have hS : va_S A s.heap H [] := by rw [hH]; exact hS
  rw [← hH]
  refine lv_aload_n hx hb d_M_thrown_0 rfl (lv_at hl 0 rfl) ?_
  refine gF (v := .int x.cod) hx hb hown hE hK hP 0 rfl rfl layM 0 (by decide) w319 rfl d_M_thrown_1 ?_
  exact rfI hx hb hr hlk hS () rfl hP hD (Nat.le_of_ble_eq_true rfl) (Nat.le_of_ble_eq_true rfl) d_M_thrown_4
set_option maxHeartbeats 4000000 in
set_option maxRecDepth 100000 in
theorem k_written (l : Launch) (D : va_G) (dA : Nat → ClassId) (sz : Nat) (h : Nat) (ad : Nat → Nat) (x : MS) : Met l ⟨"SeriesVaultModel", "written", "()I"⟩ [Cond.code ⟨"SeriesVaultModel", "written", "()I"⟩ prog_14_method_50_code 1 (some FieldType.int)] { frames := 1, cells := 0, slots := 0, locals := 0 } (pC D dA [.ref h] (MW dA h ad x) sz) (va_Qi (fun (r9 : Int32) (u9 : Unit) => r9 = nI x.written) (fun (u9 : Unit) t9 => bW D (va_A (MW dA h ad x) sz) (MW dA h ad (MS.s_cod x 0)) t9) (va_A (MW dA h ad x) sz)) 0 0 (va_A (MW dA h ad x) sz) := by
  refine mkC (y := ⟨"SeriesVaultModel", "written", "()I"⟩) (cc := prog_14_method_50_code) (maxL := 1) (av := [.ref h]) (ws := MW dA h ad x) (sz := sz) (Qc := fun A => va_Qi (fun (r9 : Int32) (u9 : Unit) => r9 = nI x.written) (fun (u9 : Unit) t9 => bW D A (MW dA h ad (MS.s_cod x 0)) t9) A) (by decide) (Nat.le_of_ble_eq_true rfl) ?_
  intro A p e s m below meth c ls hsz hB
  obtain ⟨hx, hb, hr, hml, hown, hin, hlk, hE, hK, hP, hD, hS, hA, hN, hl⟩ := hB
  have hown : s.vm.findClass "SeriesVaultModel" = some m.cls := hown
  have hl : lv_has ls 1 [(0, .ref h)] := hl
  obtain ⟨H, hH⟩ : ∃ z, z = s.heap := ⟨_, rfl⟩
  have hP : va_P D vwCl (MW dA h ad x) H := by rw [hH]; exact hP
  have hS : va_S A s.heap H [] := by rw [hH]; exact hS
  rw [← hH]
  refine lv_aload_n hx hb d_M_written_0 rfl (lv_at hl 0 rfl) ?_
  refine lv_iconst (v := 0) hx hb d_M_written_1 (by decide) ?_
  refine pF (v := .int 0) hx hb hown hE hK hP hD hS 0 rfl rfl layM tyM tokM nmM 0 (by decide) w319 rfl rfl rfl (Nat.le_of_ble_eq_true rfl) d_M_written_2 (fun H locs hP hD hS => ?_)
  have hP : va_P D vwCl (MW dA h ad (MS.s_cod x 0)) H := hP
  have hD : va_D A (MW dA h ad (MS.s_cod x 0)) := hD
  refine lv_aload_n hx hb d_M_written_5 rfl (lv_at hl 0 rfl) ?_
  refine gF (v := .int (nI x.written)) hx hb hown hE hK hP 0 rfl rfl layM 9 (by decide) w323 rfl d_M_written_6 ?_
  exact rfI hx hb hr hlk hS () rfl hP hD (Nat.le_of_ble_eq_true rfl) (Nat.le_of_ble_eq_true rfl) d_M_written_9
set_option maxHeartbeats 4000000 in
set_option maxRecDepth 100000 in
theorem k_end (l : Launch) (D : va_G) (dA : Nat → ClassId) (sz : Nat) (h : Nat) (ad : Nat → Nat) (x : MS) (j : Nat) (h1 : j ≤ x.length) (h2 : x.length ≤ 65536) : Met l ⟨"SeriesVaultModel", "end", "(I)V"⟩ [Cond.code ⟨"SeriesVaultModel", "end", "(I)V"⟩ prog_14_method_4_code 2 none] { frames := 1, cells := 0, slots := 0, locals := 0 } (pC D dA [.ref h, .int (nI j)] (MW dA h ad x) sz) (va_Qv (fun (u9 : Unit) => True) (fun (u9 : Unit) t9 => bW D (va_A (MW dA h ad x) sz) (MW dA h ad (MS.s_length (MS.s_cod x 0) j)) t9) (va_A (MW dA h ad x) sz)) 0 0 (va_A (MW dA h ad x) sz) := by
  refine mkC (y := ⟨"SeriesVaultModel", "end", "(I)V"⟩) (cc := prog_14_method_4_code) (maxL := 2) (av := [.ref h, .int (nI j)]) (ws := MW dA h ad x) (sz := sz) (Qc := fun A => va_Qv (fun (u9 : Unit) => True) (fun (u9 : Unit) t9 => bW D A (MW dA h ad (MS.s_length (MS.s_cod x 0) j)) t9) A) (by decide) (Nat.le_of_ble_eq_true rfl) ?_
  intro A p e s m below meth c ls hsz hB
  obtain ⟨hx, hb, hr, hml, hown, hin, hlk, hE, hK, hP, hD, hS, hA, hN, hl⟩ := hB
  have hown : s.vm.findClass "SeriesVaultModel" = some m.cls := hown
  have hl : lv_has ls 2 [(0, .ref h), (1, .int (nI j))] := hl
  obtain ⟨H, hH⟩ : ∃ z, z = s.heap := ⟨_, rfl⟩
  have hP : va_P D vwCl (MW dA h ad x) H := by rw [hH]; exact hP
  have hS : va_S A s.heap H [] := by rw [hH]; exact hS
  rw [← hH]
  refine lv_aload_n hx hb d_M_end_0 rfl (lv_at hl 0 rfl) ?_
  refine lv_iload_n hx hb d_M_end_1 rfl (lv_at hl 1 rfl) ?_
  refine lv_if_lt hx hb d_M_end_2 (tgt := 13) rfl (fun h9 => absurd h9 (nI_pos (n := j) (by omega))) (fun _ => ?_)
  refine lv_iload_n hx hb d_M_end_5 rfl (lv_at hl 1 rfl) ?_
  refine lv_aload_n hx hb d_M_end_6 rfl (lv_at hl 0 rfl) ?_
  refine gF (v := .int (nI x.length)) hx hb hown hE hK hP 0 rfl rfl layM 2 (by decide) w320 rfl d_M_end_7 ?_
  refine lv_icmp_le hx hb d_M_end_10 (tgt := 17) rfl (fun _ => ?_) (fun h9 => absurd ((nI_leI (a := j) (b := x.length) (by omega) (by omega)).mpr h1) h9)
  refine lv_iconst (v := 0) hx hb d_M_end_17 (by decide) ?_
  refine pF (v := .int 0) hx hb hown hE hK hP hD hS 0 rfl rfl layM tyM tokM nmM 0 (by decide) w319 rfl rfl rfl (Nat.le_of_ble_eq_true rfl) d_M_end_18 (fun H locs hP hD hS => ?_)
  have hP : va_P D vwCl (MW dA h ad (MS.s_cod x 0)) H := hP
  have hD : va_D A (MW dA h ad (MS.s_cod x 0)) := hD
  refine lv_aload_n hx hb d_M_end_21 rfl (lv_at hl 0 rfl) ?_
  refine lv_aload_n hx hb d_M_end_22 rfl (lv_at hl 0 rfl) ?_
  refine gF (v := .int 0) hx hb hown hE hK hP 0 rfl rfl layM 0 (by decide) w319 rfl d_M_end_23 ?_
  refine lv_if_ne hx hb d_M_end_26 (tgt := 33) rfl (fun h9 => absurd (by decide) h9) (fun _ => ?_)
  refine lv_iload_n hx hb d_M_end_29 rfl (lv_at hl 1 rfl) ?_
  refine lv_goto hx hb d_M_end_30 (tgt := 37) rfl ?_
  refine pF (v := .int (nI j)) hx hb hown hE hK hP hD hS 0 rfl rfl layM tyM tokM nmM 2 (by decide) w320 rfl rfl rfl (Nat.le_of_ble_eq_true rfl) d_M_end_37 (fun H locs hP hD hS => ?_)
  have hP : va_P D vwCl (MW dA h ad (MS.s_length (MS.s_cod x 0) j)) H := hP
  have hD : va_D A (MW dA h ad (MS.s_length (MS.s_cod x 0) j)) := hD
  exact rfV hx hb hr hlk hS () trivial hP hD (Nat.le_of_ble_eq_true rfl) (Nat.le_of_ble_eq_true rfl) d_M_end_40
set_option maxHeartbeats 4000000 in
set_option maxRecDepth 100000 in
theorem k_end_x (l : Launch) (D : va_G) (dA : Nat → ClassId) (sz : Nat) (h : Nat) (ad : Nat → Nat) (x : MS) (n : Int32) (h0 : n < 0 ∨ nI x.length < n) : Met l ⟨"SeriesVaultModel", "end", "(I)V"⟩ [Cond.code ⟨"SeriesVaultModel", "end", "(I)V"⟩ prog_14_method_4_code 2 none] { frames := 1, cells := 0, slots := 0, locals := 0 } (pC D dA [.ref h, .int n] (MW dA h ad x) sz) (va_Qv (fun (u9 : Unit) => True) (fun (u9 : Unit) t9 => bW D (va_A (MW dA h ad x) sz) (MW dA h ad (MS.s_cod x 1)) t9) (va_A (MW dA h ad x) sz)) 0 0 (va_A (MW dA h ad x) sz) := by
  refine mkC (y := ⟨"SeriesVaultModel", "end", "(I)V"⟩) (cc := prog_14_method_4_code) (maxL := 2) (av := [.ref h, .int n]) (ws := MW dA h ad x) (sz := sz) (Qc := fun A => va_Qv (fun (u9 : Unit) => True) (fun (u9 : Unit) t9 => bW D A (MW dA h ad (MS.s_cod x 1)) t9) A) (by decide) (Nat.le_of_ble_eq_true rfl) ?_
  intro A p e s m below meth c ls hsz hB
  obtain ⟨hx, hb, hr, hml, hown, hin, hlk, hE, hK, hP, hD, hS, hA, hN, hl⟩ := hB
  have hown : s.vm.findClass "SeriesVaultModel" = some m.cls := hown
  have hl : lv_has ls 2 [(0, .ref h), (1, .int n)] := hl
  obtain ⟨H, hH⟩ : ∃ z, z = s.heap := ⟨_, rfl⟩
  have hP : va_P D vwCl (MW dA h ad x) H := by rw [hH]; exact hP
  have hS : va_S A s.heap H [] := by rw [hH]; exact hS
  rw [← hH]
  refine lv_aload_n hx hb d_M_end_0 rfl (lv_at hl 0 rfl) ?_
  refine lv_iload_n hx hb d_M_end_1 rfl (lv_at hl 1 rfl) ?_
  refine lv_if_lt hx hb d_M_end_2 (tgt := 13) rfl (fun g1 => ?_) (fun g1 => ?_)
  · have g1 := g1
    refine lv_iconst (v := 1) hx hb d_M_end_13 (by decide) ?_
    refine lv_goto hx hb d_M_end_14 (tgt := 18) rfl ?_
    refine pF (v := .int 1) hx hb hown hE hK hP hD hS 0 rfl rfl layM tyM tokM nmM 0 (by decide) w319 rfl rfl rfl (Nat.le_of_ble_eq_true rfl) d_M_end_18 (fun H locs hP hD hS => ?_)
    have hP : va_P D vwCl (MW dA h ad (MS.s_cod x 1)) H := hP
    have hD : va_D A (MW dA h ad (MS.s_cod x 1)) := hD
    refine lv_aload_n hx hb d_M_end_21 rfl (lv_at hl 0 rfl) ?_
    refine lv_aload_n hx hb d_M_end_22 rfl (lv_at hl 0 rfl) ?_
    refine gF (v := .int 1) hx hb hown hE hK hP 0 rfl rfl layM 0 (by decide) w319 rfl d_M_end_23 ?_
    refine lv_if_ne hx hb d_M_end_26 (tgt := 33) rfl (fun _ => ?_) (fun h9 => absurd h9 (by decide))
    refine lv_aload_n hx hb d_M_end_33 rfl (lv_at hl 0 rfl) ?_
    refine gF (v := .int (nI x.length)) hx hb hown hE hK hP 0 rfl rfl layM 2 (by decide) w320 rfl d_M_end_34 ?_
    refine pF (v := .int (nI x.length)) hx hb hown hE hK hP hD hS 0 rfl rfl layM tyM tokM nmM 2 (by decide) w320 rfl rfl rfl (Nat.le_of_ble_eq_true rfl) d_M_end_37 (fun H locs hP hD hS => ?_)
    have hP : va_P D vwCl (MW dA h ad (MS.s_length (MS.s_cod x 1) x.length)) H := hP
    have hD : va_D A (MW dA h ad (MS.s_length (MS.s_cod x 1) x.length)) := hD
    exact rfV hx hb hr hlk hS () trivial hP hD (Nat.le_of_ble_eq_true rfl) (Nat.le_of_ble_eq_true rfl) d_M_end_40
  · have g1 := g1
    refine lv_iload_n hx hb d_M_end_5 rfl (lv_at hl 1 rfl) ?_
    refine lv_aload_n hx hb d_M_end_6 rfl (lv_at hl 0 rfl) ?_
    refine gF (v := .int (nI x.length)) hx hb hown hE hK hP 0 rfl rfl layM 2 (by decide) w320 rfl d_M_end_7 ?_
    refine lv_icmp_le hx hb d_M_end_10 (tgt := 17) rfl (fun h9 => absurd h9 (Int32.not_le.mpr (h0.resolve_left g1))) (fun _ => ?_)
    refine lv_iconst (v := 1) hx hb d_M_end_13 (by decide) ?_
    refine lv_goto hx hb d_M_end_14 (tgt := 18) rfl ?_
    refine pF (v := .int 1) hx hb hown hE hK hP hD hS 0 rfl rfl layM tyM tokM nmM 0 (by decide) w319 rfl rfl rfl (Nat.le_of_ble_eq_true rfl) d_M_end_18 (fun H locs hP hD hS => ?_)
    have hP : va_P D vwCl (MW dA h ad (MS.s_cod x 1)) H := hP
    have hD : va_D A (MW dA h ad (MS.s_cod x 1)) := hD
    refine lv_aload_n hx hb d_M_end_21 rfl (lv_at hl 0 rfl) ?_
    refine lv_aload_n hx hb d_M_end_22 rfl (lv_at hl 0 rfl) ?_
    refine gF (v := .int 1) hx hb hown hE hK hP 0 rfl rfl layM 0 (by decide) w319 rfl d_M_end_23 ?_
    refine lv_if_ne hx hb d_M_end_26 (tgt := 33) rfl (fun _ => ?_) (fun h9 => absurd h9 (by decide))
    refine lv_aload_n hx hb d_M_end_33 rfl (lv_at hl 0 rfl) ?_
    refine gF (v := .int (nI x.length)) hx hb hown hE hK hP 0 rfl rfl layM 2 (by decide) w320 rfl d_M_end_34 ?_
    refine pF (v := .int (nI x.length)) hx hb hown hE hK hP hD hS 0 rfl rfl layM tyM tokM nmM 2 (by decide) w320 rfl rfl rfl (Nat.le_of_ble_eq_true rfl) d_M_end_37 (fun H locs hP hD hS => ?_)
    have hP : va_P D vwCl (MW dA h ad (MS.s_length (MS.s_cod x 1) x.length)) H := hP
    have hD : va_D A (MW dA h ad (MS.s_length (MS.s_cod x 1) x.length)) := hD
    exact rfV hx hb hr hlk hS () trivial hP hD (Nat.le_of_ble_eq_true rfl) (Nat.le_of_ble_eq_true rfl) d_M_end_40
set_option maxHeartbeats 4000000 in
set_option maxRecDepth 100000 in
theorem k_fault_0 (l : Launch) (D : va_G) (dA : Nat → ClassId) (sz : Nat) (h : Nat) (ad : Nat → Nat) (x : MS) : Met l ⟨"SeriesVaultModel", "fault", "(I)I"⟩ [Cond.code ⟨"SeriesVaultModel", "fault", "(I)I"⟩ prog_14_method_5_code 2 (some FieldType.int)] { frames := 1, cells := 0, slots := 0, locals := 0 } (pC D dA [.ref h, .int 0] (MW dA h ad x) sz) (va_Qi (fun (r9 : Int32) (u9 : Unit) => r9 = x.faultCode) (fun (u9 : Unit) t9 => bW D (va_A (MW dA h ad x) sz) (MW dA h ad (MS.s_cod x 0)) t9) (va_A (MW dA h ad x) sz)) 0 0 (va_A (MW dA h ad x) sz) := by
  refine mkC (y := ⟨"SeriesVaultModel", "fault", "(I)I"⟩) (cc := prog_14_method_5_code) (maxL := 2) (av := [.ref h, .int 0]) (ws := MW dA h ad x) (sz := sz) (Qc := fun A => va_Qi (fun (r9 : Int32) (u9 : Unit) => r9 = x.faultCode) (fun (u9 : Unit) t9 => bW D A (MW dA h ad (MS.s_cod x 0)) t9) A) (by decide) (Nat.le_of_ble_eq_true rfl) ?_
  intro A p e s m below meth c ls hsz hB
  obtain ⟨hx, hb, hr, hml, hown, hin, hlk, hE, hK, hP, hD, hS, hA, hN, hl⟩ := hB
  have hown : s.vm.findClass "SeriesVaultModel" = some m.cls := hown
  have hl : lv_has ls 2 [(0, .ref h), (1, .int 0)] := hl
  obtain ⟨H, hH⟩ : ∃ z, z = s.heap := ⟨_, rfl⟩
  have hP : va_P D vwCl (MW dA h ad x) H := by rw [hH]; exact hP
  have hS : va_S A s.heap H [] := by rw [hH]; exact hS
  rw [← hH]
  refine lv_aload_n hx hb d_M_fault_0 rfl (lv_at hl 0 rfl) ?_
  refine lv_iload_n hx hb d_M_fault_1 rfl (lv_at hl 1 rfl) ?_
  refine lv_if_eq hx hb d_M_fault_2 (tgt := 10) rfl (fun _ => ?_) (fun h9 => absurd (by decide) h9)
  refine lv_iconst (v := 0) hx hb d_M_fault_10 (by decide) ?_
  refine lv_goto hx hb d_M_fault_11 (tgt := 15) rfl ?_
  refine pF (v := .int 0) hx hb hown hE hK hP hD hS 0 rfl rfl layM tyM tokM nmM 0 (by decide) w319 rfl rfl rfl (Nat.le_of_ble_eq_true rfl) d_M_fault_15 (fun H locs hP hD hS => ?_)
  have hP : va_P D vwCl (MW dA h ad (MS.s_cod x 0)) H := hP
  have hD : va_D A (MW dA h ad (MS.s_cod x 0)) := hD
  refine lv_aload_n hx hb d_M_fault_18 rfl (lv_at hl 0 rfl) ?_
  refine gF (v := .int 0) hx hb hown hE hK hP 0 rfl rfl layM 0 (by decide) w319 rfl d_M_fault_19 ?_
  refine lv_if_le hx hb d_M_fault_22 (tgt := 29) rfl (fun _ => ?_) (fun h9 => absurd (by decide) h9)
  refine lv_iload_n hx hb d_M_fault_29 rfl (lv_at hl 1 rfl) ?_
  refine lv_if_ne hx hb d_M_fault_30 (tgt := 40) rfl (fun h9 => absurd (by decide) h9) (fun _ => ?_)
  refine lv_aload_n hx hb d_M_fault_33 rfl (lv_at hl 0 rfl) ?_
  refine gF (v := .int x.faultCode) hx hb hown hE hK hP 0 rfl rfl layM 3 (by decide) w321 rfl d_M_fault_34 ?_
  refine lv_goto hx hb d_M_fault_37 (tgt := 44) rfl ?_
  exact rfI hx hb hr hlk hS () rfl hP hD (Nat.le_of_ble_eq_true rfl) (Nat.le_of_ble_eq_true rfl) d_M_fault_44
set_option maxHeartbeats 4000000 in
set_option maxRecDepth 100000 in
theorem k_fault_1 (l : Launch) (D : va_G) (dA : Nat → ClassId) (sz : Nat) (h : Nat) (ad : Nat → Nat) (x : MS) : Met l ⟨"SeriesVaultModel", "fault", "(I)I"⟩ [Cond.code ⟨"SeriesVaultModel", "fault", "(I)I"⟩ prog_14_method_5_code 2 (some FieldType.int)] { frames := 1, cells := 0, slots := 0, locals := 0 } (pC D dA [.ref h, .int 1] (MW dA h ad x) sz) (va_Qi (fun (r9 : Int32) (u9 : Unit) => r9 = x.faultPlace) (fun (u9 : Unit) t9 => bW D (va_A (MW dA h ad x) sz) (MW dA h ad (MS.s_cod x 0)) t9) (va_A (MW dA h ad x) sz)) 0 0 (va_A (MW dA h ad x) sz) := by
  refine mkC (y := ⟨"SeriesVaultModel", "fault", "(I)I"⟩) (cc := prog_14_method_5_code) (maxL := 2) (av := [.ref h, .int 1]) (ws := MW dA h ad x) (sz := sz) (Qc := fun A => va_Qi (fun (r9 : Int32) (u9 : Unit) => r9 = x.faultPlace) (fun (u9 : Unit) t9 => bW D A (MW dA h ad (MS.s_cod x 0)) t9) A) (by decide) (Nat.le_of_ble_eq_true rfl) ?_
  intro A p e s m below meth c ls hsz hB
  obtain ⟨hx, hb, hr, hml, hown, hin, hlk, hE, hK, hP, hD, hS, hA, hN, hl⟩ := hB
  have hown : s.vm.findClass "SeriesVaultModel" = some m.cls := hown
  have hl : lv_has ls 2 [(0, .ref h), (1, .int 1)] := hl
  obtain ⟨H, hH⟩ : ∃ z, z = s.heap := ⟨_, rfl⟩
  have hP : va_P D vwCl (MW dA h ad x) H := by rw [hH]; exact hP
  have hS : va_S A s.heap H [] := by rw [hH]; exact hS
  rw [← hH]
  refine lv_aload_n hx hb d_M_fault_0 rfl (lv_at hl 0 rfl) ?_
  refine lv_iload_n hx hb d_M_fault_1 rfl (lv_at hl 1 rfl) ?_
  refine lv_if_eq hx hb d_M_fault_2 (tgt := 10) rfl (fun h9 => absurd h9 (by decide)) (fun _ => ?_)
  refine lv_iload_n hx hb d_M_fault_5 rfl (lv_at hl 1 rfl) ?_
  refine lv_iconst (v := 1) hx hb d_M_fault_6 (by decide) ?_
  refine lv_icmp_ne hx hb d_M_fault_7 (tgt := 14) rfl (fun h9 => absurd (by decide) h9) (fun _ => ?_)
  refine lv_iconst (v := 0) hx hb d_M_fault_10 (by decide) ?_
  refine lv_goto hx hb d_M_fault_11 (tgt := 15) rfl ?_
  refine pF (v := .int 0) hx hb hown hE hK hP hD hS 0 rfl rfl layM tyM tokM nmM 0 (by decide) w319 rfl rfl rfl (Nat.le_of_ble_eq_true rfl) d_M_fault_15 (fun H locs hP hD hS => ?_)
  have hP : va_P D vwCl (MW dA h ad (MS.s_cod x 0)) H := hP
  have hD : va_D A (MW dA h ad (MS.s_cod x 0)) := hD
  refine lv_aload_n hx hb d_M_fault_18 rfl (lv_at hl 0 rfl) ?_
  refine gF (v := .int 0) hx hb hown hE hK hP 0 rfl rfl layM 0 (by decide) w319 rfl d_M_fault_19 ?_
  refine lv_if_le hx hb d_M_fault_22 (tgt := 29) rfl (fun _ => ?_) (fun h9 => absurd (by decide) h9)
  refine lv_iload_n hx hb d_M_fault_29 rfl (lv_at hl 1 rfl) ?_
  refine lv_if_ne hx hb d_M_fault_30 (tgt := 40) rfl (fun _ => ?_) (fun h9 => absurd h9 (by decide))
  refine lv_aload_n hx hb d_M_fault_40 rfl (lv_at hl 0 rfl) ?_
  refine gF (v := .int x.faultPlace) hx hb hown hE hK hP 0 rfl rfl layM 4 (by decide) w322 rfl d_M_fault_41 ?_
  exact rfI hx hb hr hlk hS () rfl hP hD (Nat.le_of_ble_eq_true rfl) (Nat.le_of_ble_eq_true rfl) d_M_fault_44
set_option maxHeartbeats 4000000 in
set_option maxRecDepth 100000 in
theorem k_fault_x (l : Launch) (D : va_G) (dA : Nat → ClassId) (sz : Nat) (h : Nat) (ad : Nat → Nat) (x : MS) (n : Int32) (h0 : ¬ n = 0) (h1 : ¬ n = 1) : Met l ⟨"SeriesVaultModel", "fault", "(I)I"⟩ [Cond.code ⟨"SeriesVaultModel", "fault", "(I)I"⟩ prog_14_method_5_code 2 (some FieldType.int)] { frames := 1, cells := 0, slots := 0, locals := 0 } (pC D dA [.ref h, .int n] (MW dA h ad x) sz) (va_Qi (fun (r9 : Int32) (u9 : Unit) => r9 = 0) (fun (u9 : Unit) t9 => bW D (va_A (MW dA h ad x) sz) (MW dA h ad (MS.s_cod x 1)) t9) (va_A (MW dA h ad x) sz)) 0 0 (va_A (MW dA h ad x) sz) := by
  refine mkC (y := ⟨"SeriesVaultModel", "fault", "(I)I"⟩) (cc := prog_14_method_5_code) (maxL := 2) (av := [.ref h, .int n]) (ws := MW dA h ad x) (sz := sz) (Qc := fun A => va_Qi (fun (r9 : Int32) (u9 : Unit) => r9 = 0) (fun (u9 : Unit) t9 => bW D A (MW dA h ad (MS.s_cod x 1)) t9) A) (by decide) (Nat.le_of_ble_eq_true rfl) ?_
  intro A p e s m below meth c ls hsz hB
  obtain ⟨hx, hb, hr, hml, hown, hin, hlk, hE, hK, hP, hD, hS, hA, hN, hl⟩ := hB
  have hown : s.vm.findClass "SeriesVaultModel" = some m.cls := hown
  have hl : lv_has ls 2 [(0, .ref h), (1, .int n)] := hl
  obtain ⟨H, hH⟩ : ∃ z, z = s.heap := ⟨_, rfl⟩
  have hP : va_P D vwCl (MW dA h ad x) H := by rw [hH]; exact hP
  have hS : va_S A s.heap H [] := by rw [hH]; exact hS
  rw [← hH]
  refine lv_aload_n hx hb d_M_fault_0 rfl (lv_at hl 0 rfl) ?_
  refine lv_iload_n hx hb d_M_fault_1 rfl (lv_at hl 1 rfl) ?_
  refine lv_if_eq hx hb d_M_fault_2 (tgt := 10) rfl (fun h9 => absurd h9 h0) (fun _ => ?_)
  refine lv_iload_n hx hb d_M_fault_5 rfl (lv_at hl 1 rfl) ?_
  refine lv_iconst (v := 1) hx hb d_M_fault_6 (by decide) ?_
  refine lv_icmp_ne hx hb d_M_fault_7 (tgt := 14) rfl (fun _ => ?_) (fun h9 => absurd h9 h1)
  refine lv_iconst (v := 1) hx hb d_M_fault_14 (by decide) ?_
  refine pF (v := .int 1) hx hb hown hE hK hP hD hS 0 rfl rfl layM tyM tokM nmM 0 (by decide) w319 rfl rfl rfl (Nat.le_of_ble_eq_true rfl) d_M_fault_15 (fun H locs hP hD hS => ?_)
  have hP : va_P D vwCl (MW dA h ad (MS.s_cod x 1)) H := hP
  have hD : va_D A (MW dA h ad (MS.s_cod x 1)) := hD
  refine lv_aload_n hx hb d_M_fault_18 rfl (lv_at hl 0 rfl) ?_
  refine gF (v := .int 1) hx hb hown hE hK hP 0 rfl rfl layM 0 (by decide) w319 rfl d_M_fault_19 ?_
  refine lv_if_le hx hb d_M_fault_22 (tgt := 29) rfl (fun h9 => absurd h9 (by decide)) (fun _ => ?_)
  refine lv_iconst (v := 0) hx hb d_M_fault_25 (by decide) ?_
  refine lv_goto hx hb d_M_fault_26 (tgt := 44) rfl ?_
  exact rfI hx hb hr hlk hS () rfl hP hD (Nat.le_of_ble_eq_true rfl) (Nat.le_of_ble_eq_true rfl) d_M_fault_44
/-- the disk made new -/
def MS.fmt (x : MS) (n j : Nat) : MS := MS.s_isTable (MS.s_fresh (MS.s_used (MS.s_block (MS.s_kept (MS.s_records (MS.s_parcelCount (MS.s_baseHorizon (MS.s_horizon (MS.s_points (MS.s_catalogBlocks (MS.s_baseSeries (MS.s_seriesCount (MS.s_written (MS.s_cutLeft (MS.s_on (MS.s_journal (MS.s_blocks (MS.s_cod x 0) n) j) true) (-1)) 0) 0) 0) 0) 0) 0) 0) 0) 0) 0) 0) 0) false) false
set_option maxHeartbeats 4000000 in
set_option maxRecDepth 100000 in
theorem k_format (l : Launch) (D : va_G) (dA : Nat → ClassId) (sz : Nat) (h : Nat) (ad : Nat → Nat) (x : MS) (n : Nat) (j : Nat) (h1 : 16 ≤ n) (h2 : n ≤ 256) (h3 : 2 ≤ j) (h4 : j ≤ n - 8) : Met l ⟨"SeriesVaultModel", "format", "(II)V"⟩ [Cond.code ⟨"SeriesVaultModel", "format", "(II)V"⟩ prog_14_method_6_code 3 none] { frames := 1, cells := 0, slots := 0, locals := 0 } (pC D dA [.ref h, .int (nI n), .int (nI j)] (MW dA h ad x) sz) (va_Qv (fun (u9 : MS) => u9 = x.fmt n j) (fun (u9 : MS) t9 => bW D (va_A (MW dA h ad x) sz) (MW dA h ad u9) t9) (va_A (MW dA h ad x) sz)) 0 0 (va_A (MW dA h ad x) sz) := by
  refine mkC (y := ⟨"SeriesVaultModel", "format", "(II)V"⟩) (cc := prog_14_method_6_code) (maxL := 3) (av := [.ref h, .int (nI n), .int (nI j)]) (ws := MW dA h ad x) (sz := sz) (Qc := fun A => va_Qv (fun (u9 : MS) => u9 = x.fmt n j) (fun (u9 : MS) t9 => bW D A (MW dA h ad u9) t9) A) (by decide) (Nat.le_of_ble_eq_true rfl) ?_
  intro A p e s m below meth c ls hsz hB
  obtain ⟨hx, hb, hr, hml, hown, hin, hlk, hE, hK, hP, hD, hS, hA, hN, hl⟩ := hB
  have hown : s.vm.findClass "SeriesVaultModel" = some m.cls := hown
  have hl : lv_has ls 3 [(0, .ref h), (1, .int (nI n)), (2, .int (nI j))] := hl
  obtain ⟨H, hH⟩ : ∃ z, z = s.heap := ⟨_, rfl⟩
  have hP : va_P D vwCl (MW dA h ad x) H := by rw [hH]; exact hP
  have hS : va_S A s.heap H [] := by rw [hH]; exact hS
  rw [← hH]
  refine lv_aload_n hx hb d_M_format_0 rfl (lv_at hl 0 rfl) ?_
  refine lv_iload_n hx hb d_M_format_1 rfl (lv_at hl 1 rfl) ?_
  refine lv_bipush (v := 16) hx hb d_M_format_2 (by decide) ?_
  refine lv_icmp_lt hx hb d_M_format_4 (tgt := 27) rfl (fun h9 => absurd h9 (mt (nI_ltI (a := n) (b := 16) (by omega) (by omega)).mp (Nat.not_lt.mpr h1))) (fun _ => ?_)
  refine lv_iload_n hx hb d_M_format_7 rfl (lv_at hl 1 rfl) ?_
  refine lv_sipush (v := 256) hx hb d_M_format_8 (by decide) ?_
  refine lv_icmp_gt hx hb d_M_format_11 (tgt := 27) rfl (fun h9 => absurd h9 (mt (nI_ltI (a := 256) (b := n) (by omega) (by omega)).mp (Nat.not_lt.mpr h2))) (fun _ => ?_)
  refine lv_iload_n hx hb d_M_format_14 rfl (lv_at hl 2 rfl) ?_
  refine lv_iconst (v := 2) hx hb d_M_format_15 (by decide) ?_
  refine lv_icmp_lt hx hb d_M_format_16 (tgt := 27) rfl (fun h9 => absurd h9 (mt (nI_ltI (a := j) (b := 2) (by omega) (by omega)).mp (Nat.not_lt.mpr h3))) (fun _ => ?_)
  refine lv_iload_n hx hb d_M_format_19 rfl (lv_at hl 2 rfl) ?_
  refine lv_iload_n hx hb d_M_format_20 rfl (lv_at hl 1 rfl) ?_
  refine lv_bipush (v := 8) hx hb d_M_format_21 (by decide) ?_
  refine lv_isub hx hb d_M_format_23 (tpi (y := nI (n - 8)) (pk_sub (a := n) (b := 8) (by omega)) ?_)
  refine lv_icmp_le hx hb d_M_format_24 (tgt := 31) rfl (fun _ => ?_) (fun h9 => absurd ((nI_leI (a := j) (b := n - 8) (by omega) (by omega)).mpr h4) h9)
  refine lv_iconst (v := 0) hx hb d_M_format_31 (by decide) ?_
  refine pF (v := .int 0) hx hb hown hE hK hP hD hS 0 rfl rfl layM tyM tokM nmM 0 (by decide) w319 rfl rfl rfl (Nat.le_of_ble_eq_true rfl) d_M_format_32 (fun H locs hP hD hS => ?_)
  have hP : va_P D vwCl (MW dA h ad (MS.s_cod x 0)) H := hP
  have hD : va_D A (MW dA h ad (MS.s_cod x 0)) := hD
  refine lv_aload_n hx hb d_M_format_35 rfl (lv_at hl 0 rfl) ?_
  refine gF (v := .int 0) hx hb hown hE hK hP 0 rfl rfl layM 0 (by decide) w319 rfl d_M_format_36 ?_
  refine lv_if_le hx hb d_M_format_39 (tgt := 43) rfl (fun _ => ?_) (fun h9 => absurd (by decide) h9)
  refine lv_aload_n hx hb d_M_format_43 rfl (lv_at hl 0 rfl) ?_
  refine lv_iload_n hx hb d_M_format_44 rfl (lv_at hl 1 rfl) ?_
  refine pF (v := .int (nI n)) hx hb hown hE hK hP hD hS 0 rfl rfl layM tyM tokM nmM 5 (by decide) w416 rfl rfl rfl (Nat.le_of_ble_eq_true rfl) d_M_format_45 (fun H locs hP hD hS => ?_)
  have hP : va_P D vwCl (MW dA h ad (MS.s_blocks (MS.s_cod x 0) n)) H := hP
  have hD : va_D A (MW dA h ad (MS.s_blocks (MS.s_cod x 0) n)) := hD
  refine lv_aload_n hx hb d_M_format_48 rfl (lv_at hl 0 rfl) ?_
  refine lv_iload_n hx hb d_M_format_49 rfl (lv_at hl 2 rfl) ?_
  refine pF (v := .int (nI j)) hx hb hown hE hK hP hD hS 0 rfl rfl layM tyM tokM nmM 6 (by decide) w417 rfl rfl rfl (Nat.le_of_ble_eq_true rfl) d_M_format_50 (fun H locs hP hD hS => ?_)
  have hP : va_P D vwCl (MW dA h ad (MS.s_journal (MS.s_blocks (MS.s_cod x 0) n) j)) H := hP
  have hD : va_D A (MW dA h ad (MS.s_journal (MS.s_blocks (MS.s_cod x 0) n) j)) := hD
  refine lv_aload_n hx hb d_M_format_53 rfl (lv_at hl 0 rfl) ?_
  refine lv_iconst (v := 1) hx hb d_M_format_54 (by decide) ?_
  refine pF (v := .int (bI true)) hx hb hown hE hK hP hD hS 0 rfl rfl layM tyM tokM nmM 7 (by decide) w324 rfl (bI_nar true) (bI_fit true) (Nat.le_of_ble_eq_true rfl) d_M_format_55 (fun H locs hP hD hS => ?_)
  have hP : va_P D vwCl (MW dA h ad (MS.s_on (MS.s_journal (MS.s_blocks (MS.s_cod x 0) n) j) true)) H := hP
  have hD : va_D A (MW dA h ad (MS.s_on (MS.s_journal (MS.s_blocks (MS.s_cod x 0) n) j) true)) := hD
  refine lv_aload_n hx hb d_M_format_58 rfl (lv_at hl 0 rfl) ?_
  refine lv_iconst (v := (-1)) hx hb d_M_format_59 (by decide) ?_
  refine pF (v := .int (-1)) hx hb hown hE hK hP hD hS 0 rfl rfl layM tyM tokM nmM 8 (by decide) w325 rfl rfl rfl (Nat.le_of_ble_eq_true rfl) d_M_format_60 (fun H locs hP hD hS => ?_)
  have hP : va_P D vwCl (MW dA h ad (MS.s_cutLeft (MS.s_on (MS.s_journal (MS.s_blocks (MS.s_cod x 0) n) j) true) (-1))) H := hP
  have hD : va_D A (MW dA h ad (MS.s_cutLeft (MS.s_on (MS.s_journal (MS.s_blocks (MS.s_cod x 0) n) j) true) (-1))) := hD
  refine lv_aload_n hx hb d_M_format_63 rfl (lv_at hl 0 rfl) ?_
  refine lv_iconst (v := 0) hx hb d_M_format_64 (by decide) ?_
  refine pF (v := .int (nI 0)) hx hb hown hE hK hP hD hS 0 rfl rfl layM tyM tokM nmM 9 (by decide) w323 rfl rfl rfl (Nat.le_of_ble_eq_true rfl) d_M_format_65 (fun H locs hP hD hS => ?_)
  have hP : va_P D vwCl (MW dA h ad (MS.s_written (MS.s_cutLeft (MS.s_on (MS.s_journal (MS.s_blocks (MS.s_cod x 0) n) j) true) (-1)) 0)) H := hP
  have hD : va_D A (MW dA h ad (MS.s_written (MS.s_cutLeft (MS.s_on (MS.s_journal (MS.s_blocks (MS.s_cod x 0) n) j) true) (-1)) 0)) := hD
  refine lv_aload_n hx hb d_M_format_68 rfl (lv_at hl 0 rfl) ?_
  refine lv_iconst (v := 0) hx hb d_M_format_69 (by decide) ?_
  refine pF (v := .int (nI 0)) hx hb hown hE hK hP hD hS 0 rfl rfl layM tyM tokM nmM 12 (by decide) w332 rfl rfl rfl (Nat.le_of_ble_eq_true rfl) d_M_format_70 (fun H locs hP hD hS => ?_)
  have hP : va_P D vwCl (MW dA h ad (MS.s_seriesCount (MS.s_written (MS.s_cutLeft (MS.s_on (MS.s_journal (MS.s_blocks (MS.s_cod x 0) n) j) true) (-1)) 0) 0)) H := hP
  have hD : va_D A (MW dA h ad (MS.s_seriesCount (MS.s_written (MS.s_cutLeft (MS.s_on (MS.s_journal (MS.s_blocks (MS.s_cod x 0) n) j) true) (-1)) 0) 0)) := hD
  refine lv_aload_n hx hb d_M_format_73 rfl (lv_at hl 0 rfl) ?_
  refine lv_iconst (v := 0) hx hb d_M_format_74 (by decide) ?_
  refine pF (v := .int (nI 0)) hx hb hown hE hK hP hD hS 0 rfl rfl layM tyM tokM nmM 14 (by decide) w418 rfl rfl rfl (Nat.le_of_ble_eq_true rfl) d_M_format_75 (fun H locs hP hD hS => ?_)
  have hP : va_P D vwCl (MW dA h ad (MS.s_baseSeries (MS.s_seriesCount (MS.s_written (MS.s_cutLeft (MS.s_on (MS.s_journal (MS.s_blocks (MS.s_cod x 0) n) j) true) (-1)) 0) 0) 0)) H := hP
  have hD : va_D A (MW dA h ad (MS.s_baseSeries (MS.s_seriesCount (MS.s_written (MS.s_cutLeft (MS.s_on (MS.s_journal (MS.s_blocks (MS.s_cod x 0) n) j) true) (-1)) 0) 0) 0)) := hD
  refine lv_aload_n hx hb d_M_format_78 rfl (lv_at hl 0 rfl) ?_
  refine lv_iconst (v := 0) hx hb d_M_format_79 (by decide) ?_
  refine pF (v := .int (nI 0)) hx hb hown hE hK hP hD hS 0 rfl rfl layM tyM tokM nmM 16 (by decide) w419 rfl rfl rfl (Nat.le_of_ble_eq_true rfl) d_M_format_80 (fun H locs hP hD hS => ?_)
  have hP : va_P D vwCl (MW dA h ad (MS.s_catalogBlocks (MS.s_baseSeries (MS.s_seriesCount (MS.s_written (MS.s_cutLeft (MS.s_on (MS.s_journal (MS.s_blocks (MS.s_cod x 0) n) j) true) (-1)) 0) 0) 0) 0)) H := hP
  have hD : va_D A (MW dA h ad (MS.s_catalogBlocks (MS.s_baseSeries (MS.s_seriesCount (MS.s_written (MS.s_cutLeft (MS.s_on (MS.s_journal (MS.s_blocks (MS.s_cod x 0) n) j) true) (-1)) 0) 0) 0) 0)) := hD
  refine lv_aload_n hx hb d_M_format_83 rfl (lv_at hl 0 rfl) ?_
  refine lv_iconst (v := 0) hx hb d_M_format_84 (by decide) ?_
  refine pF (v := .int (nI 0)) hx hb hown hE hK hP hD hS 0 rfl rfl layM tyM tokM nmM 23 (by decide) w420 rfl rfl rfl (Nat.le_of_ble_eq_true rfl) d_M_format_85 (fun H locs hP hD hS => ?_)
  have hP : va_P D vwCl (MW dA h ad (MS.s_points (MS.s_catalogBlocks (MS.s_baseSeries (MS.s_seriesCount (MS.s_written (MS.s_cutLeft (MS.s_on (MS.s_journal (MS.s_blocks (MS.s_cod x 0) n) j) true) (-1)) 0) 0) 0) 0) 0)) H := hP
  have hD : va_D A (MW dA h ad (MS.s_points (MS.s_catalogBlocks (MS.s_baseSeries (MS.s_seriesCount (MS.s_written (MS.s_cutLeft (MS.s_on (MS.s_journal (MS.s_blocks (MS.s_cod x 0) n) j) true) (-1)) 0) 0) 0) 0) 0)) := hD
  refine lv_aload_n hx hb d_M_format_88 rfl (lv_at hl 0 rfl) ?_
  refine lv_lconst (v := 0) hx hb d_M_format_89 (by decide) ?_
  refine pF (v := .long 0) hx hb hown hE hK hP hD hS 0 rfl rfl layM tyM tokM nmM 24 (by decide) w421 rfl rfl rfl (Nat.le_of_ble_eq_true rfl) d_M_format_90 (fun H locs hP hD hS => ?_)
  have hP : va_P D vwCl (MW dA h ad (MS.s_horizon (MS.s_points (MS.s_catalogBlocks (MS.s_baseSeries (MS.s_seriesCount (MS.s_written (MS.s_cutLeft (MS.s_on (MS.s_journal (MS.s_blocks (MS.s_cod x 0) n) j) true) (-1)) 0) 0) 0) 0) 0) 0)) H := hP
  have hD : va_D A (MW dA h ad (MS.s_horizon (MS.s_points (MS.s_catalogBlocks (MS.s_baseSeries (MS.s_seriesCount (MS.s_written (MS.s_cutLeft (MS.s_on (MS.s_journal (MS.s_blocks (MS.s_cod x 0) n) j) true) (-1)) 0) 0) 0) 0) 0) 0)) := hD
  refine lv_aload_n hx hb d_M_format_93 rfl (lv_at hl 0 rfl) ?_
  refine lv_lconst (v := 0) hx hb d_M_format_94 (by decide) ?_
  refine pF (v := .long 0) hx hb hown hE hK hP hD hS 0 rfl rfl layM tyM tokM nmM 25 (by decide) w422 rfl rfl rfl (Nat.le_of_ble_eq_true rfl) d_M_format_95 (fun H locs hP hD hS => ?_)
  have hP : va_P D vwCl (MW dA h ad (MS.s_baseHorizon (MS.s_horizon (MS.s_points (MS.s_catalogBlocks (MS.s_baseSeries (MS.s_seriesCount (MS.s_written (MS.s_cutLeft (MS.s_on (MS.s_journal (MS.s_blocks (MS.s_cod x 0) n) j) true) (-1)) 0) 0) 0) 0) 0) 0) 0)) H := hP
  have hD : va_D A (MW dA h ad (MS.s_baseHorizon (MS.s_horizon (MS.s_points (MS.s_catalogBlocks (MS.s_baseSeries (MS.s_seriesCount (MS.s_written (MS.s_cutLeft (MS.s_on (MS.s_journal (MS.s_blocks (MS.s_cod x 0) n) j) true) (-1)) 0) 0) 0) 0) 0) 0) 0)) := hD
  refine lv_aload_n hx hb d_M_format_98 rfl (lv_at hl 0 rfl) ?_
  refine lv_iconst (v := 0) hx hb d_M_format_99 (by decide) ?_
  refine pF (v := .int (nI 0)) hx hb hown hE hK hP hD hS 0 rfl rfl layM tyM tokM nmM 28 (by decide) w344 rfl rfl rfl (Nat.le_of_ble_eq_true rfl) d_M_format_100 (fun H locs hP hD hS => ?_)
  have hP : va_P D vwCl (MW dA h ad (MS.s_parcelCount (MS.s_baseHorizon (MS.s_horizon (MS.s_points (MS.s_catalogBlocks (MS.s_baseSeries (MS.s_seriesCount (MS.s_written (MS.s_cutLeft (MS.s_on (MS.s_journal (MS.s_blocks (MS.s_cod x 0) n) j) true) (-1)) 0) 0) 0) 0) 0) 0) 0) 0)) H := hP
  have hD : va_D A (MW dA h ad (MS.s_parcelCount (MS.s_baseHorizon (MS.s_horizon (MS.s_points (MS.s_catalogBlocks (MS.s_baseSeries (MS.s_seriesCount (MS.s_written (MS.s_cutLeft (MS.s_on (MS.s_journal (MS.s_blocks (MS.s_cod x 0) n) j) true) (-1)) 0) 0) 0) 0) 0) 0) 0) 0)) := hD
  refine lv_aload_n hx hb d_M_format_103 rfl (lv_at hl 0 rfl) ?_
  refine lv_iconst (v := 0) hx hb d_M_format_104 (by decide) ?_
  refine pF (v := .int (nI 0)) hx hb hown hE hK hP hD hS 0 rfl rfl layM tyM tokM nmM 37 (by decide) w338 rfl rfl rfl (Nat.le_of_ble_eq_true rfl) d_M_format_105 (fun H locs hP hD hS => ?_)
  have hP : va_P D vwCl (MW dA h ad (MS.s_records (MS.s_parcelCount (MS.s_baseHorizon (MS.s_horizon (MS.s_points (MS.s_catalogBlocks (MS.s_baseSeries (MS.s_seriesCount (MS.s_written (MS.s_cutLeft (MS.s_on (MS.s_journal (MS.s_blocks (MS.s_cod x 0) n) j) true) (-1)) 0) 0) 0) 0) 0) 0) 0) 0) 0)) H := hP
  have hD : va_D A (MW dA h ad (MS.s_records (MS.s_parcelCount (MS.s_baseHorizon (MS.s_horizon (MS.s_points (MS.s_catalogBlocks (MS.s_baseSeries (MS.s_seriesCount (MS.s_written (MS.s_cutLeft (MS.s_on (MS.s_journal (MS.s_blocks (MS.s_cod x 0) n) j) true) (-1)) 0) 0) 0) 0) 0) 0) 0) 0) 0)) := hD
  refine lv_aload_n hx hb d_M_format_108 rfl (lv_at hl 0 rfl) ?_
  refine lv_iconst (v := 0) hx hb d_M_format_109 (by decide) ?_
  refine pF (v := .int (nI 0)) hx hb hown hE hK hP hD hS 0 rfl rfl layM tyM tokM nmM 38 (by decide) w339 rfl rfl rfl (Nat.le_of_ble_eq_true rfl) d_M_format_110 (fun H locs hP hD hS => ?_)
  have hP : va_P D vwCl (MW dA h ad (MS.s_kept (MS.s_records (MS.s_parcelCount (MS.s_baseHorizon (MS.s_horizon (MS.s_points (MS.s_catalogBlocks (MS.s_baseSeries (MS.s_seriesCount (MS.s_written (MS.s_cutLeft (MS.s_on (MS.s_journal (MS.s_blocks (MS.s_cod x 0) n) j) true) (-1)) 0) 0) 0) 0) 0) 0) 0) 0) 0) 0)) H := hP
  have hD : va_D A (MW dA h ad (MS.s_kept (MS.s_records (MS.s_parcelCount (MS.s_baseHorizon (MS.s_horizon (MS.s_points (MS.s_catalogBlocks (MS.s_baseSeries (MS.s_seriesCount (MS.s_written (MS.s_cutLeft (MS.s_on (MS.s_journal (MS.s_blocks (MS.s_cod x 0) n) j) true) (-1)) 0) 0) 0) 0) 0) 0) 0) 0) 0) 0)) := hD
  refine lv_aload_n hx hb d_M_format_113 rfl (lv_at hl 0 rfl) ?_
  refine lv_iconst (v := 0) hx hb d_M_format_114 (by decide) ?_
  refine pF (v := .int (nI 0)) hx hb hown hE hK hP hD hS 0 rfl rfl layM tyM tokM nmM 39 (by decide) w423 rfl rfl rfl (Nat.le_of_ble_eq_true rfl) d_M_format_115 (fun H locs hP hD hS => ?_)
  have hP : va_P D vwCl (MW dA h ad (MS.s_block (MS.s_kept (MS.s_records (MS.s_parcelCount (MS.s_baseHorizon (MS.s_horizon (MS.s_points (MS.s_catalogBlocks (MS.s_baseSeries (MS.s_seriesCount (MS.s_written (MS.s_cutLeft (MS.s_on (MS.s_journal (MS.s_blocks (MS.s_cod x 0) n) j) true) (-1)) 0) 0) 0) 0) 0) 0) 0) 0) 0) 0) 0)) H := hP
  have hD : va_D A (MW dA h ad (MS.s_block (MS.s_kept (MS.s_records (MS.s_parcelCount (MS.s_baseHorizon (MS.s_horizon (MS.s_points (MS.s_catalogBlocks (MS.s_baseSeries (MS.s_seriesCount (MS.s_written (MS.s_cutLeft (MS.s_on (MS.s_journal (MS.s_blocks (MS.s_cod x 0) n) j) true) (-1)) 0) 0) 0) 0) 0) 0) 0) 0) 0) 0) 0)) := hD
  refine lv_aload_n hx hb d_M_format_118 rfl (lv_at hl 0 rfl) ?_
  refine lv_iconst (v := 0) hx hb d_M_format_119 (by decide) ?_
  refine pF (v := .int (nI 0)) hx hb hown hE hK hP hD hS 0 rfl rfl layM tyM tokM nmM 40 (by decide) w424 rfl rfl rfl (Nat.le_of_ble_eq_true rfl) d_M_format_120 (fun H locs hP hD hS => ?_)
  have hP : va_P D vwCl (MW dA h ad (MS.s_used (MS.s_block (MS.s_kept (MS.s_records (MS.s_parcelCount (MS.s_baseHorizon (MS.s_horizon (MS.s_points (MS.s_catalogBlocks (MS.s_baseSeries (MS.s_seriesCount (MS.s_written (MS.s_cutLeft (MS.s_on (MS.s_journal (MS.s_blocks (MS.s_cod x 0) n) j) true) (-1)) 0) 0) 0) 0) 0) 0) 0) 0) 0) 0) 0) 0)) H := hP
  have hD : va_D A (MW dA h ad (MS.s_used (MS.s_block (MS.s_kept (MS.s_records (MS.s_parcelCount (MS.s_baseHorizon (MS.s_horizon (MS.s_points (MS.s_catalogBlocks (MS.s_baseSeries (MS.s_seriesCount (MS.s_written (MS.s_cutLeft (MS.s_on (MS.s_journal (MS.s_blocks (MS.s_cod x 0) n) j) true) (-1)) 0) 0) 0) 0) 0) 0) 0) 0) 0) 0) 0) 0)) := hD
  refine lv_aload_n hx hb d_M_format_123 rfl (lv_at hl 0 rfl) ?_
  refine lv_iconst (v := 0) hx hb d_M_format_124 (by decide) ?_
  refine pF (v := .int (bI false)) hx hb hown hE hK hP hD hS 0 rfl rfl layM tyM tokM nmM 41 (by decide) w337 rfl (bI_nar false) (bI_fit false) (Nat.le_of_ble_eq_true rfl) d_M_format_125 (fun H locs hP hD hS => ?_)
  have hP : va_P D vwCl (MW dA h ad (MS.s_fresh (MS.s_used (MS.s_block (MS.s_kept (MS.s_records (MS.s_parcelCount (MS.s_baseHorizon (MS.s_horizon (MS.s_points (MS.s_catalogBlocks (MS.s_baseSeries (MS.s_seriesCount (MS.s_written (MS.s_cutLeft (MS.s_on (MS.s_journal (MS.s_blocks (MS.s_cod x 0) n) j) true) (-1)) 0) 0) 0) 0) 0) 0) 0) 0) 0) 0) 0) 0) false)) H := hP
  have hD : va_D A (MW dA h ad (MS.s_fresh (MS.s_used (MS.s_block (MS.s_kept (MS.s_records (MS.s_parcelCount (MS.s_baseHorizon (MS.s_horizon (MS.s_points (MS.s_catalogBlocks (MS.s_baseSeries (MS.s_seriesCount (MS.s_written (MS.s_cutLeft (MS.s_on (MS.s_journal (MS.s_blocks (MS.s_cod x 0) n) j) true) (-1)) 0) 0) 0) 0) 0) 0) 0) 0) 0) 0) 0) 0) false)) := hD
  refine lv_aload_n hx hb d_M_format_128 rfl (lv_at hl 0 rfl) ?_
  refine lv_iconst (v := 0) hx hb d_M_format_129 (by decide) ?_
  refine pF (v := .int (bI false)) hx hb hown hE hK hP hD hS 0 rfl rfl layM tyM tokM nmM 71 (by decide) w326 rfl (bI_nar false) (bI_fit false) (Nat.le_of_ble_eq_true rfl) d_M_format_130 (fun H locs hP hD hS => ?_)
  have hP : va_P D vwCl (MW dA h ad (MS.s_isTable (MS.s_fresh (MS.s_used (MS.s_block (MS.s_kept (MS.s_records (MS.s_parcelCount (MS.s_baseHorizon (MS.s_horizon (MS.s_points (MS.s_catalogBlocks (MS.s_baseSeries (MS.s_seriesCount (MS.s_written (MS.s_cutLeft (MS.s_on (MS.s_journal (MS.s_blocks (MS.s_cod x 0) n) j) true) (-1)) 0) 0) 0) 0) 0) 0) 0) 0) 0) 0) 0) 0) false) false)) H := hP
  have hD : va_D A (MW dA h ad (MS.s_isTable (MS.s_fresh (MS.s_used (MS.s_block (MS.s_kept (MS.s_records (MS.s_parcelCount (MS.s_baseHorizon (MS.s_horizon (MS.s_points (MS.s_catalogBlocks (MS.s_baseSeries (MS.s_seriesCount (MS.s_written (MS.s_cutLeft (MS.s_on (MS.s_journal (MS.s_blocks (MS.s_cod x 0) n) j) true) (-1)) 0) 0) 0) 0) 0) 0) 0) 0) 0) 0) 0) 0) false) false)) := hD
  exact rfV hx hb hr hlk hS (MS.s_isTable (MS.s_fresh (MS.s_used (MS.s_block (MS.s_kept (MS.s_records (MS.s_parcelCount (MS.s_baseHorizon (MS.s_horizon (MS.s_points (MS.s_catalogBlocks (MS.s_baseSeries (MS.s_seriesCount (MS.s_written (MS.s_cutLeft (MS.s_on (MS.s_journal (MS.s_blocks (MS.s_cod x 0) n) j) true) (-1)) 0) 0) 0) 0) 0) 0) 0) 0) 0) 0) 0) 0) false) false) rfl hP hD (Nat.le_of_ble_eq_true rfl) (Nat.le_of_ble_eq_true rfl) d_M_format_133
set_option maxHeartbeats 4000000 in
set_option maxRecDepth 100000 in
theorem k_format_x (l : Launch) (D : va_G) (dA : Nat → ClassId) (sz : Nat) (h : Nat) (ad : Nat → Nat) (x : MS) (n : Int32) (j : Int32) (h0 : n < 16 ∨ 256 < n ∨ j < 2 ∨ n - 8 < j) : Met l ⟨"SeriesVaultModel", "format", "(II)V"⟩ [Cond.code ⟨"SeriesVaultModel", "format", "(II)V"⟩ prog_14_method_6_code 3 none] { frames := 1, cells := 0, slots := 0, locals := 0 } (pC D dA [.ref h, .int n, .int j] (MW dA h ad x) sz) (va_Qv (fun (u9 : Unit) => True) (fun (u9 : Unit) t9 => bW D (va_A (MW dA h ad x) sz) (MW dA h ad (MS.s_cod x 1)) t9) (va_A (MW dA h ad x) sz)) 0 0 (va_A (MW dA h ad x) sz) := by
  refine mkC (y := ⟨"SeriesVaultModel", "format", "(II)V"⟩) (cc := prog_14_method_6_code) (maxL := 3) (av := [.ref h, .int n, .int j]) (ws := MW dA h ad x) (sz := sz) (Qc := fun A => va_Qv (fun (u9 : Unit) => True) (fun (u9 : Unit) t9 => bW D A (MW dA h ad (MS.s_cod x 1)) t9) A) (by decide) (Nat.le_of_ble_eq_true rfl) ?_
  intro A p e s m below meth c ls hsz hB
  obtain ⟨hx, hb, hr, hml, hown, hin, hlk, hE, hK, hP, hD, hS, hA, hN, hl⟩ := hB
  have hown : s.vm.findClass "SeriesVaultModel" = some m.cls := hown
  have hl : lv_has ls 3 [(0, .ref h), (1, .int n), (2, .int j)] := hl
  obtain ⟨H, hH⟩ : ∃ z, z = s.heap := ⟨_, rfl⟩
  have hP : va_P D vwCl (MW dA h ad x) H := by rw [hH]; exact hP
  have hS : va_S A s.heap H [] := by rw [hH]; exact hS
  rw [← hH]
  refine lv_aload_n hx hb d_M_format_0 rfl (lv_at hl 0 rfl) ?_
  refine lv_iload_n hx hb d_M_format_1 rfl (lv_at hl 1 rfl) ?_
  refine lv_bipush (v := 16) hx hb d_M_format_2 (by decide) ?_
  refine lv_icmp_lt hx hb d_M_format_4 (tgt := 27) rfl (fun g1 => ?_) (fun g1 => ?_)
  · have g1 := g1
    refine lv_iconst (v := 1) hx hb d_M_format_27 (by decide) ?_
    refine lv_goto hx hb d_M_format_28 (tgt := 32) rfl ?_
    refine pF (v := .int 1) hx hb hown hE hK hP hD hS 0 rfl rfl layM tyM tokM nmM 0 (by decide) w319 rfl rfl rfl (Nat.le_of_ble_eq_true rfl) d_M_format_32 (fun H locs hP hD hS => ?_)
    have hP : va_P D vwCl (MW dA h ad (MS.s_cod x 1)) H := hP
    have hD : va_D A (MW dA h ad (MS.s_cod x 1)) := hD
    refine lv_aload_n hx hb d_M_format_35 rfl (lv_at hl 0 rfl) ?_
    refine gF (v := .int 1) hx hb hown hE hK hP 0 rfl rfl layM 0 (by decide) w319 rfl d_M_format_36 ?_
    refine lv_if_le hx hb d_M_format_39 (tgt := 43) rfl (fun h9 => absurd h9 (by decide)) (fun _ => ?_)
    exact rfV hx hb hr hlk hS () trivial hP hD (Nat.le_of_ble_eq_true rfl) (Nat.le_of_ble_eq_true rfl) d_M_format_42
  · have g1 := g1
    refine lv_iload_n hx hb d_M_format_7 rfl (lv_at hl 1 rfl) ?_
    refine lv_sipush (v := 256) hx hb d_M_format_8 (by decide) ?_
    refine lv_icmp_gt hx hb d_M_format_11 (tgt := 27) rfl (fun g2 => ?_) (fun g2 => ?_)
    · have g2 := g2
      refine lv_iconst (v := 1) hx hb d_M_format_27 (by decide) ?_
      refine lv_goto hx hb d_M_format_28 (tgt := 32) rfl ?_
      refine pF (v := .int 1) hx hb hown hE hK hP hD hS 0 rfl rfl layM tyM tokM nmM 0 (by decide) w319 rfl rfl rfl (Nat.le_of_ble_eq_true rfl) d_M_format_32 (fun H locs hP hD hS => ?_)
      have hP : va_P D vwCl (MW dA h ad (MS.s_cod x 1)) H := hP
      have hD : va_D A (MW dA h ad (MS.s_cod x 1)) := hD
      refine lv_aload_n hx hb d_M_format_35 rfl (lv_at hl 0 rfl) ?_
      refine gF (v := .int 1) hx hb hown hE hK hP 0 rfl rfl layM 0 (by decide) w319 rfl d_M_format_36 ?_
      refine lv_if_le hx hb d_M_format_39 (tgt := 43) rfl (fun h9 => absurd h9 (by decide)) (fun _ => ?_)
      exact rfV hx hb hr hlk hS () trivial hP hD (Nat.le_of_ble_eq_true rfl) (Nat.le_of_ble_eq_true rfl) d_M_format_42
    · have g2 := g2
      refine lv_iload_n hx hb d_M_format_14 rfl (lv_at hl 2 rfl) ?_
      refine lv_iconst (v := 2) hx hb d_M_format_15 (by decide) ?_
      refine lv_icmp_lt hx hb d_M_format_16 (tgt := 27) rfl (fun g3 => ?_) (fun g3 => ?_)
      · have g3 := g3
        refine lv_iconst (v := 1) hx hb d_M_format_27 (by decide) ?_
        refine lv_goto hx hb d_M_format_28 (tgt := 32) rfl ?_
        refine pF (v := .int 1) hx hb hown hE hK hP hD hS 0 rfl rfl layM tyM tokM nmM 0 (by decide) w319 rfl rfl rfl (Nat.le_of_ble_eq_true rfl) d_M_format_32 (fun H locs hP hD hS => ?_)
        have hP : va_P D vwCl (MW dA h ad (MS.s_cod x 1)) H := hP
        have hD : va_D A (MW dA h ad (MS.s_cod x 1)) := hD
        refine lv_aload_n hx hb d_M_format_35 rfl (lv_at hl 0 rfl) ?_
        refine gF (v := .int 1) hx hb hown hE hK hP 0 rfl rfl layM 0 (by decide) w319 rfl d_M_format_36 ?_
        refine lv_if_le hx hb d_M_format_39 (tgt := 43) rfl (fun h9 => absurd h9 (by decide)) (fun _ => ?_)
        exact rfV hx hb hr hlk hS () trivial hP hD (Nat.le_of_ble_eq_true rfl) (Nat.le_of_ble_eq_true rfl) d_M_format_42
      · have g3 := g3
        refine lv_iload_n hx hb d_M_format_19 rfl (lv_at hl 2 rfl) ?_
        refine lv_iload_n hx hb d_M_format_20 rfl (lv_at hl 1 rfl) ?_
        refine lv_bipush (v := 8) hx hb d_M_format_21 (by decide) ?_
        refine lv_isub hx hb d_M_format_23 ?_
        refine lv_icmp_le hx hb d_M_format_24 (tgt := 31) rfl (fun h9 => absurd h9 (Int32.not_le.mpr (((h0.resolve_left g1).resolve_left g2).resolve_left g3))) (fun _ => ?_)
        refine lv_iconst (v := 1) hx hb d_M_format_27 (by decide) ?_
        refine lv_goto hx hb d_M_format_28 (tgt := 32) rfl ?_
        refine pF (v := .int 1) hx hb hown hE hK hP hD hS 0 rfl rfl layM tyM tokM nmM 0 (by decide) w319 rfl rfl rfl (Nat.le_of_ble_eq_true rfl) d_M_format_32 (fun H locs hP hD hS => ?_)
        have hP : va_P D vwCl (MW dA h ad (MS.s_cod x 1)) H := hP
        have hD : va_D A (MW dA h ad (MS.s_cod x 1)) := hD
        refine lv_aload_n hx hb d_M_format_35 rfl (lv_at hl 0 rfl) ?_
        refine gF (v := .int 1) hx hb hown hE hK hP 0 rfl rfl layM 0 (by decide) w319 rfl d_M_format_36 ?_
        refine lv_if_le hx hb d_M_format_39 (tgt := 43) rfl (fun h9 => absurd h9 (by decide)) (fun _ => ?_)
        exact rfV hx hb hr hlk hS () trivial hP hD (Nat.le_of_ble_eq_true rfl) (Nat.le_of_ble_eq_true rfl) d_M_format_42
def cutF (z : Int32) : Int32 := if z ≤ 0 then z else z - 1
theorem d_M_write_58a_7 : decode prog_14_method_7_code 7 = .ok (.aload_n 0, 1) := by decide +kernel
theorem d_M_write_58a_8 : decode prog_14_method_7_code 8 = .ok (.iconst 0, 1) := by decide +kernel
theorem d_M_write_58a_9 : decode prog_14_method_7_code 9 = .ok (.putfield 21, 3) := by decide +kernel
theorem d_M_write_58a_12 : decode prog_14_method_7_code 12 = .ok (.aload_n 0, 1) := by decide +kernel
theorem d_M_write_58a_13 : decode prog_14_method_7_code 13 = .ok (.iconst (-1), 1) := by decide +kernel
theorem d_M_write_58a_14 : decode prog_14_method_7_code 14 = .ok (.putfield 25, 3) := by decide +kernel
theorem d_M_write_58a_17 : decode prog_14_method_7_code 17 = .ok (.iconst 0, 1) := by decide +kernel
theorem d_M_write_58a_18 : decode prog_14_method_7_code 18 = .ok (.ireturn, 1) := by decide +kernel
set_option maxHeartbeats 4000000 in
set_option maxRecDepth 100000 in
theorem k_write_x (l : Launch) (D : va_G) (dA : Nat → ClassId) (sz : Nat) (h : Nat) (ad : Nat → Nat) (x : MS) (hc : x.cutLeft = 0) : Met l ⟨"SeriesVaultModel", "write", "()Z"⟩ [Cond.code ⟨"SeriesVaultModel", "write", "()Z"⟩ prog_14_method_7_code 1 (some FieldType.boolean)] { frames := 1, cells := 0, slots := 0, locals := 0 } (pC D dA [.ref h] (MW dA h ad x) sz) (va_Qi (fun (r9 : Int32) (u9 : Unit) => r9 = bI false) (fun (u9 : Unit) t9 => bW D (va_A (MW dA h ad x) sz) (MW dA h ad (MS.s_cutLeft (MS.s_on x false) (-1))) t9) (va_A (MW dA h ad x) sz)) 0 0 (va_A (MW dA h ad x) sz) := by
  refine mkC (y := ⟨"SeriesVaultModel", "write", "()Z"⟩) (cc := prog_14_method_7_code) (maxL := 1) (av := [.ref h]) (ws := MW dA h ad x) (sz := sz) (Qc := fun A => va_Qi (fun (r9 : Int32) (u9 : Unit) => r9 = bI false) (fun (u9 : Unit) t9 => bW D A (MW dA h ad (MS.s_cutLeft (MS.s_on x false) (-1))) t9) A) (by decide) (Nat.le_of_ble_eq_true rfl) ?_
  intro A p e s m below meth c ls hsz hB
  obtain ⟨hx, hb, hr, hml, hown, hin, hlk, hE, hK, hP, hD, hS, hA, hN, hl⟩ := hB
  have hown : s.vm.findClass "SeriesVaultModel" = some m.cls := hown
  have hl : lv_has ls 1 [(0, .ref h)] := hl
  obtain ⟨H, hH⟩ : ∃ z, z = s.heap := ⟨_, rfl⟩
  have hP : va_P D vwCl (MW dA h ad x) H := by rw [hH]; exact hP
  have hS : va_S A s.heap H [] := by rw [hH]; exact hS
  rw [← hH]
  refine lv_aload_n hx hb d_M_write_58a_0 rfl (lv_at hl 0 rfl) ?_
  refine gF (v := .int x.cutLeft) hx hb hown hE hK hP 0 rfl rfl layM 8 (by decide) w325 rfl d_M_write_58a_1 ?_
  refine lv_if_ne hx hb d_M_write_58a_4 (tgt := 19) rfl (fun h9 => absurd hc h9) (fun _ => ?_)
  refine lv_aload_n hx hb d_M_write_58a_7 rfl (lv_at hl 0 rfl) ?_
  refine lv_iconst (v := 0) hx hb d_M_write_58a_8 (by decide) ?_
  refine pF (v := .int (bI false)) hx hb hown hE hK hP hD hS 0 rfl rfl layM tyM tokM nmM 7 (by decide) w324 rfl (bI_nar false) (bI_fit false) (Nat.le_of_ble_eq_true rfl) d_M_write_58a_9 (fun H locs hP hD hS => ?_)
  have hP : va_P D vwCl (MW dA h ad (MS.s_on x false)) H := hP
  have hD : va_D A (MW dA h ad (MS.s_on x false)) := hD
  refine lv_aload_n hx hb d_M_write_58a_12 rfl (lv_at hl 0 rfl) ?_
  refine lv_iconst (v := (-1)) hx hb d_M_write_58a_13 (by decide) ?_
  refine pF (v := .int (-1)) hx hb hown hE hK hP hD hS 0 rfl rfl layM tyM tokM nmM 8 (by decide) w325 rfl rfl rfl (Nat.le_of_ble_eq_true rfl) d_M_write_58a_14 (fun H locs hP hD hS => ?_)
  have hP : va_P D vwCl (MW dA h ad (MS.s_cutLeft (MS.s_on x false) (-1))) H := hP
  have hD : va_D A (MW dA h ad (MS.s_cutLeft (MS.s_on x false) (-1))) := hD
  refine lv_iconst (v := 0) hx hb d_M_write_58a_17 (by decide) ?_
  exact rfZ hx hb hr (bI_nar false) hlk hS () rfl hP hD (Nat.le_of_ble_eq_true rfl) (Nat.le_of_ble_eq_true rfl) d_M_write_58a_18
theorem d_M_write_58a_27 : decode prog_14_method_7_code 27 = .ok (.aload_n 0, 1) := by decide +kernel
theorem d_M_write_58a_28 : decode prog_14_method_7_code 28 = .ok (.getfield 25, 3) := by decide +kernel
theorem d_M_write_58a_31 : decode prog_14_method_7_code 31 = .ok (.iconst 1, 1) := by decide +kernel
theorem d_M_write_58a_32 : decode prog_14_method_7_code 32 = .ok (.isub, 1) := by decide +kernel
theorem d_M_write_58a_33 : decode prog_14_method_7_code 33 = .ok (.goto 7, 3) := by decide +kernel
set_option maxHeartbeats 4000000 in
set_option maxRecDepth 100000 in
theorem k_write (l : Launch) (D : va_G) (dA : Nat → ClassId) (sz : Nat) (h : Nat) (ad : Nat → Nat) (x : MS) (hc : ¬ x.cutLeft = 0) : Met l ⟨"SeriesVaultModel", "write", "()Z"⟩ [Cond.code ⟨"SeriesVaultModel", "write", "()Z"⟩ prog_14_method_7_code 1 (some FieldType.boolean)] { frames := 1, cells := 0, slots := 0, locals := 0 } (pC D dA [.ref h] (MW dA h ad x) sz) (va_Qi (fun (r9 : Int32) (u9 : Unit) => r9 = bI true) (fun (u9 : Unit) t9 => bW D (va_A (MW dA h ad x) sz) (MW dA h ad (MS.s_written (MS.s_cutLeft x (cutF x.cutLeft)) (x.written + 1))) t9) (va_A (MW dA h ad x) sz)) 0 0 (va_A (MW dA h ad x) sz) := by
  refine mkC (y := ⟨"SeriesVaultModel", "write", "()Z"⟩) (cc := prog_14_method_7_code) (maxL := 1) (av := [.ref h]) (ws := MW dA h ad x) (sz := sz) (Qc := fun A => va_Qi (fun (r9 : Int32) (u9 : Unit) => r9 = bI true) (fun (u9 : Unit) t9 => bW D A (MW dA h ad (MS.s_written (MS.s_cutLeft x (cutF x.cutLeft)) (x.written + 1))) t9) A) (by decide) (Nat.le_of_ble_eq_true rfl) ?_
  intro A p e s m below meth c ls hsz hB
  obtain ⟨hx, hb, hr, hml, hown, hin, hlk, hE, hK, hP, hD, hS, hA, hN, hl⟩ := hB
  have hown : s.vm.findClass "SeriesVaultModel" = some m.cls := hown
  have hl : lv_has ls 1 [(0, .ref h)] := hl
  obtain ⟨H, hH⟩ : ∃ z, z = s.heap := ⟨_, rfl⟩
  have hP : va_P D vwCl (MW dA h ad x) H := by rw [hH]; exact hP
  have hS : va_S A s.heap H [] := by rw [hH]; exact hS
  rw [← hH]
  refine lv_aload_n hx hb d_M_write_58a_0 rfl (lv_at hl 0 rfl) ?_
  refine gF (v := .int x.cutLeft) hx hb hown hE hK hP 0 rfl rfl layM 8 (by decide) w325 rfl d_M_write_58a_1 ?_
  refine lv_if_ne hx hb d_M_write_58a_4 (tgt := 19) rfl (fun _ => ?_) (fun h9 => absurd h9 hc)
  refine lv_aload_n hx hb d_M_write_58a_19 rfl (lv_at hl 0 rfl) ?_
  refine lv_aload_n hx hb d_M_write_58a_20 rfl (lv_at hl 0 rfl) ?_
  refine gF (v := .int x.cutLeft) hx hb hown hE hK hP 0 rfl rfl layM 8 (by decide) w325 rfl d_M_write_58a_21 ?_
  refine lv_if_le hx hb d_M_write_58a_24 (tgt := 36) rfl (fun g1 => ?_) (fun g1 => ?_)
  · have g1 := g1
    refine lv_aload_n hx hb d_M_write_58a_36 rfl (lv_at hl 0 rfl) ?_
    refine gF (v := .int x.cutLeft) hx hb hown hE hK hP 0 rfl rfl layM 8 (by decide) w325 rfl d_M_write_58a_37 ?_
    refine pF (v := .int x.cutLeft) hx hb hown hE hK hP hD hS 0 rfl rfl layM tyM tokM nmM 8 (by decide) w325 rfl rfl rfl (Nat.le_of_ble_eq_true rfl) d_M_write_58a_40 (fun H locs hP hD hS => ?_)
    have hP : va_P D vwCl (MW dA h ad (MS.s_cutLeft x x.cutLeft)) H := hP
    have hD : va_D A (MW dA h ad (MS.s_cutLeft x x.cutLeft)) := hD
    refine lv_aload_n hx hb d_M_write_58a_43 rfl (lv_at hl 0 rfl) ?_
    refine lv_dup hx hb d_M_write_58a_44 rfl ?_
    refine gF (v := .int (nI x.written)) hx hb hown hE hK hP 0 rfl rfl layM 9 (by decide) w323 rfl d_M_write_58a_45 ?_
    refine lv_iconst (v := 1) hx hb d_M_write_58a_48 (by decide) ?_
    refine lv_iadd hx hb d_M_write_58a_49 (tpi (y := nI (x.written + 1)) (nI_add (x.written) (1)) ?_)
    refine pF (v := .int (nI (x.written + 1))) hx hb hown hE hK hP hD hS 0 rfl rfl layM tyM tokM nmM 9 (by decide) w323 rfl rfl rfl (Nat.le_of_ble_eq_true rfl) d_M_write_58a_50 (fun H locs hP hD hS => ?_)
    have hP : va_P D vwCl (MW dA h ad (MS.s_written (MS.s_cutLeft x x.cutLeft) (x.written + 1))) H := hP
    have hD : va_D A (MW dA h ad (MS.s_written (MS.s_cutLeft x x.cutLeft) (x.written + 1))) := hD
    refine lv_iconst (v := 1) hx hb d_M_write_58a_53 (by decide) ?_
    have e9 : (MS.s_written (MS.s_cutLeft x x.cutLeft) (x.written + 1) : MS) = MS.s_written (MS.s_cutLeft x (cutF x.cutLeft)) (x.written + 1) := by rw [show (cutF x.cutLeft) = x.cutLeft from by simp [cutF, *]] <;> rfl
    exact rfZ hx hb hr (bI_nar true) hlk hS () rfl (cvP e9 hP) (cvD e9 hD) (Nat.le_of_ble_eq_true rfl) (Nat.le_of_ble_eq_true rfl) d_M_write_58a_54
  · have g1 := g1
    refine lv_aload_n hx hb d_M_write_58a_27 rfl (lv_at hl 0 rfl) ?_
    refine gF (v := .int x.cutLeft) hx hb hown hE hK hP 0 rfl rfl layM 8 (by decide) w325 rfl d_M_write_58a_28 ?_
    refine lv_iconst (v := 1) hx hb d_M_write_58a_31 (by decide) ?_
    refine lv_isub hx hb d_M_write_58a_32 ?_
    refine lv_goto hx hb d_M_write_58a_33 (tgt := 40) rfl ?_
    refine pF (v := .int (x.cutLeft - 1)) hx hb hown hE hK hP hD hS 0 rfl rfl layM tyM tokM nmM 8 (by decide) w325 rfl rfl rfl (Nat.le_of_ble_eq_true rfl) d_M_write_58a_40 (fun H locs hP hD hS => ?_)
    have hP : va_P D vwCl (MW dA h ad (MS.s_cutLeft x (x.cutLeft - 1))) H := hP
    have hD : va_D A (MW dA h ad (MS.s_cutLeft x (x.cutLeft - 1))) := hD
    refine lv_aload_n hx hb d_M_write_58a_43 rfl (lv_at hl 0 rfl) ?_
    refine lv_dup hx hb d_M_write_58a_44 rfl ?_
    refine gF (v := .int (nI x.written)) hx hb hown hE hK hP 0 rfl rfl layM 9 (by decide) w323 rfl d_M_write_58a_45 ?_
    refine lv_iconst (v := 1) hx hb d_M_write_58a_48 (by decide) ?_
    refine lv_iadd hx hb d_M_write_58a_49 (tpi (y := nI (x.written + 1)) (nI_add (x.written) (1)) ?_)
    refine pF (v := .int (nI (x.written + 1))) hx hb hown hE hK hP hD hS 0 rfl rfl layM tyM tokM nmM 9 (by decide) w323 rfl rfl rfl (Nat.le_of_ble_eq_true rfl) d_M_write_58a_50 (fun H locs hP hD hS => ?_)
    have hP : va_P D vwCl (MW dA h ad (MS.s_written (MS.s_cutLeft x (x.cutLeft - 1)) (x.written + 1))) H := hP
    have hD : va_D A (MW dA h ad (MS.s_written (MS.s_cutLeft x (x.cutLeft - 1)) (x.written + 1))) := hD
    refine lv_iconst (v := 1) hx hb d_M_write_58a_53 (by decide) ?_
    have e9 : (MS.s_written (MS.s_cutLeft x (x.cutLeft - 1)) (x.written + 1) : MS) = MS.s_written (MS.s_cutLeft x (cutF x.cutLeft)) (x.written + 1) := by rw [show (cutF x.cutLeft) = (x.cutLeft - 1) from by simp [cutF, *]] <;> rfl
    exact rfZ hx hb hr (bI_nar true) hlk hS () rfl (cvP e9 hP) (cvD e9 hD) (Nat.le_of_ble_eq_true rfl) (Nat.le_of_ble_eq_true rfl) d_M_write_58a_54
theorem d_M_hasRoom_0 : decode prog_14_method_10_code 0 = .ok (.aload_n 0, 1) := by decide +kernel
theorem d_M_hasRoom_1 : decode prog_14_method_10_code 1 = .ok (.getfield 191, 3) := by decide +kernel
theorem d_M_hasRoom_4 : decode prog_14_method_10_code 4 = .ok (.iload_n 1, 1) := by decide +kernel
theorem d_M_hasRoom_5 : decode prog_14_method_10_code 5 = .ok (.iadd, 1) := by decide +kernel
theorem d_M_hasRoom_6 : decode prog_14_method_10_code 6 = .ok (.bipush 126, 2) := by decide +kernel
theorem d_M_hasRoom_8 : decode prog_14_method_10_code 8 = .ok (.if_icmp .le 16, 3) := by decide +kernel
theorem d_M_hasRoom_24 : decode prog_14_method_10_code 24 = .ok (.iconst 1, 1) := by decide +kernel
theorem d_M_hasRoom_25 : decode prog_14_method_10_code 25 = .ok (.goto 4, 3) := by decide +kernel
theorem d_M_hasRoom_29 : decode prog_14_method_10_code 29 = .ok (.ireturn, 1) := by decide +kernel
theorem d_M_hasRoom_11 : decode prog_14_method_10_code 11 = .ok (.aload_n 0, 1) := by decide +kernel
theorem d_M_hasRoom_12 : decode prog_14_method_10_code 12 = .ok (.getfield 188, 3) := by decide +kernel
theorem d_M_hasRoom_15 : decode prog_14_method_10_code 15 = .ok (.iconst 1, 1) := by decide +kernel
theorem d_M_hasRoom_16 : decode prog_14_method_10_code 16 = .ok (.iadd, 1) := by decide +kernel
theorem d_M_hasRoom_17 : decode prog_14_method_10_code 17 = .ok (.aload_n 0, 1) := by decide +kernel
theorem d_M_hasRoom_18 : decode prog_14_method_10_code 18 = .ok (.getfield 18, 3) := by decide +kernel
theorem d_M_hasRoom_21 : decode prog_14_method_10_code 21 = .ok (.if_icmp .ge 7, 3) := by decide +kernel
theorem d_M_hasRoom_28 : decode prog_14_method_10_code 28 = .ok (.iconst 0, 1) := by decide +kernel
set_option maxHeartbeats 4000000 in
set_option maxRecDepth 100000 in
theorem k_hasRoom (l : Launch) (D : va_G) (dA : Nat → ClassId) (sz : Nat) (h : Nat) (ad : Nat → Nat) (x : MS) (n : Nat) (h1 : x.used + n < 2 ^ 31) (h2 : x.block + 1 < 2 ^ 31) (h3 : x.journal < 2 ^ 31) : Met l ⟨"SeriesVaultModel", "hasRoom", "(I)Z"⟩ [Cond.code ⟨"SeriesVaultModel", "hasRoom", "(I)Z"⟩ prog_14_method_10_code 2 (some FieldType.boolean)] { frames := 1, cells := 0, slots := 0, locals := 0 } (pC D dA [.ref h, .int (nI n)] (MW dA h ad x) sz) (va_Qi (fun (r9 : Int32) (u9 : Unit) => r9 = bI (x.room n)) (fun (u9 : Unit) t9 => bW D (va_A (MW dA h ad x) sz) (MW dA h ad x) t9) (va_A (MW dA h ad x) sz)) 0 0 (va_A (MW dA h ad x) sz) := by
  refine mkC (y := ⟨"SeriesVaultModel", "hasRoom", "(I)Z"⟩) (cc := prog_14_method_10_code) (maxL := 2) (av := [.ref h, .int (nI n)]) (ws := MW dA h ad x) (sz := sz) (Qc := fun A => va_Qi (fun (r9 : Int32) (u9 : Unit) => r9 = bI (x.room n)) (fun (u9 : Unit) t9 => bW D A (MW dA h ad x) t9) A) (by decide) (Nat.le_of_ble_eq_true rfl) ?_
  intro A p e s m below meth c ls hsz hB
  obtain ⟨hx, hb, hr, hml, hown, hin, hlk, hE, hK, hP, hD, hS, hA, hN, hl⟩ := hB
  have hown : s.vm.findClass "SeriesVaultModel" = some m.cls := hown
  have hl : lv_has ls 2 [(0, .ref h), (1, .int (nI n))] := hl
  obtain ⟨H, hH⟩ : ∃ z, z = s.heap := ⟨_, rfl⟩
  have hP : va_P D vwCl (MW dA h ad x) H := by rw [hH]; exact hP
  have hS : va_S A s.heap H [] := by rw [hH]; exact hS
  rw [← hH]
  refine lv_aload_n hx hb d_M_hasRoom_0 rfl (lv_at hl 0 rfl) ?_
  refine gF (v := .int (nI x.used)) hx hb hown hE hK hP 0 rfl rfl layM 40 (by decide) w424 rfl d_M_hasRoom_1 ?_
  refine lv_iload_n hx hb d_M_hasRoom_4 rfl (lv_at hl 1 rfl) ?_
  refine lv_iadd hx hb d_M_hasRoom_5 (tpi (y := nI (x.used + n)) (nI_add (x.used) (n)) ?_)
  refine lv_bipush (v := 126) hx hb d_M_hasRoom_6 (by decide) ?_
  refine lv_icmp_le hx hb d_M_hasRoom_8 (tgt := 24) rfl (fun g1 => ?_) (fun g1 => ?_)
  · have g1 := (nI_leI (a := x.used + n) (b := 126) (by omega) (by omega)).mp g1
    refine lv_iconst (v := 1) hx hb d_M_hasRoom_24 (by decide) ?_
    refine lv_goto hx hb d_M_hasRoom_25 (tgt := 29) rfl ?_
    exact rfZ hx hb hr (bI_nar true) hlk hS () (by simp [bI, MS.room, *]) hP hD (Nat.le_of_ble_eq_true rfl) (Nat.le_of_ble_eq_true rfl) d_M_hasRoom_29
  · have g1 := mt (nI_leI (a := x.used + n) (b := 126) (by omega) (by omega)).mpr g1
    refine lv_aload_n hx hb d_M_hasRoom_11 rfl (lv_at hl 0 rfl) ?_
    refine gF (v := .int (nI x.block)) hx hb hown hE hK hP 0 rfl rfl layM 39 (by decide) w423 rfl d_M_hasRoom_12 ?_
    refine lv_iconst (v := 1) hx hb d_M_hasRoom_15 (by decide) ?_
    refine lv_iadd hx hb d_M_hasRoom_16 (tpi (y := nI (x.block + 1)) (nI_add (x.block) (1)) ?_)
    refine lv_aload_n hx hb d_M_hasRoom_17 rfl (lv_at hl 0 rfl) ?_
    refine gF (v := .int (nI x.journal)) hx hb hown hE hK hP 0 rfl rfl layM 6 (by decide) w417 rfl d_M_hasRoom_18 ?_
    refine lv_icmp_ge hx hb d_M_hasRoom_21 (tgt := 28) rfl (fun g2 => ?_) (fun g2 => ?_)
    · have g2 := (nI_leI (a := x.journal) (b := x.block + 1) (by omega) (by omega)).mp g2
      refine lv_iconst (v := 0) hx hb d_M_hasRoom_28 (by decide) ?_
      exact rfZ hx hb hr (bI_nar false) hlk hS () (by simp [bI, MS.room, *]) hP hD (Nat.le_of_ble_eq_true rfl) (Nat.le_of_ble_eq_true rfl) d_M_hasRoom_29
    · have g2 := mt (nI_leI (a := x.journal) (b := x.block + 1) (by omega) (by omega)).mpr g2
      refine lv_iconst (v := 1) hx hb d_M_hasRoom_24 (by decide) ?_
      refine lv_goto hx hb d_M_hasRoom_25 (tgt := 29) rfl ?_
      exact rfZ hx hb hr (bI_nar true) hlk hS () (by simp [bI, MS.room, *]) hP hD (Nat.le_of_ble_eq_true rfl) (Nat.le_of_ble_eq_true rfl) d_M_hasRoom_29
theorem d_M_synced_7 : decode prog_14_method_12_code 7 = .ok (.aload_n 0, 1) := by decide +kernel
theorem d_M_synced_8 : decode prog_14_method_12_code 8 = .ok (.invokevirtual 200, 3) := by decide +kernel
theorem d_M_synced_11 : decode prog_14_method_12_code 11 = .ok (.ifCond .ne 5, 3) := by decide +kernel
theorem d_M_synced_14 : decode prog_14_method_12_code 14 = .ok (.iconst 0, 1) := by decide +kernel
theorem d_M_synced_15 : decode prog_14_method_12_code 15 = .ok (.ireturn, 1) := by decide +kernel
set_option maxHeartbeats 4000000 in
set_option maxRecDepth 100000 in
theorem k_synced_x (l : Launch) (D : va_G) (dA : Nat → ClassId) (sz : Nat) (h : Nat) (ad : Nat → Nat) (x : MS) (hf : x.fresh = true) (hc : x.cutLeft = 0) : Met l ⟨"SeriesVaultModel", "synced", "()Z"⟩ [Cond.code ⟨"SeriesVaultModel", "synced", "()Z"⟩ prog_14_method_12_code 1 (some FieldType.boolean)] { frames := 2, cells := 0, slots := 0, locals := 20 } (pC D dA [.ref h] (MW dA h ad x) sz) (va_Qi (fun (r9 : Int32) (u9 : Unit) => r9 = bI false) (fun (u9 : Unit) t9 => bW D (va_A (MW dA h ad x) sz) (MW dA h ad (MS.s_cutLeft (MS.s_on x false) (-1))) t9) (va_A (MW dA h ad x) sz)) 0 0 (va_A (MW dA h ad x) sz) := by
  refine mkC (y := ⟨"SeriesVaultModel", "synced", "()Z"⟩) (cc := prog_14_method_12_code) (maxL := 1) (av := [.ref h]) (ws := MW dA h ad x) (sz := sz) (Qc := fun A => va_Qi (fun (r9 : Int32) (u9 : Unit) => r9 = bI false) (fun (u9 : Unit) t9 => bW D A (MW dA h ad (MS.s_cutLeft (MS.s_on x false) (-1))) t9) A) (by decide) (Nat.le_of_ble_eq_true rfl) ?_
  intro A p e s m below meth c ls hsz hB
  obtain ⟨hx, hb, hr, hml, hown, hin, hlk, hE, hK, hP, hD, hS, hA, hN, hl⟩ := hB
  have hown : s.vm.findClass "SeriesVaultModel" = some m.cls := hown
  have hl : lv_has ls 1 [(0, .ref h)] := hl
  obtain ⟨H, hH⟩ : ∃ z, z = s.heap := ⟨_, rfl⟩
  have hP : va_P D vwCl (MW dA h ad x) H := by rw [hH]; exact hP
  have hS : va_S A s.heap H [] := by rw [hH]; exact hS
  rw [← hH]
  refine lv_aload_n hx hb d_M_synced_0 rfl (lv_at hl 0 rfl) ?_
  refine gF (v := .int (bI x.fresh)) hx hb hown hE hK hP 0 rfl rfl layM 41 (by decide) w337 rfl d_M_synced_1 ?_
  refine lv_if_eq hx hb d_M_synced_4 (tgt := 16) rfl (fun h9 => absurd h9 (by rw [hf]; decide)) (fun _ => ?_)
  refine lv_aload_n hx hb d_M_synced_7 rfl (lv_at hl 0 rfl) ?_
  refine jfI (rnV (As := []) (rest := []) hx hb hml hown hE hK (hN _ _ hS) hP hD (k_write_x l D dA H.size h ad x hc) (q0 := 0) rfl rfl w452 w451 w453 w454 w328 rfl rfl ⟨⟨by decide, by decide⟩, rfl⟩ ⟨(Nat.le_of_ble_eq_true rfl), (Nat.le_of_ble_eq_true rfl)⟩ rfl hl.1 rfl (Nat.le_of_ble_eq_true rfl) d_M_synced_8 ⟨(Nat.le_of_ble_eq_true rfl), (Nat.le_of_ble_eq_true rfl)⟩) hP hD hS hA (fun r1 u2 H locs hp9 hP hD hS => ?_)
  have hP : va_P D vwCl (MW dA h ad (MS.s_cutLeft (MS.s_on x false) (-1))) H := hP
  have hD : va_D A (MW dA h ad (MS.s_cutLeft (MS.s_on x false) (-1))) := hD
  replace hp9 : bI false = r1 := Eq.symm hp9
  subst hp9
  refine lv_if_ne hx hb d_M_synced_11 (tgt := 16) rfl (fun h9 => absurd (by decide) h9) (fun _ => ?_)
  refine lv_iconst (v := 0) hx hb d_M_synced_14 (by decide) ?_
  exact rfZ hx hb hr (bI_nar false) hlk hS () rfl hP hD (Nat.le_of_ble_eq_true rfl) (Nat.le_of_ble_eq_true rfl) d_M_synced_15
set_option maxHeartbeats 4000000 in
set_option maxRecDepth 100000 in
theorem k_synced_1 (l : Launch) (D : va_G) (dA : Nat → ClassId) (sz : Nat) (h : Nat) (ad : Nat → Nat) (x : MS) (hf : x.fresh = true) (hc : ¬ x.cutLeft = 0) : Met l ⟨"SeriesVaultModel", "synced", "()Z"⟩ [Cond.code ⟨"SeriesVaultModel", "synced", "()Z"⟩ prog_14_method_12_code 1 (some FieldType.boolean)] { frames := 2, cells := 0, slots := 0, locals := 20 } (pC D dA [.ref h] (MW dA h ad x) sz) (va_Qi (fun (r9 : Int32) (u9 : Unit) => r9 = bI true) (fun (u9 : Unit) t9 => bW D (va_A (MW dA h ad x) sz) (MW dA h ad (MS.s_fresh (MS.s_kept (MS.s_written (MS.s_cutLeft x (cutF x.cutLeft)) (x.written + 1)) x.records) false)) t9) (va_A (MW dA h ad x) sz)) 0 0 (va_A (MW dA h ad x) sz) := by
  refine mkC (y := ⟨"SeriesVaultModel", "synced", "()Z"⟩) (cc := prog_14_method_12_code) (maxL := 1) (av := [.ref h]) (ws := MW dA h ad x) (sz := sz) (Qc := fun A => va_Qi (fun (r9 : Int32) (u9 : Unit) => r9 = bI true) (fun (u9 : Unit) t9 => bW D A (MW dA h ad (MS.s_fresh (MS.s_kept (MS.s_written (MS.s_cutLeft x (cutF x.cutLeft)) (x.written + 1)) x.records) false)) t9) A) (by decide) (Nat.le_of_ble_eq_true rfl) ?_
  intro A p e s m below meth c ls hsz hB
  obtain ⟨hx, hb, hr, hml, hown, hin, hlk, hE, hK, hP, hD, hS, hA, hN, hl⟩ := hB
  have hown : s.vm.findClass "SeriesVaultModel" = some m.cls := hown
  have hl : lv_has ls 1 [(0, .ref h)] := hl
  obtain ⟨H, hH⟩ : ∃ z, z = s.heap := ⟨_, rfl⟩
  have hP : va_P D vwCl (MW dA h ad x) H := by rw [hH]; exact hP
  have hS : va_S A s.heap H [] := by rw [hH]; exact hS
  rw [← hH]
  refine lv_aload_n hx hb d_M_synced_0 rfl (lv_at hl 0 rfl) ?_
  refine gF (v := .int (bI x.fresh)) hx hb hown hE hK hP 0 rfl rfl layM 41 (by decide) w337 rfl d_M_synced_1 ?_
  refine lv_if_eq hx hb d_M_synced_4 (tgt := 16) rfl (fun h9 => absurd h9 (by rw [hf]; decide)) (fun _ => ?_)
  refine lv_aload_n hx hb d_M_synced_7 rfl (lv_at hl 0 rfl) ?_
  refine jfI (rnV (As := []) (rest := []) hx hb hml hown hE hK (hN _ _ hS) hP hD (k_write l D dA H.size h ad x hc) (q0 := 0) rfl rfl w452 w451 w453 w454 w328 rfl rfl ⟨⟨by decide, by decide⟩, rfl⟩ ⟨(Nat.le_of_ble_eq_true rfl), (Nat.le_of_ble_eq_true rfl)⟩ rfl hl.1 rfl (Nat.le_of_ble_eq_true rfl) d_M_synced_8 ⟨(Nat.le_of_ble_eq_true rfl), (Nat.le_of_ble_eq_true rfl)⟩) hP hD hS hA (fun r1 u2 H locs hp9 hP hD hS => ?_)
  have hP : va_P D vwCl (MW dA h ad (MS.s_written (MS.s_cutLeft x (cutF x.cutLeft)) (x.written + 1))) H := hP
  have hD : va_D A (MW dA h ad (MS.s_written (MS.s_cutLeft x (cutF x.cutLeft)) (x.written + 1))) := hD
  replace hp9 : bI true = r1 := Eq.symm hp9
  subst hp9
  refine lv_if_ne hx hb d_M_synced_11 (tgt := 16) rfl (fun _ => ?_) (fun h9 => absurd h9 (by decide))
  refine lv_aload_n hx hb d_M_synced_16 rfl (lv_at hl 0 rfl) ?_
  refine lv_iconst (v := 0) hx hb d_M_synced_17 (by decide) ?_
  refine pF (v := .int (bI false)) hx hb hown hE hK hP hD hS 0 rfl rfl layM tyM tokM nmM 41 (by decide) w337 rfl (bI_nar false) (bI_fit false) (Nat.le_of_ble_eq_true rfl) d_M_synced_18 (fun H locs hP hD hS => ?_)
  have hP : va_P D vwCl (MW dA h ad (MS.s_fresh (MS.s_written (MS.s_cutLeft x (cutF x.cutLeft)) (x.written + 1)) false)) H := hP
  have hD : va_D A (MW dA h ad (MS.s_fresh (MS.s_written (MS.s_cutLeft x (cutF x.cutLeft)) (x.written + 1)) false)) := hD
  refine lv_aload_n hx hb d_M_synced_21 rfl (lv_at hl 0 rfl) ?_
  refine lv_aload_n hx hb d_M_synced_22 rfl (lv_at hl 0 rfl) ?_
  refine gF (v := .int (nI x.records)) hx hb hown hE hK hP 0 rfl rfl layM 37 (by decide) w338 rfl d_M_synced_23 ?_
  refine pF (v := .int (nI x.records)) hx hb hown hE hK hP hD hS 0 rfl rfl layM tyM tokM nmM 38 (by decide) w339 rfl rfl rfl (Nat.le_of_ble_eq_true rfl) d_M_synced_26 (fun H locs hP hD hS => ?_)
  have hP : va_P D vwCl (MW dA h ad (MS.s_fresh (MS.s_kept (MS.s_written (MS.s_cutLeft x (cutF x.cutLeft)) (x.written + 1)) x.records) false)) H := hP
  have hD : va_D A (MW dA h ad (MS.s_fresh (MS.s_kept (MS.s_written (MS.s_cutLeft x (cutF x.cutLeft)) (x.written + 1)) x.records) false)) := hD
  refine lv_iconst (v := 1) hx hb d_M_synced_29 (by decide) ?_
  exact rfZ hx hb hr (bI_nar true) hlk hS () rfl hP hD (Nat.le_of_ble_eq_true rfl) (Nat.le_of_ble_eq_true rfl) d_M_synced_30
set_option maxHeartbeats 4000000 in
set_option maxRecDepth 100000 in
theorem k_synced_0 (l : Launch) (D : va_G) (dA : Nat → ClassId) (sz : Nat) (h : Nat) (ad : Nat → Nat) (x : MS) (hf : x.fresh = false) : Met l ⟨"SeriesVaultModel", "synced", "()Z"⟩ [Cond.code ⟨"SeriesVaultModel", "synced", "()Z"⟩ prog_14_method_12_code 1 (some FieldType.boolean)] { frames := 1, cells := 0, slots := 0, locals := 0 } (pC D dA [.ref h] (MW dA h ad x) sz) (va_Qi (fun (r9 : Int32) (u9 : Unit) => r9 = bI true) (fun (u9 : Unit) t9 => bW D (va_A (MW dA h ad x) sz) (MW dA h ad (MS.s_fresh (MS.s_kept x x.records) false)) t9) (va_A (MW dA h ad x) sz)) 0 0 (va_A (MW dA h ad x) sz) := by
  refine mkC (y := ⟨"SeriesVaultModel", "synced", "()Z"⟩) (cc := prog_14_method_12_code) (maxL := 1) (av := [.ref h]) (ws := MW dA h ad x) (sz := sz) (Qc := fun A => va_Qi (fun (r9 : Int32) (u9 : Unit) => r9 = bI true) (fun (u9 : Unit) t9 => bW D A (MW dA h ad (MS.s_fresh (MS.s_kept x x.records) false)) t9) A) (by decide) (Nat.le_of_ble_eq_true rfl) ?_
  intro A p e s m below meth c ls hsz hB
  obtain ⟨hx, hb, hr, hml, hown, hin, hlk, hE, hK, hP, hD, hS, hA, hN, hl⟩ := hB
  have hown : s.vm.findClass "SeriesVaultModel" = some m.cls := hown
  have hl : lv_has ls 1 [(0, .ref h)] := hl
  obtain ⟨H, hH⟩ : ∃ z, z = s.heap := ⟨_, rfl⟩
  have hP : va_P D vwCl (MW dA h ad x) H := by rw [hH]; exact hP
  have hS : va_S A s.heap H [] := by rw [hH]; exact hS
  rw [← hH]
  refine lv_aload_n hx hb d_M_synced_0 rfl (lv_at hl 0 rfl) ?_
  refine gF (v := .int (bI x.fresh)) hx hb hown hE hK hP 0 rfl rfl layM 41 (by decide) w337 rfl d_M_synced_1 ?_
  refine lv_if_eq hx hb d_M_synced_4 (tgt := 16) rfl (fun _ => ?_) (fun h9 => absurd (by rw [hf]; decide) h9)
  refine lv_aload_n hx hb d_M_synced_16 rfl (lv_at hl 0 rfl) ?_
  refine lv_iconst (v := 0) hx hb d_M_synced_17 (by decide) ?_
  refine pF (v := .int (bI false)) hx hb hown hE hK hP hD hS 0 rfl rfl layM tyM tokM nmM 41 (by decide) w337 rfl (bI_nar false) (bI_fit false) (Nat.le_of_ble_eq_true rfl) d_M_synced_18 (fun H locs hP hD hS => ?_)
  have hP : va_P D vwCl (MW dA h ad (MS.s_fresh x false)) H := hP
  have hD : va_D A (MW dA h ad (MS.s_fresh x false)) := hD
  refine lv_aload_n hx hb d_M_synced_21 rfl (lv_at hl 0 rfl) ?_
  refine lv_aload_n hx hb d_M_synced_22 rfl (lv_at hl 0 rfl) ?_
  refine gF (v := .int (nI x.records)) hx hb hown hE hK hP 0 rfl rfl layM 37 (by decide) w338 rfl d_M_synced_23 ?_
  refine pF (v := .int (nI x.records)) hx hb hown hE hK hP hD hS 0 rfl rfl layM tyM tokM nmM 38 (by decide) w339 rfl rfl rfl (Nat.le_of_ble_eq_true rfl) d_M_synced_26 (fun H locs hP hD hS => ?_)
  have hP : va_P D vwCl (MW dA h ad (MS.s_fresh (MS.s_kept x x.records) false)) H := hP
  have hD : va_D A (MW dA h ad (MS.s_fresh (MS.s_kept x x.records) false)) := hD
  refine lv_iconst (v := 1) hx hb d_M_synced_29 (by decide) ?_
  exact rfZ hx hb hr (bI_nar true) hlk hS () rfl hP hD (Nat.le_of_ble_eq_true rfl) (Nat.le_of_ble_eq_true rfl) d_M_synced_30
theorem d_M_cut_8 : decode prog_14_method_51_code 8 = .ok (.iconst 1, 1) := by decide +kernel
theorem d_M_cut_9 : decode prog_14_method_51_code 9 = .ok (.goto 13, 3) := by decide +kernel
set_option maxHeartbeats 4000000 in
set_option maxRecDepth 100000 in
theorem k_cut_0 (l : Launch) (D : va_G) (dA : Nat → ClassId) (sz : Nat) (h : Nat) (ad : Nat → Nat) (x : MS) (n : Int32) (ho : x.on = false) : Met l ⟨"SeriesVaultModel", "cut", "(I)V"⟩ [Cond.code ⟨"SeriesVaultModel", "cut", "(I)V"⟩ prog_14_method_51_code 2 none] { frames := 1, cells := 0, slots := 0, locals := 0 } (pC D dA [.ref h, .int n] (MW dA h ad x) sz) (va_Qv (fun (u9 : Unit) => True) (fun (u9 : Unit) t9 => bW D (va_A (MW dA h ad x) sz) (MW dA h ad (MS.s_cod x 1)) t9) (va_A (MW dA h ad x) sz)) 0 0 (va_A (MW dA h ad x) sz) := by
  refine mkC (y := ⟨"SeriesVaultModel", "cut", "(I)V"⟩) (cc := prog_14_method_51_code) (maxL := 2) (av := [.ref h, .int n]) (ws := MW dA h ad x) (sz := sz) (Qc := fun A => va_Qv (fun (u9 : Unit) => True) (fun (u9 : Unit) t9 => bW D A (MW dA h ad (MS.s_cod x 1)) t9) A) (by decide) (Nat.le_of_ble_eq_true rfl) ?_
  intro A p e s m below meth c ls hsz hB
  obtain ⟨hx, hb, hr, hml, hown, hin, hlk, hE, hK, hP, hD, hS, hA, hN, hl⟩ := hB
  have hown : s.vm.findClass "SeriesVaultModel" = some m.cls := hown
  have hl : lv_has ls 2 [(0, .ref h), (1, .int n)] := hl
  obtain ⟨H, hH⟩ : ∃ z, z = s.heap := ⟨_, rfl⟩
  have hP : va_P D vwCl (MW dA h ad x) H := by rw [hH]; exact hP
  have hS : va_S A s.heap H [] := by rw [hH]; exact hS
  rw [← hH]
  refine lv_aload_n hx hb d_M_cut_0 rfl (lv_at hl 0 rfl) ?_
  refine lv_aload_n hx hb d_M_cut_1 rfl (lv_at hl 0 rfl) ?_
  refine gF (v := .int (bI x.on)) hx hb hown hE hK hP 0 rfl rfl layM 7 (by decide) w324 rfl d_M_cut_2 ?_
  refine lv_if_ne hx hb d_M_cut_5 (tgt := 12) rfl (fun h9 => absurd (by rw [ho]; decide) h9) (fun _ => ?_)
  refine lv_iconst (v := 1) hx hb d_M_cut_8 (by decide) ?_
  refine lv_goto hx hb d_M_cut_9 (tgt := 22) rfl ?_
  refine pF (v := .int 1) hx hb hown hE hK hP hD hS 0 rfl rfl layM tyM tokM nmM 0 (by decide) w319 rfl rfl rfl (Nat.le_of_ble_eq_true rfl) d_M_cut_22 (fun H locs hP hD hS => ?_)
  have hP : va_P D vwCl (MW dA h ad (MS.s_cod x 1)) H := hP
  have hD : va_D A (MW dA h ad (MS.s_cod x 1)) := hD
  refine lv_aload_n hx hb d_M_cut_25 rfl (lv_at hl 0 rfl) ?_
  refine lv_aload_n hx hb d_M_cut_26 rfl (lv_at hl 0 rfl) ?_
  refine gF (v := .int 1) hx hb hown hE hK hP 0 rfl rfl layM 0 (by decide) w319 rfl d_M_cut_27 ?_
  refine lv_if_ne hx hb d_M_cut_30 (tgt := 37) rfl (fun _ => ?_) (fun h9 => absurd h9 (by decide))
  refine lv_aload_n hx hb d_M_cut_37 rfl (lv_at hl 0 rfl) ?_
  refine gF (v := .int x.cutLeft) hx hb hown hE hK hP 0 rfl rfl layM 8 (by decide) w325 rfl d_M_cut_38 ?_
  refine pF (v := .int x.cutLeft) hx hb hown hE hK hP hD hS 0 rfl rfl layM tyM tokM nmM 8 (by decide) w325 rfl rfl rfl (Nat.le_of_ble_eq_true rfl) d_M_cut_41 (fun H locs hP hD hS => ?_)
  have hP : va_P D vwCl (MW dA h ad (MS.s_cutLeft (MS.s_cod x 1) x.cutLeft)) H := hP
  have hD : va_D A (MW dA h ad (MS.s_cutLeft (MS.s_cod x 1) x.cutLeft)) := hD
  exact rfV hx hb hr hlk hS () trivial hP hD (Nat.le_of_ble_eq_true rfl) (Nat.le_of_ble_eq_true rfl) d_M_cut_44
set_option maxHeartbeats 4000000 in
set_option maxRecDepth 100000 in
theorem k_cut_x (l : Launch) (D : va_G) (dA : Nat → ClassId) (sz : Nat) (h : Nat) (ad : Nat → Nat) (x : MS) (n : Int32) (ho : x.on = true) (h1 : n < (-1)) : Met l ⟨"SeriesVaultModel", "cut", "(I)V"⟩ [Cond.code ⟨"SeriesVaultModel", "cut", "(I)V"⟩ prog_14_method_51_code 2 none] { frames := 1, cells := 0, slots := 0, locals := 0 } (pC D dA [.ref h, .int n] (MW dA h ad x) sz) (va_Qv (fun (u9 : Unit) => True) (fun (u9 : Unit) t9 => bW D (va_A (MW dA h ad x) sz) (MW dA h ad (MS.s_cod x 2)) t9) (va_A (MW dA h ad x) sz)) 0 0 (va_A (MW dA h ad x) sz) := by
  refine mkC (y := ⟨"SeriesVaultModel", "cut", "(I)V"⟩) (cc := prog_14_method_51_code) (maxL := 2) (av := [.ref h, .int n]) (ws := MW dA h ad x) (sz := sz) (Qc := fun A => va_Qv (fun (u9 : Unit) => True) (fun (u9 : Unit) t9 => bW D A (MW dA h ad (MS.s_cod x 2)) t9) A) (by decide) (Nat.le_of_ble_eq_true rfl) ?_
  intro A p e s m below meth c ls hsz hB
  obtain ⟨hx, hb, hr, hml, hown, hin, hlk, hE, hK, hP, hD, hS, hA, hN, hl⟩ := hB
  have hown : s.vm.findClass "SeriesVaultModel" = some m.cls := hown
  have hl : lv_has ls 2 [(0, .ref h), (1, .int n)] := hl
  obtain ⟨H, hH⟩ : ∃ z, z = s.heap := ⟨_, rfl⟩
  have hP : va_P D vwCl (MW dA h ad x) H := by rw [hH]; exact hP
  have hS : va_S A s.heap H [] := by rw [hH]; exact hS
  rw [← hH]
  refine lv_aload_n hx hb d_M_cut_0 rfl (lv_at hl 0 rfl) ?_
  refine lv_aload_n hx hb d_M_cut_1 rfl (lv_at hl 0 rfl) ?_
  refine gF (v := .int (bI x.on)) hx hb hown hE hK hP 0 rfl rfl layM 7 (by decide) w324 rfl d_M_cut_2 ?_
  refine lv_if_ne hx hb d_M_cut_5 (tgt := 12) rfl (fun _ => ?_) (fun h9 => absurd h9 (by rw [ho]; decide))
  refine lv_iload_n hx hb d_M_cut_12 rfl (lv_at hl 1 rfl) ?_
  refine lv_iconst (v := (-1)) hx hb d_M_cut_13 (by decide) ?_
  refine lv_icmp_ge hx hb d_M_cut_14 (tgt := 21) rfl (fun h9 => absurd h9 (Int32.not_le.mpr h1)) (fun _ => ?_)
  refine lv_iconst (v := 2) hx hb d_M_cut_17 (by decide) ?_
  refine lv_goto hx hb d_M_cut_18 (tgt := 22) rfl ?_
  refine pF (v := .int 2) hx hb hown hE hK hP hD hS 0 rfl rfl layM tyM tokM nmM 0 (by decide) w319 rfl rfl rfl (Nat.le_of_ble_eq_true rfl) d_M_cut_22 (fun H locs hP hD hS => ?_)
  have hP : va_P D vwCl (MW dA h ad (MS.s_cod x 2)) H := hP
  have hD : va_D A (MW dA h ad (MS.s_cod x 2)) := hD
  refine lv_aload_n hx hb d_M_cut_25 rfl (lv_at hl 0 rfl) ?_
  refine lv_aload_n hx hb d_M_cut_26 rfl (lv_at hl 0 rfl) ?_
  refine gF (v := .int 2) hx hb hown hE hK hP 0 rfl rfl layM 0 (by decide) w319 rfl d_M_cut_27 ?_
  refine lv_if_ne hx hb d_M_cut_30 (tgt := 37) rfl (fun _ => ?_) (fun h9 => absurd h9 (by decide))
  refine lv_aload_n hx hb d_M_cut_37 rfl (lv_at hl 0 rfl) ?_
  refine gF (v := .int x.cutLeft) hx hb hown hE hK hP 0 rfl rfl layM 8 (by decide) w325 rfl d_M_cut_38 ?_
  refine pF (v := .int x.cutLeft) hx hb hown hE hK hP hD hS 0 rfl rfl layM tyM tokM nmM 8 (by decide) w325 rfl rfl rfl (Nat.le_of_ble_eq_true rfl) d_M_cut_41 (fun H locs hP hD hS => ?_)
  have hP : va_P D vwCl (MW dA h ad (MS.s_cutLeft (MS.s_cod x 2) x.cutLeft)) H := hP
  have hD : va_D A (MW dA h ad (MS.s_cutLeft (MS.s_cod x 2) x.cutLeft)) := hD
  exact rfV hx hb hr hlk hS () trivial hP hD (Nat.le_of_ble_eq_true rfl) (Nat.le_of_ble_eq_true rfl) d_M_cut_44
set_option maxHeartbeats 4000000 in
set_option maxRecDepth 100000 in
theorem k_cut (l : Launch) (D : va_G) (dA : Nat → ClassId) (sz : Nat) (h : Nat) (ad : Nat → Nat) (x : MS) (n : Int32) (ho : x.on = true) (h1 : (-1) ≤ n) : Met l ⟨"SeriesVaultModel", "cut", "(I)V"⟩ [Cond.code ⟨"SeriesVaultModel", "cut", "(I)V"⟩ prog_14_method_51_code 2 none] { frames := 1, cells := 0, slots := 0, locals := 0 } (pC D dA [.ref h, .int n] (MW dA h ad x) sz) (va_Qv (fun (u9 : Unit) => True) (fun (u9 : Unit) t9 => bW D (va_A (MW dA h ad x) sz) (MW dA h ad (MS.s_cutLeft (MS.s_cod x 0) n)) t9) (va_A (MW dA h ad x) sz)) 0 0 (va_A (MW dA h ad x) sz) := by
  refine mkC (y := ⟨"SeriesVaultModel", "cut", "(I)V"⟩) (cc := prog_14_method_51_code) (maxL := 2) (av := [.ref h, .int n]) (ws := MW dA h ad x) (sz := sz) (Qc := fun A => va_Qv (fun (u9 : Unit) => True) (fun (u9 : Unit) t9 => bW D A (MW dA h ad (MS.s_cutLeft (MS.s_cod x 0) n)) t9) A) (by decide) (Nat.le_of_ble_eq_true rfl) ?_
  intro A p e s m below meth c ls hsz hB
  obtain ⟨hx, hb, hr, hml, hown, hin, hlk, hE, hK, hP, hD, hS, hA, hN, hl⟩ := hB
  have hown : s.vm.findClass "SeriesVaultModel" = some m.cls := hown
  have hl : lv_has ls 2 [(0, .ref h), (1, .int n)] := hl
  obtain ⟨H, hH⟩ : ∃ z, z = s.heap := ⟨_, rfl⟩
  have hP : va_P D vwCl (MW dA h ad x) H := by rw [hH]; exact hP
  have hS : va_S A s.heap H [] := by rw [hH]; exact hS
  rw [← hH]
  refine lv_aload_n hx hb d_M_cut_0 rfl (lv_at hl 0 rfl) ?_
  refine lv_aload_n hx hb d_M_cut_1 rfl (lv_at hl 0 rfl) ?_
  refine gF (v := .int (bI x.on)) hx hb hown hE hK hP 0 rfl rfl layM 7 (by decide) w324 rfl d_M_cut_2 ?_
  refine lv_if_ne hx hb d_M_cut_5 (tgt := 12) rfl (fun _ => ?_) (fun h9 => absurd h9 (by rw [ho]; decide))
  refine lv_iload_n hx hb d_M_cut_12 rfl (lv_at hl 1 rfl) ?_
  refine lv_iconst (v := (-1)) hx hb d_M_cut_13 (by decide) ?_
  refine lv_icmp_ge hx hb d_M_cut_14 (tgt := 21) rfl (fun _ => ?_) (fun h9 => absurd h1 h9)
  refine lv_iconst (v := 0) hx hb d_M_cut_21 (by decide) ?_
  refine pF (v := .int 0) hx hb hown hE hK hP hD hS 0 rfl rfl layM tyM tokM nmM 0 (by decide) w319 rfl rfl rfl (Nat.le_of_ble_eq_true rfl) d_M_cut_22 (fun H locs hP hD hS => ?_)
  have hP : va_P D vwCl (MW dA h ad (MS.s_cod x 0)) H := hP
  have hD : va_D A (MW dA h ad (MS.s_cod x 0)) := hD
  refine lv_aload_n hx hb d_M_cut_25 rfl (lv_at hl 0 rfl) ?_
  refine lv_aload_n hx hb d_M_cut_26 rfl (lv_at hl 0 rfl) ?_
  refine gF (v := .int 0) hx hb hown hE hK hP 0 rfl rfl layM 0 (by decide) w319 rfl d_M_cut_27 ?_
  refine lv_if_ne hx hb d_M_cut_30 (tgt := 37) rfl (fun h9 => absurd (by decide) h9) (fun _ => ?_)
  refine lv_iload_n hx hb d_M_cut_33 rfl (lv_at hl 1 rfl) ?_
  refine lv_goto hx hb d_M_cut_34 (tgt := 41) rfl ?_
  refine pF (v := .int n) hx hb hown hE hK hP hD hS 0 rfl rfl layM tyM tokM nmM 8 (by decide) w325 rfl rfl rfl (Nat.le_of_ble_eq_true rfl) d_M_cut_41 (fun H locs hP hD hS => ?_)
  have hP : va_P D vwCl (MW dA h ad (MS.s_cutLeft (MS.s_cod x 0) n)) H := hP
  have hD : va_D A (MW dA h ad (MS.s_cutLeft (MS.s_cod x 0) n)) := hD
  exact rfV hx hb hr hlk hS () trivial hP hD (Nat.le_of_ble_eq_true rfl) (Nat.le_of_ble_eq_true rfl) d_M_cut_44
theorem d_M_off_12 : decode prog_14_method_52_code 12 = .ok (.iconst 1, 1) := by decide +kernel
set_option maxHeartbeats 4000000 in
set_option maxRecDepth 100000 in
theorem k_off_0 (l : Launch) (D : va_G) (dA : Nat → ClassId) (sz : Nat) (h : Nat) (ad : Nat → Nat) (x : MS) (ho : x.on = false) : Met l ⟨"SeriesVaultModel", "off", "()V"⟩ [Cond.code ⟨"SeriesVaultModel", "off", "()V"⟩ prog_14_method_52_code 1 none] { frames := 1, cells := 0, slots := 0, locals := 0 } (pC D dA [.ref h] (MW dA h ad x) sz) (va_Qv (fun (u9 : Unit) => True) (fun (u9 : Unit) t9 => bW D (va_A (MW dA h ad x) sz) (MW dA h ad (MS.s_on (MS.s_cod x 1) false)) t9) (va_A (MW dA h ad x) sz)) 0 0 (va_A (MW dA h ad x) sz) := by
  refine mkC (y := ⟨"SeriesVaultModel", "off", "()V"⟩) (cc := prog_14_method_52_code) (maxL := 1) (av := [.ref h]) (ws := MW dA h ad x) (sz := sz) (Qc := fun A => va_Qv (fun (u9 : Unit) => True) (fun (u9 : Unit) t9 => bW D A (MW dA h ad (MS.s_on (MS.s_cod x 1) false)) t9) A) (by decide) (Nat.le_of_ble_eq_true rfl) ?_
  intro A p e s m below meth c ls hsz hB
  obtain ⟨hx, hb, hr, hml, hown, hin, hlk, hE, hK, hP, hD, hS, hA, hN, hl⟩ := hB
  have hown : s.vm.findClass "SeriesVaultModel" = some m.cls := hown
  have hl : lv_has ls 1 [(0, .ref h)] := hl
  obtain ⟨H, hH⟩ : ∃ z, z = s.heap := ⟨_, rfl⟩
  have hP : va_P D vwCl (MW dA h ad x) H := by rw [hH]; exact hP
  have hS : va_S A s.heap H [] := by rw [hH]; exact hS
  rw [← hH]
  refine lv_aload_n hx hb d_M_off_0 rfl (lv_at hl 0 rfl) ?_
  refine lv_aload_n hx hb d_M_off_1 rfl (lv_at hl 0 rfl) ?_
  refine gF (v := .int (bI x.on)) hx hb hown hE hK hP 0 rfl rfl layM 7 (by decide) w324 rfl d_M_off_2 ?_
  refine lv_if_eq hx hb d_M_off_5 (tgt := 12) rfl (fun _ => ?_) (fun h9 => absurd (by rw [ho]; decide) h9)
  refine lv_iconst (v := 1) hx hb d_M_off_12 (by decide) ?_
  refine pF (v := .int 1) hx hb hown hE hK hP hD hS 0 rfl rfl layM tyM tokM nmM 0 (by decide) w319 rfl rfl rfl (Nat.le_of_ble_eq_true rfl) d_M_off_13 (fun H locs hP hD hS => ?_)
  have hP : va_P D vwCl (MW dA h ad (MS.s_cod x 1)) H := hP
  have hD : va_D A (MW dA h ad (MS.s_cod x 1)) := hD
  refine lv_aload_n hx hb d_M_off_16 rfl (lv_at hl 0 rfl) ?_
  refine lv_iconst (v := 0) hx hb d_M_off_17 (by decide) ?_
  refine pF (v := .int (bI false)) hx hb hown hE hK hP hD hS 0 rfl rfl layM tyM tokM nmM 7 (by decide) w324 rfl (bI_nar false) (bI_fit false) (Nat.le_of_ble_eq_true rfl) d_M_off_18 (fun H locs hP hD hS => ?_)
  have hP : va_P D vwCl (MW dA h ad (MS.s_on (MS.s_cod x 1) false)) H := hP
  have hD : va_D A (MW dA h ad (MS.s_on (MS.s_cod x 1) false)) := hD
  exact rfV hx hb hr hlk hS () trivial hP hD (Nat.le_of_ble_eq_true rfl) (Nat.le_of_ble_eq_true rfl) d_M_off_21
set_option maxHeartbeats 4000000 in
set_option maxRecDepth 100000 in
theorem k_off (l : Launch) (D : va_G) (dA : Nat → ClassId) (sz : Nat) (h : Nat) (ad : Nat → Nat) (x : MS) (ho : x.on = true) : Met l ⟨"SeriesVaultModel", "off", "()V"⟩ [Cond.code ⟨"SeriesVaultModel", "off", "()V"⟩ prog_14_method_52_code 1 none] { frames := 1, cells := 0, slots := 0, locals := 0 } (pC D dA [.ref h] (MW dA h ad x) sz) (va_Qv (fun (u9 : Unit) => True) (fun (u9 : Unit) t9 => bW D (va_A (MW dA h ad x) sz) (MW dA h ad (MS.s_on (MS.s_cod x 0) false)) t9) (va_A (MW dA h ad x) sz)) 0 0 (va_A (MW dA h ad x) sz) := by
  refine mkC (y := ⟨"SeriesVaultModel", "off", "()V"⟩) (cc := prog_14_method_52_code) (maxL := 1) (av := [.ref h]) (ws := MW dA h ad x) (sz := sz) (Qc := fun A => va_Qv (fun (u9 : Unit) => True) (fun (u9 : Unit) t9 => bW D A (MW dA h ad (MS.s_on (MS.s_cod x 0) false)) t9) A) (by decide) (Nat.le_of_ble_eq_true rfl) ?_
  intro A p e s m below meth c ls hsz hB
  obtain ⟨hx, hb, hr, hml, hown, hin, hlk, hE, hK, hP, hD, hS, hA, hN, hl⟩ := hB
  have hown : s.vm.findClass "SeriesVaultModel" = some m.cls := hown
  have hl : lv_has ls 1 [(0, .ref h)] := hl
  obtain ⟨H, hH⟩ : ∃ z, z = s.heap := ⟨_, rfl⟩
  have hP : va_P D vwCl (MW dA h ad x) H := by rw [hH]; exact hP
  have hS : va_S A s.heap H [] := by rw [hH]; exact hS
  rw [← hH]
  refine lv_aload_n hx hb d_M_off_0 rfl (lv_at hl 0 rfl) ?_
  refine lv_aload_n hx hb d_M_off_1 rfl (lv_at hl 0 rfl) ?_
  refine gF (v := .int (bI x.on)) hx hb hown hE hK hP 0 rfl rfl layM 7 (by decide) w324 rfl d_M_off_2 ?_
  refine lv_if_eq hx hb d_M_off_5 (tgt := 12) rfl (fun h9 => absurd h9 (by rw [ho]; decide)) (fun _ => ?_)
  refine lv_iconst (v := 0) hx hb d_M_off_8 (by decide) ?_
  refine lv_goto hx hb d_M_off_9 (tgt := 13) rfl ?_
  refine pF (v := .int 0) hx hb hown hE hK hP hD hS 0 rfl rfl layM tyM tokM nmM 0 (by decide) w319 rfl rfl rfl (Nat.le_of_ble_eq_true rfl) d_M_off_13 (fun H locs hP hD hS => ?_)
  have hP : va_P D vwCl (MW dA h ad (MS.s_cod x 0)) H := hP
  have hD : va_D A (MW dA h ad (MS.s_cod x 0)) := hD
  refine lv_aload_n hx hb d_M_off_16 rfl (lv_at hl 0 rfl) ?_
  refine lv_iconst (v := 0) hx hb d_M_off_17 (by decide) ?_
  refine pF (v := .int (bI false)) hx hb hown hE hK hP hD hS 0 rfl rfl layM tyM tokM nmM 7 (by decide) w324 rfl (bI_nar false) (bI_fit false) (Nat.le_of_ble_eq_true rfl) d_M_off_18 (fun H locs hP hD hS => ?_)
  have hP : va_P D vwCl (MW dA h ad (MS.s_on (MS.s_cod x 0) false)) H := hP
  have hD : va_D A (MW dA h ad (MS.s_on (MS.s_cod x 0) false)) := hD
  exact rfV hx hb hr hlk hS () trivial hP hD (Nat.le_of_ble_eq_true rfl) (Nat.le_of_ble_eq_true rfl) d_M_off_21
theorem d_M_newSeries_0 : decode prog_14_method_28_code 0 = .ok (.aload_n 0, 1) := by decide +kernel
theorem d_M_newSeries_1 : decode prog_14_method_28_code 1 = .ok (.getfield 32, 3) := by decide +kernel
theorem d_M_newSeries_4 : decode prog_14_method_28_code 4 = .ok (.iload_n 1, 1) := by decide +kernel
theorem d_M_newSeries_5 : decode prog_14_method_28_code 5 = .ok (.iload_n 2, 1) := by decide +kernel
theorem d_M_newSeries_6 : decode prog_14_method_28_code 6 = .ok (.iastore, 1) := by decide +kernel
theorem d_M_newSeries_7 : decode prog_14_method_28_code 7 = .ok (.aload_n 0, 1) := by decide +kernel
theorem d_M_newSeries_8 : decode prog_14_method_28_code 8 = .ok (.getfield 36, 3) := by decide +kernel
theorem d_M_newSeries_11 : decode prog_14_method_28_code 11 = .ok (.iload_n 1, 1) := by decide +kernel
theorem d_M_newSeries_12 : decode prog_14_method_28_code 12 = .ok (.ldc2_w 232, 3) := by decide +kernel
theorem d_M_newSeries_15 : decode prog_14_method_28_code 15 = .ok (.lastore, 1) := by decide +kernel
theorem d_M_newSeries_16 : decode prog_14_method_28_code 16 = .ok (.aload_n 0, 1) := by decide +kernel
theorem d_M_newSeries_17 : decode prog_14_method_28_code 17 = .ok (.iload_n 1, 1) := by decide +kernel
theorem d_M_newSeries_18 : decode prog_14_method_28_code 18 = .ok (.iconst 1, 1) := by decide +kernel
theorem d_M_newSeries_19 : decode prog_14_method_28_code 19 = .ok (.iadd, 1) := by decide +kernel
theorem d_M_newSeries_20 : decode prog_14_method_28_code 20 = .ok (.putfield 160, 3) := by decide +kernel
theorem d_M_newSeries_23 : decode prog_14_method_28_code 23 = .ok (.return_, 1) := by decide +kernel
theorem w864 : Cond.constantLong "SeriesVaultModel" 232 (-1) ∈ aW := aw_of (tb_10 (List.mem_of_getElem? (i := 6) rfl)) rfl
set_option maxHeartbeats 4000000 in
set_option maxRecDepth 100000 in
theorem k_newSeries (l : Launch) (D : va_G) (dA : Nat → ClassId) (sz : Nat) (h : Nat) (ad : Nat → Nat) (x : MS) (q : Nat) (n : Nat) (hq : q < 256) : Met l ⟨"SeriesVaultModel", "newSeries", "(II)V"⟩ [Cond.code ⟨"SeriesVaultModel", "newSeries", "(II)V"⟩ prog_14_method_28_code 3 none] { frames := 1, cells := 0, slots := 0, locals := 0 } (pC D dA [.ref h, .int (nI q), .int (nI n)] (MW dA h ad x) sz) (va_Qv (fun (u9 : Unit) => True) (fun (u9 : Unit) t9 => bW D (va_A (MW dA h ad x) sz) (MW dA h ad (MS.s_lasts (MS.s_seriesCount (MS.s_textLengths x (va_up x.textLengths q n)) (q + 1)) (va_up x.lasts q (-1)))) t9) (va_A (MW dA h ad x) sz)) 0 0 (va_A (MW dA h ad x) sz) := by
  refine mkC (y := ⟨"SeriesVaultModel", "newSeries", "(II)V"⟩) (cc := prog_14_method_28_code) (maxL := 3) (av := [.ref h, .int (nI q), .int (nI n)]) (ws := MW dA h ad x) (sz := sz) (Qc := fun A => va_Qv (fun (u9 : Unit) => True) (fun (u9 : Unit) t9 => bW D A (MW dA h ad (MS.s_lasts (MS.s_seriesCount (MS.s_textLengths x (va_up x.textLengths q n)) (q + 1)) (va_up x.lasts q (-1)))) t9) A) (by decide) (Nat.le_of_ble_eq_true rfl) ?_
  intro A p e s m below meth c ls hsz hB
  obtain ⟨hx, hb, hr, hml, hown, hin, hlk, hE, hK, hP, hD, hS, hA, hN, hl⟩ := hB
  have hown : s.vm.findClass "SeriesVaultModel" = some m.cls := hown
  have hl : lv_has ls 3 [(0, .ref h), (1, .int (nI q)), (2, .int (nI n))] := hl
  obtain ⟨H, hH⟩ : ∃ z, z = s.heap := ⟨_, rfl⟩
  have hP : va_P D vwCl (MW dA h ad x) H := by rw [hH]; exact hP
  have hS : va_S A s.heap H [] := by rw [hH]; exact hS
  rw [← hH]
  refine lv_aload_n hx hb d_M_newSeries_0 rfl (lv_at hl 0 rfl) ?_
  refine gF (v := .ref (ad 11)) hx hb hown hE hK hP 0 rfl rfl layM 11 (by decide) w500 rfl d_M_newSeries_1 ?_
  refine lv_iload_n hx hb d_M_newSeries_4 rfl (lv_at hl 1 rfl) ?_
  refine lv_iload_n hx hb d_M_newSeries_5 rfl (lv_at hl 2 rfl) ?_
  refine nistN (v := n) hx hb hK hP hD hS 3 1 rfl rfl (q) (by omega) (by decide) d_M_newSeries_6 (fun H locs hP hD hS => ?_)
  have hP : va_P D vwCl (MW dA h ad (MS.s_textLengths x (va_up x.textLengths q n))) H := hP
  have hD : va_D A (MW dA h ad (MS.s_textLengths x (va_up x.textLengths q n))) := hD
  refine lv_aload_n hx hb d_M_newSeries_7 rfl (lv_at hl 0 rfl) ?_
  refine gF (v := .ref (ad 13)) hx hb hown hE hK hP 0 rfl rfl layM 13 (by decide) w501 rfl d_M_newSeries_8 ?_
  refine lv_iload_n hx hb d_M_newSeries_11 rfl (lv_at hl 1 rfl) ?_
  refine lv_ldc2 (v := (-1)) hx hb hown (hE.t w864 rfl) d_M_newSeries_12 ?_
  refine nlst hx hb hK hP hD hS 4 2 rfl rfl (q) (by omega) (by decide) d_M_newSeries_15 (fun H locs hP hD hS => ?_)
  have hP : va_P D vwCl (MW dA h ad (MS.s_lasts (MS.s_textLengths x (va_up x.textLengths q n)) (va_up x.lasts q (-1)))) H := hP
  have hD : va_D A (MW dA h ad (MS.s_lasts (MS.s_textLengths x (va_up x.textLengths q n)) (va_up x.lasts q (-1)))) := hD
  refine lv_aload_n hx hb d_M_newSeries_16 rfl (lv_at hl 0 rfl) ?_
  refine lv_iload_n hx hb d_M_newSeries_17 rfl (lv_at hl 1 rfl) ?_
  refine lv_iconst (v := 1) hx hb d_M_newSeries_18 (by decide) ?_
  refine lv_iadd hx hb d_M_newSeries_19 (tpi (y := nI (q + 1)) (nI_add (q) (1)) ?_)
  refine pF (v := .int (nI (q + 1))) hx hb hown hE hK hP hD hS 0 rfl rfl layM tyM tokM nmM 12 (by decide) w332 rfl rfl rfl (Nat.le_of_ble_eq_true rfl) d_M_newSeries_20 (fun H locs hP hD hS => ?_)
  have hP : va_P D vwCl (MW dA h ad (MS.s_lasts (MS.s_seriesCount (MS.s_textLengths x (va_up x.textLengths q n)) (q + 1)) (va_up x.lasts q (-1)))) H := hP
  have hD : va_D A (MW dA h ad (MS.s_lasts (MS.s_seriesCount (MS.s_textLengths x (va_up x.textLengths q n)) (q + 1)) (va_up x.lasts q (-1)))) := hD
  exact rfV hx hb hr hlk hS () trivial hP hD (Nat.le_of_ble_eq_true rfl) (Nat.le_of_ble_eq_true rfl) d_M_newSeries_23
