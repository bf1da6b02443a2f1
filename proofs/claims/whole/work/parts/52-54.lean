section
/-- how many below n -/
def cnt (n : Nat) (f : Nat → Bool) : Nat := match n with
  | 0 => 0
  | k + 1 => cnt k f + (if f k then 1 else 0)
theorem cnt_t {n : Nat} {f : Nat → Bool} (h : f n = true) : cnt (n + 1) f = cnt n f + 1 := by simp [cnt, h]
theorem cnt_f {n : Nat} {f : Nat → Bool} (h : f n = false) : cnt (n + 1) f = cnt n f := by simp [cnt, h]
theorem cnt_le (n : Nat) (f : Nat → Bool) : cnt n f ≤ n := by
  induction n with
  | zero => exact Nat.le_refl _
  | succ k ih => unfold cnt; split <;> omega
def MS.room (x : MS) (n : Nat) : Bool := decide (x.used + n ≤ 126) || decide (x.block + 1 < x.journal)
def MS.seen (x : MS) (q : Nat) : Bool := !decide (x.places q ≤ -2) && (!decide (0 ≤ x.hidden q) && !decide (x.pointTimes q < x.horizon))
def MS.heads (x : MS) : Nat := cnt x.points (fun q => decide (x.places q = -1) && x.seen q)
theorem d_M_isSeen_0 : decode prog_14_method_13_code 0 = .ok (.aload_n 0, 1) := by decide +kernel
theorem d_M_isSeen_1 : decode prog_14_method_13_code 1 = .ok (.getfield 52, 3) := by decide +kernel
theorem d_M_isSeen_4 : decode prog_14_method_13_code 4 = .ok (.iload_n 1, 1) := by decide +kernel
theorem d_M_isSeen_5 : decode prog_14_method_13_code 5 = .ok (.iaload, 1) := by decide +kernel
theorem d_M_isSeen_6 : decode prog_14_method_13_code 6 = .ok (.bipush (-2), 2) := by decide +kernel
theorem d_M_isSeen_8 : decode prog_14_method_13_code 8 = .ok (.if_icmp .le 30, 3) := by decide +kernel
theorem d_M_isSeen_38 : decode prog_14_method_13_code 38 = .ok (.iconst 0, 1) := by decide +kernel
theorem d_M_isSeen_39 : decode prog_14_method_13_code 39 = .ok (.ireturn, 1) := by decide +kernel
theorem d_M_isSeen_11 : decode prog_14_method_13_code 11 = .ok (.aload_n 0, 1) := by decide +kernel
theorem d_M_isSeen_12 : decode prog_14_method_13_code 12 = .ok (.getfield 55, 3) := by decide +kernel
theorem d_M_isSeen_15 : decode prog_14_method_13_code 15 = .ok (.iload_n 1, 1) := by decide +kernel
theorem d_M_isSeen_16 : decode prog_14_method_13_code 16 = .ok (.iaload, 1) := by decide +kernel
theorem d_M_isSeen_17 : decode prog_14_method_13_code 17 = .ok (.ifCond .ge 21, 3) := by decide +kernel
theorem d_M_isSeen_20 : decode prog_14_method_13_code 20 = .ok (.aload_n 0, 1) := by decide +kernel
theorem d_M_isSeen_21 : decode prog_14_method_13_code 21 = .ok (.getfield 46, 3) := by decide +kernel
theorem d_M_isSeen_24 : decode prog_14_method_13_code 24 = .ok (.iload_n 1, 1) := by decide +kernel
theorem d_M_isSeen_25 : decode prog_14_method_13_code 25 = .ok (.laload, 1) := by decide +kernel
theorem d_M_isSeen_26 : decode prog_14_method_13_code 26 = .ok (.aload_n 0, 1) := by decide +kernel
theorem d_M_isSeen_27 : decode prog_14_method_13_code 27 = .ok (.getfield 172, 3) := by decide +kernel
theorem d_M_isSeen_30 : decode prog_14_method_13_code 30 = .ok (.lcmp, 1) := by decide +kernel
theorem d_M_isSeen_31 : decode prog_14_method_13_code 31 = .ok (.ifCond .lt 7, 3) := by decide +kernel
theorem d_M_isSeen_34 : decode prog_14_method_13_code 34 = .ok (.iconst 1, 1) := by decide +kernel
theorem d_M_isSeen_35 : decode prog_14_method_13_code 35 = .ok (.goto 4, 3) := by decide +kernel
set_option maxHeartbeats 4000000 in
set_option maxRecDepth 100000 in
theorem k_isSeen (l : Launch) (D : va_G) (dA : Nat → ClassId) (sz : Nat) (h : Nat) (ad : Nat → Nat) (x : MS) (q : Nat) (hq : q < 12000) : Met l ⟨"SeriesVaultModel", "isSeen", "(I)Z"⟩ [Cond.code ⟨"SeriesVaultModel", "isSeen", "(I)Z"⟩ prog_14_method_13_code 2 (some FieldType.boolean)] { frames := 1, cells := 0, slots := 0, locals := 0 } (pC D dA [.ref h, .int (nI q)] (MW dA h ad x) sz) (va_Qi (fun (r9 : Int32) (u9 : Unit) => r9 = bI (x.seen q)) (fun (u9 : Unit) t9 => bW D (va_A (MW dA h ad x) sz) (MW dA h ad x) t9) (va_A (MW dA h ad x) sz)) 0 0 (va_A (MW dA h ad x) sz) := by
  refine mkC (y := ⟨"SeriesVaultModel", "isSeen", "(I)Z"⟩) (cc := prog_14_method_13_code) (maxL := 2) (av := [.ref h, .int (nI q)]) (ws := MW dA h ad x) (sz := sz) (Qc := fun A => va_Qi (fun (r9 : Int32) (u9 : Unit) => r9 = bI (x.seen q)) (fun (u9 : Unit) t9 => bW D A (MW dA h ad x) t9) A) (by decide) (Nat.le_of_ble_eq_true rfl) ?_
  intro A p e s m below meth c ls hsz hB
  obtain ⟨hx, hb, hr, hml, hown, hin, hlk, hE, hK, hP, hD, hS, hA, hN, hl⟩ := hB
  have hown : s.vm.findClass "SeriesVaultModel" = some m.cls := hown
  have hl : lv_has ls 2 [(0, .ref h), (1, .int (nI q))] := hl
  obtain ⟨H, hH⟩ : ∃ z, z = s.heap := ⟨_, rfl⟩
  have hP : va_P D vwCl (MW dA h ad x) H := by rw [hH]; exact hP
  have hS : va_S A s.heap H [] := by rw [hH]; exact hS
  rw [← hH]
  refine lv_aload_n hx hb d_M_isSeen_0 rfl (lv_at hl 0 rfl) ?_
  refine gF (v := .ref (ad 20)) hx hb hown hE hK hP 0 rfl rfl layM 20 (by decide) w506 rfl d_M_isSeen_1 ?_
  refine lv_iload_n hx hb d_M_isSeen_4 rfl (lv_at hl 1 rfl) ?_
  refine nild (f := x.places) hx hb hK hP 9 1 rfl rfl (q) (by omega) (by decide) d_M_isSeen_5 ?_
  refine lv_bipush (v := (-2)) hx hb d_M_isSeen_6 (by decide) ?_
  refine lv_icmp_le hx hb d_M_isSeen_8 (tgt := 38) rfl (fun g1 => ?_) (fun g1 => ?_)
  · have g1 := g1
    refine lv_iconst (v := 0) hx hb d_M_isSeen_38 (by decide) ?_
    exact rfZ hx hb hr (bI_nar false) hlk hS () (by simp [MS.seen, bI, *]) hP hD (Nat.le_of_ble_eq_true rfl) (Nat.le_of_ble_eq_true rfl) d_M_isSeen_39
  · have g1 := g1
    refine lv_aload_n hx hb d_M_isSeen_11 rfl (lv_at hl 0 rfl) ?_
    refine gF (v := .ref (ad 21)) hx hb hown hE hK hP 0 rfl rfl layM 21 (by decide) w507 rfl d_M_isSeen_12 ?_
    refine lv_iload_n hx hb d_M_isSeen_15 rfl (lv_at hl 1 rfl) ?_
    refine nild (f := x.hidden) hx hb hK hP 10 1 rfl rfl (q) (by omega) (by decide) d_M_isSeen_16 ?_
    refine lv_if_ge hx hb d_M_isSeen_17 (tgt := 38) rfl (fun g2 => ?_) (fun g2 => ?_)
    · have g2 := g2
      refine lv_iconst (v := 0) hx hb d_M_isSeen_38 (by decide) ?_
      exact rfZ hx hb hr (bI_nar false) hlk hS () (by simp [MS.seen, bI, *]) hP hD (Nat.le_of_ble_eq_true rfl) (Nat.le_of_ble_eq_true rfl) d_M_isSeen_39
    · have g2 := g2
      refine lv_aload_n hx hb d_M_isSeen_20 rfl (lv_at hl 0 rfl) ?_
      refine gF (v := .ref (ad 18)) hx hb hown hE hK hP 0 rfl rfl layM 18 (by decide) w504 rfl d_M_isSeen_21 ?_
      refine lv_iload_n hx hb d_M_isSeen_24 rfl (lv_at hl 1 rfl) ?_
      refine nlld (f := x.pointTimes) hx hb hK hP 7 2 rfl rfl (q) (by omega) (by decide) d_M_isSeen_25 ?_
      refine lv_aload_n hx hb d_M_isSeen_26 rfl (lv_at hl 0 rfl) ?_
      refine gF (v := .long x.horizon) hx hb hown hE hK hP 0 rfl rfl layM 24 (by decide) w421 rfl d_M_isSeen_27 ?_
      refine W.lcmp hx hb d_M_isSeen_30 ?_
      refine lv_if_lt hx hb d_M_isSeen_31 (tgt := 38) rfl (fun g3 => ?_) (fun g3 => ?_)
      · have g3 := (lg_cmp_lt _ _).mp g3
        refine lv_iconst (v := 0) hx hb d_M_isSeen_38 (by decide) ?_
        exact rfZ hx hb hr (bI_nar false) hlk hS () (by simp [MS.seen, bI, *]) hP hD (Nat.le_of_ble_eq_true rfl) (Nat.le_of_ble_eq_true rfl) d_M_isSeen_39
      · have g3 := mt (lg_cmp_lt _ _).mpr g3
        refine lv_iconst (v := 1) hx hb d_M_isSeen_34 (by decide) ?_
        refine lv_goto hx hb d_M_isSeen_35 (tgt := 39) rfl ?_
        exact rfZ hx hb hr (bI_nar true) hlk hS () (by simp [MS.seen, bI, *]) hP hD (Nat.le_of_ble_eq_true rfl) (Nat.le_of_ble_eq_true rfl) d_M_isSeen_39
theorem d_M_headCount_12 : decode prog_14_method_14_code 12 = .ok (.iload_n 1, 1) := by decide +kernel
theorem d_M_headCount_13 : decode prog_14_method_14_code 13 = .ok (.aload_n 0, 1) := by decide +kernel
theorem d_M_headCount_14 : decode prog_14_method_14_code 14 = .ok (.getfield 52, 3) := by decide +kernel
theorem d_M_headCount_17 : decode prog_14_method_14_code 17 = .ok (.iload_n 2, 1) := by decide +kernel
theorem d_M_headCount_18 : decode prog_14_method_14_code 18 = .ok (.iaload, 1) := by decide +kernel
theorem d_M_headCount_19 : decode prog_14_method_14_code 19 = .ok (.iconst (-1), 1) := by decide +kernel
theorem d_M_headCount_20 : decode prog_14_method_14_code 20 = .ok (.if_icmp .ne 15, 3) := by decide +kernel
theorem d_M_headCount_35 : decode prog_14_method_14_code 35 = .ok (.iconst 0, 1) := by decide +kernel
theorem d_M_headCount_36 : decode prog_14_method_14_code 36 = .ok (.iadd, 1) := by decide +kernel
theorem d_M_headCount_37 : decode prog_14_method_14_code 37 = .ok (.istore_n 1, 1) := by decide +kernel
theorem d_M_headCount_38 : decode prog_14_method_14_code 38 = .ok (.iinc 2 1, 3) := by decide +kernel
theorem d_M_headCount_41 : decode prog_14_method_14_code 41 = .ok (.goto (-37), 3) := by decide +kernel
theorem d_M_headCount_23 : decode prog_14_method_14_code 23 = .ok (.aload_n 0, 1) := by decide +kernel
theorem d_M_headCount_24 : decode prog_14_method_14_code 24 = .ok (.iload_n 2, 1) := by decide +kernel
theorem d_M_headCount_25 : decode prog_14_method_14_code 25 = .ok (.invokevirtual 207, 3) := by decide +kernel
theorem d_M_headCount_28 : decode prog_14_method_14_code 28 = .ok (.ifCond .eq 7, 3) := by decide +kernel
theorem d_M_headCount_31 : decode prog_14_method_14_code 31 = .ok (.iconst 1, 1) := by decide +kernel
theorem d_M_headCount_32 : decode prog_14_method_14_code 32 = .ok (.goto 4, 3) := by decide +kernel
theorem w860 : Cond.methodLink "SeriesVaultModel" 207 ⟨"SeriesVaultModel", "isSeen", "(I)Z"⟩ ∈ aW := aw_of (tb_10 (List.mem_of_getElem? (i := 36) rfl)) rfl
theorem w861 : Cond.code ⟨"SeriesVaultModel", "isSeen", "(I)Z"⟩ prog_14_method_13_code 2 (some FieldType.boolean) ∈ aW := aw_of (tb_10 (List.mem_of_getElem? (i := 39) rfl)) rfl
theorem w862 : Cond.instanceMethod ⟨"SeriesVaultModel", "isSeen", "(I)Z"⟩ ∈ aW := aw_of (tb_10 (List.mem_of_getElem? (i := 38) rfl)) rfl
theorem w863 : Cond.selects "SeriesVaultModel" ⟨"SeriesVaultModel", "isSeen", "(I)Z"⟩ ⟨"SeriesVaultModel", "isSeen", "(I)Z"⟩ ∈ aW := aw_pr (List.mem_map.mpr ⟨_, pv_6 (List.mem_of_getElem? (i := 2) rfl), rfl⟩) rfl
set_option maxHeartbeats 4000000 in
set_option maxRecDepth 100000 in
theorem k_headCount (l : Launch) (D : va_G) (dA : Nat → ClassId) (sz : Nat) (h : Nat) (ad : Nat → Nat) (x : MS) (h1 : x.points ≤ 12000) : Met l ⟨"SeriesVaultModel", "headCount", "()I"⟩ [Cond.code ⟨"SeriesVaultModel", "headCount", "()I"⟩ prog_14_method_14_code 3 (some FieldType.int)] { frames := 2, cells := 0, slots := 0, locals := 21 } (pC D dA [.ref h] (MW dA h ad x) sz) (va_Qi (fun (r9 : Int32) (u9 : Unit) => r9 = nI x.heads) (fun (u9 : Unit) t9 => bW D (va_A (MW dA h ad x) sz) (MW dA h ad x) t9) (va_A (MW dA h ad x) sz)) 0 0 (va_A (MW dA h ad x) sz) := by
  refine mkC (y := ⟨"SeriesVaultModel", "headCount", "()I"⟩) (cc := prog_14_method_14_code) (maxL := 3) (av := [.ref h]) (ws := MW dA h ad x) (sz := sz) (Qc := fun A => va_Qi (fun (r9 : Int32) (u9 : Unit) => r9 = nI x.heads) (fun (u9 : Unit) t9 => bW D A (MW dA h ad x) t9) A) (by decide) (Nat.le_of_ble_eq_true rfl) ?_
  intro A p e s m below meth c ls hsz hB
  obtain ⟨hx, hb, hr, hml, hown, hin, hlk, hE, hK, hP, hD, hS, hA, hN, hl⟩ := hB
  have hown : s.vm.findClass "SeriesVaultModel" = some m.cls := hown
  have hl : lv_has ls 3 [(0, .ref h)] := hl
  obtain ⟨H, hH⟩ : ∃ z, z = s.heap := ⟨_, rfl⟩
  have hP : va_P D vwCl (MW dA h ad x) H := by rw [hH]; exact hP
  have hS : va_S A s.heap H [] := by rw [hH]; exact hS
  rw [← hH]
  refine lv_iconst (v := 0) hx hb d_M_headCount_0 (by decide) ?_
  refine lv_istore_n hx hb d_M_headCount_1 rfl hl (by decide) rfl (fun ls hl => ?_)
  have hl : lv_has ls 3 [(1, .int 0), (0, .ref h)] := hl
  refine lv_iconst (v := 0) hx hb d_M_headCount_2 (by decide) ?_
  refine lv_istore_n hx hb d_M_headCount_3 rfl hl (by decide) rfl (fun ls hl => ?_)
  have hl : lv_has ls 3 [(2, .int 0), (1, .int 0), (0, .ref h)] := hl
  have L4 : ∀ (k9 : Nat) (q : Nat) (n : Nat) (i1 : q ≤ x.points) (i2 : n = cnt q (fun q => decide (x.places q = -1) && x.seen q)) (hk9 : x.points - q = k9), ∀ (H : Heap) (locs : List Loc) (ls : Array Slot) (hP : va_P D vwCl (MW dA h ad x) H) (hD : va_D A (MW dA h ad x)) (hS : va_S A s.heap H locs) (hl : lv_has ls 3 [(2, .int (nI q)), (1, .int (nI n)), (0, .ref h)]), W p l e ({ frames := 2, cells := 0, slots := 0, locals := 21 } : Room) s m ([.ref h] : List Value).toArray below meth c H locs 0 0 (MQ below (va_Qi (fun (r9 : Int32) (u9 : Unit) => r9 = nI x.heads) (fun (u9 : Unit) t9 => bW D A (MW dA h ad x) t9) A) ([.ref h] : List Value).toArray s 0 0 A) (F0 m 4 ls []) := by
    intro k9
    induction k9 using Nat.strongRecOn with
    | ind k9 ih4 =>
      intro q n i1 i2 hk9 H locs ls hP hD hS hl
      refine lv_iload_n hx hb d_M_headCount_4 rfl (lv_at hl 0 rfl) ?_
      refine lv_aload_n hx hb d_M_headCount_5 rfl (lv_at hl 2 rfl) ?_
      refine gF (v := .int (nI x.points)) hx hb hown hE hK hP 0 rfl rfl layM 23 (by decide) w420 rfl d_M_headCount_6 ?_
      refine lv_icmp_ge hx hb d_M_headCount_9 (tgt := 44) rfl (fun g1 => ?_) (fun g1 => ?_)
      · have g1 := (nI_leI (a := x.points) (b := q) (by omega) (by omega)).mp g1
        refine lv_iload_n hx hb d_M_headCount_44 rfl (lv_at hl 1 rfl) ?_
        exact rfI hx hb hr hlk hS () (by rw [i2, show q = x.points by omega]; rfl) hP hD (Nat.le_of_ble_eq_true rfl) (Nat.le_of_ble_eq_true rfl) d_M_headCount_45
      · have g1 := mt (nI_leI (a := x.points) (b := q) (by omega) (by omega)).mpr g1
        refine lv_iload_n hx hb d_M_headCount_12 rfl (lv_at hl 1 rfl) ?_
        refine lv_aload_n hx hb d_M_headCount_13 rfl (lv_at hl 2 rfl) ?_
        refine gF (v := .ref (ad 20)) hx hb hown hE hK hP 0 rfl rfl layM 20 (by decide) w506 rfl d_M_headCount_14 ?_
        refine lv_iload_n hx hb d_M_headCount_17 rfl (lv_at hl 0 rfl) ?_
        refine nild (f := x.places) hx hb hK hP 9 1 rfl rfl (q) (by omega) (by decide) d_M_headCount_18 ?_
        refine lv_iconst (v := (-1)) hx hb d_M_headCount_19 (by decide) ?_
        refine lv_icmp_ne hx hb d_M_headCount_20 (tgt := 35) rfl (fun g2 => ?_) (fun g2 => ?_)
        · have g2 := g2
          refine lv_iconst (v := 0) hx hb d_M_headCount_35 (by decide) ?_
          refine lv_iadd hx hb d_M_headCount_36 (tpi (y := nI (n)) (nI_add (n) (0)) ?_)
          refine lv_istore_n hx hb d_M_headCount_37 rfl hl (by decide) rfl (fun ls hl => ?_)
          have hl : lv_has ls 3 [(1, .int (nI (n))), (2, .int (nI q)), (0, .ref h)] := hl
          refine lv_iinc (k := 1) (v := nI (q + 1)) hx hb d_M_headCount_38 hl rfl (iincN (q) 1 1 (by decide)) (by decide) rfl (fun ls hl => ?_)
          have hl : lv_has ls 3 [(2, .int (nI (q + 1))), (1, .int (nI (n))), (0, .ref h)] := hl
          refine lv_goto hx hb d_M_headCount_41 (tgt := 4) rfl ?_
          exact ih4 _ (by omega) (q + 1) n (by omega) (by simp [cnt, *]) rfl H _ ls hP hD hS (lv_sub hl [0, 1, 2] rfl)
        · have g2 := g2
          refine lv_aload_n hx hb d_M_headCount_23 rfl (lv_at hl 2 rfl) ?_
          refine lv_iload_n hx hb d_M_headCount_24 rfl (lv_at hl 0 rfl) ?_
          refine jfI (rnV (As := [.int (nI q)]) (rest := [.int (nI n)]) hx hb hml hown hE hK (hN _ _ hS) hP hD (k_isSeen l D dA H.size h ad x q (show q < 12000 from by omega)) (q0 := 0) rfl rfl w861 w860 w862 w863 w328 rfl rfl ⟨⟨by decide, by decide⟩, rfl⟩ ⟨(Nat.le_of_ble_eq_true rfl), (Nat.le_of_ble_eq_true rfl)⟩ rfl hl.1 rfl (Nat.le_of_ble_eq_true rfl) d_M_headCount_25 ⟨(Nat.le_of_ble_eq_true rfl), (Nat.le_of_ble_eq_true rfl)⟩) hP hD hS hA (fun r3 u4 H locs hp9 hP hD hS => ?_)
          have hP : va_P D vwCl (MW dA h ad x) H := hP
          have hD : va_D A (MW dA h ad x) := hD
          replace hp9 : bI (x.seen q) = r3 := Eq.symm hp9
          subst hp9
          refine lv_if_eq hx hb d_M_headCount_28 (tgt := 35) rfl (fun g5 => ?_) (fun g5 => ?_)
          · have g5 := bI_0 g5
            refine lv_iconst (v := 0) hx hb d_M_headCount_35 (by decide) ?_
            refine lv_iadd hx hb d_M_headCount_36 (tpi (y := nI (n)) (nI_add (n) (0)) ?_)
            refine lv_istore_n hx hb d_M_headCount_37 rfl hl (by decide) rfl (fun ls hl => ?_)
            have hl : lv_has ls 3 [(1, .int (nI (n))), (2, .int (nI q)), (0, .ref h)] := hl
            refine lv_iinc (k := 1) (v := nI (q + 1)) hx hb d_M_headCount_38 hl rfl (iincN (q) 1 1 (by decide)) (by decide) rfl (fun ls hl => ?_)
            have hl : lv_has ls 3 [(2, .int (nI (q + 1))), (1, .int (nI (n))), (0, .ref h)] := hl
            refine lv_goto hx hb d_M_headCount_41 (tgt := 4) rfl ?_
            exact ih4 _ (by omega) (q + 1) n (by omega) (by simp [cnt, *]) rfl H _ ls hP hD hS (lv_sub hl [0, 1, 2] rfl)
          · have g5 := bI_n0 g5
            refine lv_iconst (v := 1) hx hb d_M_headCount_31 (by decide) ?_
            refine lv_goto hx hb d_M_headCount_32 (tgt := 36) rfl ?_
            refine lv_iadd hx hb d_M_headCount_36 (tpi (y := nI (n + 1)) (nI_add (n) (1)) ?_)
            refine lv_istore_n hx hb d_M_headCount_37 rfl hl (by decide) rfl (fun ls hl => ?_)
            have hl : lv_has ls 3 [(1, .int (nI (n + 1))), (2, .int (nI q)), (0, .ref h)] := hl
            refine lv_iinc (k := 1) (v := nI (q + 1)) hx hb d_M_headCount_38 hl rfl (iincN (q) 1 1 (by decide)) (by decide) rfl (fun ls hl => ?_)
            have hl : lv_has ls 3 [(2, .int (nI (q + 1))), (1, .int (nI (n + 1))), (0, .ref h)] := hl
            refine lv_goto hx hb d_M_headCount_41 (tgt := 4) rfl ?_
            exact ih4 _ (by omega) (q + 1) (n + 1) (by omega) (by simp [cnt, *]) rfl H _ ls hP hD hS (lv_sub hl [0, 1, 2] rfl)
  exact L4 _ 0 0 (by omega) rfl rfl H _ ls hP hD hS (lv_sub hl [0, 1, 2] rfl)
set_option maxHeartbeats 4000000 in
set_option maxRecDepth 100000 in
theorem k_thrown (l : Launch) (D : va_G) (dA : Nat → ClassId) (sz : Nat) (h : Nat) (ad : Nat → Nat) (x : MS) : Met l ⟨"SeriesVaultModel", "thrown", "()I"⟩ [Cond.code ⟨"SeriesVaultModel", "thrown", "()I"⟩ prog_14_method_2_code 1 (some FieldType.int)] { frames := 1, cells := 0, slots := 0, locals := 0 } (pC D dA [.ref h] (MW dA h ad x) sz) (va_Qi (fun (r9 : Int32) (u9 : Unit) => r9 = x.cod) (fun (u9 : Unit) t9 => bW D (va_A (MW dA h ad x) sz) (MW dA h ad x) t9) (va_A (MW dA h ad x) sz)) 0 0 (va_A (MW dA h ad x) sz) := by
  refine mkC (y := ⟨"SeriesVaultModel", "thrown", "()I"⟩) (cc := prog_14_method_2_code) (maxL := 1) (av := [.ref h]) (ws := MW dA h ad x) (sz := sz) (Qc := fun A => va_Qi (fun (r9 : Int32) (u9 : Unit) => r9 = x.cod) (fun (u9 : Unit) t9 => bW D A (MW dA h ad x) t9) A) (by decide) (Nat.le_of_ble_eq_true rfl) ?_
  intro A p e s m below meth c ls hsz hB
  obtain ⟨hx, hb, hr, hml, hown, hin, hlk, hE, hK, hP, hD, hS, hA, hN, hl⟩ := hB
  have hown : s.vm.findClass "SeriesVaultModel" = some m.cls := hown
  have hl : lv_has ls 1 [(0, .ref h)] := hl
  obtain ⟨H, hH⟩ : ∃ z, z = s.heap := ⟨_, rfl⟩
  have hP : va_P D vwCl (MW dA h ad x) H := by rw [hH]; exact hP
  have hS : va_S A s.heap H [] := by rw [hH]; exact hS
  rw [← hH]
  refine lv_aload_n hx hb d_M_thrown_0 rfl (lv_at hl 0 rfl) ?_
  refine gF (v := .int x.cod) hx hb hown hE hK hP 0 rfl rfl layM 0 (by decide) w319 rfl d_M_thrown_1 ?_
  exact rfI hx hb hr hlk hS () rfl hP hD (Nat.le_of_ble_eq_true rfl) (Nat.le_of_ble_eq_true rfl) d_M_thrown_4
set_option maxHeartbeats 4000000 in
set_option maxRecDepth 100000 in
theorem k_written (l : Launch) (D : va_G) (dA : Nat → ClassId) (sz : Nat) (h : Nat) (ad : Nat → Nat) (x : MS) : Met l ⟨"SeriesVaultModel", "written", "()I"⟩ [Cond.code ⟨"SeriesVaultModel", "written", "()I"⟩ prog_14_method_50_code 1 (some FieldType.int)] { frames := 1, cells := 0, slots := 0, locals := 0 } (pC D dA [.ref h] (MW dA h ad x) sz) (va_Qi (fun (r9 : Int32) (u9 : Unit) => r9 = nI x.written) (fun (u9 : Unit) t9 => bW D (va_A (MW dA h ad x) sz) (MW dA h ad (MS.s_cod x 0)) t9) (va_A (MW dA h ad x) sz)) 0 0 (va_A (MW dA h ad x) sz) := by
  refine mkC (y := ⟨"SeriesVaultModel", "written", "()I"⟩) (cc := prog_14_method_50_code) (maxL := 1) (av := [.ref h]) (ws := MW dA h ad x) (sz := sz) (Qc := fun A => va_Qi (fun (r9 : Int32) (u9 : Unit) => r9 = nI x.written) (fun (u9 : Unit) t9 => bW D A (MW dA h ad (MS.s_cod x 0)) t9) A) (by decide) (Nat.le_of_ble_eq_true rfl) ?_
  intro A p e s m below meth c ls hsz hB
  obtain ⟨hx, hb, hr, hml, hown, hin, hlk, hE, hK, hP, hD, hS, hA, hN, hl⟩ := hB
  have hown : s.vm.findClass "SeriesVaultModel" = some m.cls := hown
  have hl : lv_has ls 1 [(0, .ref h)] := hl
  obtain ⟨H, hH⟩ : ∃ z, z = s.heap := ⟨_, rfl⟩
  have hP : va_P D vwCl (MW dA h ad x) H := by rw [hH]; exact hP
  have hS : va_S A s.heap H [] := by rw [hH]; exact hS
  rw [← hH]
  refine lv_aload_n hx hb d_M_written_0 rfl (lv_at hl 0 rfl) ?_
  refine lv_iconst (v := 0) hx hb d_M_written_1 (by decide) ?_
  refine pF (v := .int 0) hx hb hown hE hK hP hD hS 0 rfl rfl layM tyM tokM nmM 0 (by decide) w319 rfl rfl rfl (Nat.le_of_ble_eq_true rfl) d_M_written_2 (fun H locs hP hD hS => ?_)
  have hP : va_P D vwCl (MW dA h ad (MS.s_cod x 0)) H := hP
  have hD : va_D A (MW dA h ad (MS.s_cod x 0)) := hD
  refine lv_aload_n hx hb d_M_written_5 rfl (lv_at hl 0 rfl) ?_
  refine gF (v := .int (nI x.written)) hx hb hown hE hK hP 0 rfl rfl layM 9 (by decide) w323 rfl d_M_written_6 ?_
  exact rfI hx hb hr hlk hS () rfl hP hD (Nat.le_of_ble_eq_true rfl) (Nat.le_of_ble_eq_true rfl) d_M_written_9
set_option maxHeartbeats 4000000 in
set_option maxRecDepth 100000 in
theorem k_end (l : Launch) (D : va_G) (dA : Nat → ClassId) (sz : Nat) (h : Nat) (ad : Nat → Nat) (x : MS) (j : Nat) (h1 : j ≤ x.length) (h2 : x.length ≤ 65536) : Met l ⟨"SeriesVaultModel", "end", "(I)V"⟩ [Cond.code ⟨"SeriesVaultModel", "end", "(I)V"⟩ prog_14_method_4_code 2 none] { frames := 1, cells := 0, slots := 0, locals := 0 } (pC D dA [.ref h, .int (nI j)] (MW dA h ad x) sz) (va_Qv (fun (u9 : Unit) => True) (fun (u9 : Unit) t9 => bW D (va_A (MW dA h ad x) sz) (MW dA h ad (MS.s_length (MS.s_cod x 0) j)) t9) (va_A (MW dA h ad x) sz)) 0 0 (va_A (MW dA h ad x) sz) := by
  refine mkC (y := ⟨"SeriesVaultModel", "end", "(I)V"⟩) (cc := prog_14_method_4_code) (maxL := 2) (av := [.ref h, .int (nI j)]) (ws := MW dA h ad x) (sz := sz) (Qc := fun A => va_Qv (fun (u9 : Unit) => True) (fun (u9 : Unit) t9 => bW D A (MW dA h ad (MS.s_length (MS.s_cod x 0) j)) t9) A) (by decide) (Nat.le_of_ble_eq_true rfl) ?_
  intro A p e s m below meth c ls hsz hB
  obtain ⟨hx, hb, hr, hml, hown, hin, hlk, hE, hK, hP, hD, hS, hA, hN, hl⟩ := hB
  have hown : s.vm.findClass "SeriesVaultModel" = some m.cls := hown
  have hl : lv_has ls 2 [(0, .ref h), (1, .int (nI j))] := hl
  obtain ⟨H, hH⟩ : ∃ z, z = s.heap := ⟨_, rfl⟩
  have hP : va_P D vwCl (MW dA h ad x) H := by rw [hH]; exact hP
  have hS : va_S A s.heap H [] := by rw [hH]; exact hS
  rw [← hH]
  refine lv_aload_n hx hb d_M_end_0 rfl (lv_at hl 0 rfl) ?_
  refine lv_iload_n hx hb d_M_end_1 rfl (lv_at hl 1 rfl) ?_
  refine lv_if_lt hx hb d_M_end_2 (tgt := 13) rfl (fun h9 => absurd h9 (nI_pos (n := j) (by omega))) (fun _ => ?_)
  refine lv_iload_n hx hb d_M_end_5 rfl (lv_at hl 1 rfl) ?_
  refine lv_aload_n hx hb d_M_end_6 rfl (lv_at hl 0 rfl) ?_
  refine gF (v := .int (nI x.length)) hx hb hown hE hK hP 0 rfl rfl layM 2 (by decide) w320 rfl d_M_end_7 ?_
  refine lv_icmp_le hx hb d_M_end_10 (tgt := 17) rfl (fun _ => ?_) (fun h9 => absurd ((nI_leI (a := j) (b := x.length) (by omega) (by omega)).mpr h1) h9)
  refine lv_iconst (v := 0) hx hb d_M_end_17 (by decide) ?_
  refine pF (v := .int 0) hx hb hown hE hK hP hD hS 0 rfl rfl layM tyM tokM nmM 0 (by decide) w319 rfl rfl rfl (Nat.le_of_ble_eq_true rfl) d_M_end_18 (fun H locs hP hD hS => ?_)
  have hP : va_P D vwCl (MW dA h ad (MS.s_cod x 0)) H := hP
  have hD : va_D A (MW dA h ad (MS.s_cod x 0)) := hD
  refine lv_aload_n hx hb d_M_end_21 rfl (lv_at hl 0 rfl) ?_
  refine lv_aload_n hx hb d_M_end_22 rfl (lv_at hl 0 rfl) ?_
  refine gF (v := .int 0) hx hb hown hE hK hP 0 rfl rfl layM 0 (by decide) w319 rfl d_M_end_23 ?_
  refine lv_if_ne hx hb d_M_end_26 (tgt := 33) rfl (fun h9 => absurd (by decide) h9) (fun _ => ?_)
  refine lv_iload_n hx hb d_M_end_29 rfl (lv_at hl 1 rfl) ?_
  refine lv_goto hx hb d_M_end_30 (tgt := 37) rfl ?_
  refine pF (v := .int (nI j)) hx hb hown hE hK hP hD hS 0 rfl rfl layM tyM tokM nmM 2 (by decide) w320 rfl rfl rfl (Nat.le_of_ble_eq_true rfl) d_M_end_37 (fun H locs hP hD hS => ?_)
  have hP : va_P D vwCl (MW dA h ad (MS.s_length (MS.s_cod x 0) j)) H := hP
  have hD : va_D A (MW dA h ad (MS.s_length (MS.s_cod x 0) j)) := hD
  exact rfV hx hb hr hlk hS () trivial hP hD (Nat.le_of_ble_eq_true rfl) (Nat.le_of_ble_eq_true rfl) d_M_end_40
set_option maxHeartbeats 4000000 in
set_option maxRecDepth 100000 in
theorem k_end_x (l : Launch) (D : va_G) (dA : Nat → ClassId) (sz : Nat) (h : Nat) (ad : Nat → Nat) (x : MS) (n : Int32) (h0 : n < 0 ∨ nI x.length < n) : Met l ⟨"SeriesVaultModel", "end", "(I)V"⟩ [Cond.code ⟨"SeriesVaultModel", "end", "(I)V"⟩ prog_14_method_4_code 2 none] { frames := 1, cells := 0, slots := 0, locals := 0 } (pC D dA [.ref h, .int n] (MW dA h ad x) sz) (va_Qv (fun (u9 : Unit) => True) (fun (u9 : Unit) t9 => bW D (va_A (MW dA h ad x) sz) (MW dA h ad (MS.s_cod x 1)) t9) (va_A (MW dA h ad x) sz)) 0 0 (va_A (MW dA h ad x) sz) := by
  refine mkC (y := ⟨"SeriesVaultModel", "end", "(I)V"⟩) (cc := prog_14_method_4_code) (maxL := 2) (av := [.ref h, .int n]) (ws := MW dA h ad x) (sz := sz) (Qc := fun A => va_Qv (fun (u9 : Unit) => True) (fun (u9 : Unit) t9 => bW D A (MW dA h ad (MS.s_cod x 1)) t9) A) (by decide) (Nat.le_of_ble_eq_true rfl) ?_
  intro A p e s m below meth c ls hsz hB
  obtain ⟨hx, hb, hr, hml, hown, hin, hlk, hE, hK, hP, hD, hS, hA, hN, hl⟩ := hB
  have hown : s.vm.findClass "SeriesVaultModel" = some m.cls := hown
  have hl : lv_has ls 2 [(0, .ref h), (1, .int n)] := hl
  obtain ⟨H, hH⟩ : ∃ z, z = s.heap := ⟨_, rfl⟩
  have hP : va_P D vwCl (MW dA h ad x) H := by rw [hH]; exact hP
  have hS : va_S A s.heap H [] := by rw [hH]; exact hS
  rw [← hH]
  refine lv_aload_n hx hb d_M_end_0 rfl (lv_at hl 0 rfl) ?_
  refine lv_iload_n hx hb d_M_end_1 rfl (lv_at hl 1 rfl) ?_
  refine lv_if_lt hx hb d_M_end_2 (tgt := 13) rfl (fun g1 => ?_) (fun g1 => ?_)
  · have g1 := g1
    refine lv_iconst (v := 1) hx hb d_M_end_13 (by decide) ?_
    refine lv_goto hx hb d_M_end_14 (tgt := 18) rfl ?_
    refine pF (v := .int 1) hx hb hown hE hK hP hD hS 0 rfl rfl layM tyM tokM nmM 0 (by decide) w319 rfl rfl rfl (Nat.le_of_ble_eq_true rfl) d_M_end_18 (fun H locs hP hD hS => ?_)
    have hP : va_P D vwCl (MW dA h ad (MS.s_cod x 1)) H := hP
    have hD : va_D A (MW dA h ad (MS.s_cod x 1)) := hD
    refine lv_aload_n hx hb d_M_end_21 rfl (lv_at hl 0 rfl) ?_
    refine lv_aload_n hx hb d_M_end_22 rfl (lv_at hl 0 rfl) ?_
    refine gF (v := .int 1) hx hb hown hE hK hP 0 rfl rfl layM 0 (by decide) w319 rfl d_M_end_23 ?_
    refine lv_if_ne hx hb d_M_end_26 (tgt := 33) rfl (fun _ => ?_) (fun h9 => absurd h9 (by decide))
    refine lv_aload_n hx hb d_M_end_33 rfl (lv_at hl 0 rfl) ?_
    refine gF (v := .int (nI x.length)) hx hb hown hE hK hP 0 rfl rfl layM 2 (by decide) w320 rfl d_M_end_34 ?_
    refine pF (v := .int (nI x.length)) hx hb hown hE hK hP hD hS 0 rfl rfl layM tyM tokM nmM 2 (by decide) w320 rfl rfl rfl (Nat.le_of_ble_eq_true rfl) d_M_end_37 (fun H locs hP hD hS => ?_)
    have hP : va_P D vwCl (MW dA h ad (MS.s_length (MS.s_cod x 1) x.length)) H := hP
    have hD : va_D A (MW dA h ad (MS.s_length (MS.s_cod x 1) x.length)) := hD
    exact rfV hx hb hr hlk hS () trivial hP hD (Nat.le_of_ble_eq_true rfl) (Nat.le_of_ble_eq_true rfl) d_M_end_40
  · have g1 := g1
    refine lv_iload_n hx hb d_M_end_5 rfl (lv_at hl 1 rfl) ?_
    refine lv_aload_n hx hb d_M_end_6 rfl (lv_at hl 0 rfl) ?_
    refine gF (v := .int (nI x.length)) hx hb hown hE hK hP 0 rfl rfl layM 2 (by decide) w320 rfl d_M_end_7 ?_
    refine lv_icmp_le hx hb d_M_end_10 (tgt := 17) rfl (fun h9 => absurd h9 (Int32.not_le.mpr (h0.resolve_left g1))) (fun _ => ?_)
    refine lv_iconst (v := 1) hx hb d_M_end_13 (by decide) ?_
    refine lv_goto hx hb d_M_end_14 (tgt := 18) rfl ?_
    refine pF (v := .int 1) hx hb hown hE hK hP hD hS 0 rfl rfl layM tyM tokM nmM 0 (by decide) w319 rfl rfl rfl (Nat.le_of_ble_eq_true rfl) d_M_end_18 (fun H locs hP hD hS => ?_)
    have hP : va_P D vwCl (MW dA h ad (MS.s_cod x 1)) H := hP
    have hD : va_D A (MW dA h ad (MS.s_cod x 1)) := hD
    refine lv_aload_n hx hb d_M_end_21 rfl (lv_at hl 0 rfl) ?_
    refine lv_aload_n hx hb d_M_end_22 rfl (lv_at hl 0 rfl) ?_
    refine gF (v := .int 1) hx hb hown hE hK hP 0 rfl rfl layM 0 (by decide) w319 rfl d_M_end_23 ?_
    refine lv_if_ne hx hb d_M_end_26 (tgt := 33) rfl (fun _ => ?_) (fun h9 => absurd h9 (by decide))
    refine lv_aload_n hx hb d_M_end_33 rfl (lv_at hl 0 rfl) ?_
    refine gF (v := .int (nI x.length)) hx hb hown hE hK hP 0 rfl rfl layM 2 (by decide) w320 rfl d_M_end_34 ?_
    refine pF (v := .int (nI x.length)) hx hb hown hE hK hP hD hS 0 rfl rfl layM tyM tokM nmM 2 (by decide) w320 rfl rfl rfl (Nat.le_of_ble_eq_true rfl) d_M_end_37 (fun H locs hP hD hS => ?_)
    have hP : va_P D vwCl (MW dA h ad (MS.s_length (MS.s_cod x 1) x.length)) H := hP
    have hD : va_D A (MW dA h ad (MS.s_length (MS.s_cod x 1) x.length)) := hD
    exact rfV hx hb hr hlk hS () trivial hP hD (Nat.le_of_ble_eq_true rfl) (Nat.le_of_ble_eq_true rfl) d_M_end_40
set_option maxHeartbeats 4000000 in
set_option maxRecDepth 100000 in
theorem k_fault_0 (l : Launch) (D : va_G) (dA : Nat → ClassId) (sz : Nat) (h : Nat) (ad : Nat → Nat) (x : MS) : Met l ⟨"SeriesVaultModel", "fault", "(I)I"⟩ [Cond.code ⟨"SeriesVaultModel", "fault", "(I)I"⟩ prog_14_method_5_code 2 (some FieldType.int)] { frames := 1, cells := 0, slots := 0, locals := 0 } (pC D dA [.ref h, .int 0] (MW dA h ad x) sz) (va_Qi (fun (r9 : Int32) (u9 : Unit) => r9 = x.faultCode) (fun (u9 : Unit) t9 => bW D (va_A (MW dA h ad x) sz) (MW dA h ad (MS.s_cod x 0)) t9) (va_A (MW dA h ad x) sz)) 0 0 (va_A (MW dA h ad x) sz) := by
  refine mkC (y := ⟨"SeriesVaultModel", "fault", "(I)I"⟩) (cc := prog_14_method_5_code) (maxL := 2) (av := [.ref h, .int 0]) (ws := MW dA h ad x) (sz := sz) (Qc := fun A => va_Qi (fun (r9 : Int32) (u9 : Unit) => r9 = x.faultCode) (fun (u9 : Unit) t9 => bW D A (MW dA h ad (MS.s_cod x 0)) t9) A) (by decide) (Nat.le_of_ble_eq_true rfl) ?_
  intro A p e s m below meth c ls hsz hB
  obtain ⟨hx, hb, hr, hml, hown, hin, hlk, hE, hK, hP, hD, hS, hA, hN, hl⟩ := hB
  have hown : s.vm.findClass "SeriesVaultModel" = some m.cls := hown
  have hl : lv_has ls 2 [(0, .ref h), (1, .int 0)] := hl
  obtain ⟨H, hH⟩ : ∃ z, z = s.heap := ⟨_, rfl⟩
  have hP : va_P D vwCl (MW dA h ad x) H := by rw [hH]; exact hP
  have hS : va_S A s.heap H [] := by rw [hH]; exact hS
  rw [← hH]
  refine lv_aload_n hx hb d_M_fault_0 rfl (lv_at hl 0 rfl) ?_
  refine lv_iload_n hx hb d_M_fault_1 rfl (lv_at hl 1 rfl) ?_
  refine lv_if_eq hx hb d_M_fault_2 (tgt := 10) rfl (fun _ => ?_) (fun h9 => absurd (by decide) h9)
  refine lv_iconst (v := 0) hx hb d_M_fault_10 (by decide) ?_
  refine lv_goto hx hb d_M_fault_11 (tgt := 15) rfl ?_
  refine pF (v := .int 0) hx hb hown hE hK hP hD hS 0 rfl rfl layM tyM tokM nmM 0 (by decide) w319 rfl rfl rfl (Nat.le_of_ble_eq_true rfl) d_M_fault_15 (fun H locs hP hD hS => ?_)
  have hP : va_P D vwCl (MW dA h ad (MS.s_cod x 0)) H := hP
  have hD : va_D A (MW dA h ad (MS.s_cod x 0)) := hD
  refine lv_aload_n hx hb d_M_fault_18 rfl (lv_at hl 0 rfl) ?_
  refine gF (v := .int 0) hx hb hown hE hK hP 0 rfl rfl layM 0 (by decide) w319 rfl d_M_fault_19 ?_
  refine lv_if_le hx hb d_M_fault_22 (tgt := 29) rfl (fun _ => ?_) (fun h9 => absurd (by decide) h9)
  refine lv_iload_n hx hb d_M_fault_29 rfl (lv_at hl 1 rfl) ?_
  refine lv_if_ne hx hb d_M_fault_30 (tgt := 40) rfl (fun h9 => absurd (by decide) h9) (fun _ => ?_)
  refine lv_aload_n hx hb d_M_fault_33 rfl (lv_at hl 0 rfl) ?_
  refine gF (v := .int x.faultCode) hx hb hown hE hK hP 0 rfl rfl layM 3 (by decide) w321 rfl d_M_fault_34 ?_
  refine lv_goto hx hb d_M_fault_37 (tgt := 44) rfl ?_
  exact rfI hx hb hr hlk hS () rfl hP hD (Nat.le_of_ble_eq_true rfl) (Nat.le_of_ble_eq_true rfl) d_M_fault_44
set_option maxHeartbeats 4000000 in
set_option maxRecDepth 100000 in
theorem k_fault_1 (l : Launch) (D : va_G) (dA : Nat → ClassId) (sz : Nat) (h : Nat) (ad : Nat → Nat) (x : MS) : Met l ⟨"SeriesVaultModel", "fault", "(I)I"⟩ [Cond.code ⟨"SeriesVaultModel", "fault", "(I)I"⟩ prog_14_method_5_code 2 (some FieldType.int)] { frames := 1, cells := 0, slots := 0, locals := 0 } (pC D dA [.ref h, .int 1] (MW dA h ad x) sz) (va_Qi (fun (r9 : Int32) (u9 : Unit) => r9 = x.faultPlace) (fun (u9 : Unit) t9 => bW D (va_A (MW dA h ad x) sz) (MW dA h ad (MS.s_cod x 0)) t9) (va_A (MW dA h ad x) sz)) 0 0 (va_A (MW dA h ad x) sz) := by
  refine mkC (y := ⟨"SeriesVaultModel", "fault", "(I)I"⟩) (cc := prog_14_method_5_code) (maxL := 2) (av := [.ref h, .int 1]) (ws := MW dA h ad x) (sz := sz) (Qc := fun A => va_Qi (fun (r9 : Int32) (u9 : Unit) => r9 = x.faultPlace) (fun (u9 : Unit) t9 => bW D A (MW dA h ad (MS.s_cod x 0)) t9) A) (by decide) (Nat.le_of_ble_eq_true rfl) ?_
  intro A p e s m below meth c ls hsz hB
  obtain ⟨hx, hb, hr, hml, hown, hin, hlk, hE, hK, hP, hD, hS, hA, hN, hl⟩ := hB
  have hown : s.vm.findClass "SeriesVaultModel" = some m.cls := hown
  have hl : lv_has ls 2 [(0, .ref h), (1, .int 1)] := hl
  obtain ⟨H, hH⟩ : ∃ z, z = s.heap := ⟨_, rfl⟩
  have hP : va_P D vwCl (MW dA h ad x) H := by rw [hH]; exact hP
  have hS : va_S A s.heap H [] := by rw [hH]; exact hS
  rw [← hH]
  refine lv_aload_n hx hb d_M_fault_0 rfl (lv_at hl 0 rfl) ?_
  refine lv_iload_n hx hb d_M_fault_1 rfl (lv_at hl 1 rfl) ?_
  refine lv_if_eq hx hb d_M_fault_2 (tgt := 10) rfl (fun h9 => absurd h9 (by decide)) (fun _ => ?_)
  refine lv_iload_n hx hb d_M_fault_5 rfl (lv_at hl 1 rfl) ?_
  refine lv_iconst (v := 1) hx hb d_M_fault_6 (by decide) ?_
  refine lv_icmp_ne hx hb d_M_fault_7 (tgt := 14) rfl (fun h9 => absurd (by decide) h9) (fun _ => ?_)
  refine lv_iconst (v := 0) hx hb d_M_fault_10 (by decide) ?_
  refine lv_goto hx hb d_M_fault_11 (tgt := 15) rfl ?_
  refine pF (v := .int 0) hx hb hown hE hK hP hD hS 0 rfl rfl layM tyM tokM nmM 0 (by decide) w319 rfl rfl rfl (Nat.le_of_ble_eq_true rfl) d_M_fault_15 (fun H locs hP hD hS => ?_)
  have hP : va_P D vwCl (MW dA h ad (MS.s_cod x 0)) H := hP
  have hD : va_D A (MW dA h ad (MS.s_cod x 0)) := hD
  refine lv_aload_n hx hb d_M_fault_18 rfl (lv_at hl 0 rfl) ?_
  refine gF (v := .int 0) hx hb hown hE hK hP 0 rfl rfl layM 0 (by decide) w319 rfl d_M_fault_19 ?_
  refine lv_if_le hx hb d_M_fault_22 (tgt := 29) rfl (fun _ => ?_) (fun h9 => absurd (by decide) h9)
  refine lv_iload_n hx hb d_M_fault_29 rfl (lv_at hl 1 rfl) ?_
  refine lv_if_ne hx hb d_M_fault_30 (tgt := 40) rfl (fun _ => ?_) (fun h9 => absurd h9 (by decide))
  refine lv_aload_n hx hb d_M_fault_40 rfl (lv_at hl 0 rfl) ?_
  refine gF (v := .int x.faultPlace) hx hb hown hE hK hP 0 rfl rfl layM 4 (by decide) w322 rfl d_M_fault_41 ?_
  exact rfI hx hb hr hlk hS () rfl hP hD (Nat.le_of_ble_eq_true rfl) (Nat.le_of_ble_eq_true rfl) d_M_fault_44
set_option maxHeartbeats 4000000 in
set_option maxRecDepth 100000 in
theorem k_fault_x (l : Launch) (D : va_G) (dA : Nat → ClassId) (sz : Nat) (h : Nat) (ad : Nat → Nat) (x : MS) (n : Int32) (h0 : ¬ n = 0) (h1 : ¬ n = 1) : Met l ⟨"SeriesVaultModel", "fault", "(I)I"⟩ [Cond.code ⟨"SeriesVaultModel", "fault", "(I)I"⟩ prog_14_method_5_code 2 (some FieldType.int)] { frames := 1, cells := 0, slots := 0, locals := 0 } (pC D dA [.ref h, .int n] (MW dA h ad x) sz) (va_Qi (fun (r9 : Int32) (u9 : Unit) => r9 = 0) (fun (u9 : Unit) t9 => bW D (va_A (MW dA h ad x) sz) (MW dA h ad (MS.s_cod x 1)) t9) (va_A (MW dA h ad x) sz)) 0 0 (va_A (MW dA h ad x) sz) := by
  refine mkC (y := ⟨"SeriesVaultModel", "fault", "(I)I"⟩) (cc := prog_14_method_5_code) (maxL := 2) (av := [.ref h, .int n]) (ws := MW dA h ad x) (sz := sz) (Qc := fun A => va_Qi (fun (r9 : Int32) (u9 : Unit) => r9 = 0) (fun (u9 : Unit) t9 => bW D A (MW dA h ad (MS.s_cod x 1)) t9) A) (by decide) (Nat.le_of_ble_eq_true rfl) ?_
  intro A p e s m below meth c ls hsz hB
  obtain ⟨hx, hb, hr, hml, hown, hin, hlk, hE, hK, hP, hD, hS, hA, hN, hl⟩ := hB
  have hown : s.vm.findClass "SeriesVaultModel" = some m.cls := hown
  have hl : lv_has ls 2 [(0, .ref h), (1, .int n)] := hl
  obtain ⟨H, hH⟩ : ∃ z, z = s.heap := ⟨_, rfl⟩
  have hP : va_P D vwCl (MW dA h ad x) H := by rw [hH]; exact hP
  have hS : va_S A s.heap H [] := by rw [hH]; exact hS
  rw [← hH]
  refine lv_aload_n hx hb d_M_fault_0 rfl (lv_at hl 0 rfl) ?_
  refine lv_iload_n hx hb d_M_fault_1 rfl (lv_at hl 1 rfl) ?_
  refine lv_if_eq hx hb d_M_fault_2 (tgt := 10) rfl (fun h9 => absurd h9 h0) (fun _ => ?_)
  refine lv_iload_n hx hb d_M_fault_5 rfl (lv_at hl 1 rfl) ?_
  refine lv_iconst (v := 1) hx hb d_M_fault_6 (by decide) ?_
  refine lv_icmp_ne hx hb d_M_fault_7 (tgt := 14) rfl (fun _ => ?_) (fun h9 => absurd h9 h1)
  refine lv_iconst (v := 1) hx hb d_M_fault_14 (by decide) ?_
  refine pF (v := .int 1) hx hb hown hE hK hP hD hS 0 rfl rfl layM tyM tokM nmM 0 (by decide) w319 rfl rfl rfl (Nat.le_of_ble_eq_true rfl) d_M_fault_15 (fun H locs hP hD hS => ?_)
  have hP : va_P D vwCl (MW dA h ad (MS.s_cod x 1)) H := hP
  have hD : va_D A (MW dA h ad (MS.s_cod x 1)) := hD
  refine lv_aload_n hx hb d_M_fault_18 rfl (lv_at hl 0 rfl) ?_
  refine gF (v := .int 1) hx hb hown hE hK hP 0 rfl rfl layM 0 (by decide) w319 rfl d_M_fault_19 ?_
  refine lv_if_le hx hb d_M_fault_22 (tgt := 29) rfl (fun h9 => absurd h9 (by decide)) (fun _ => ?_)
  refine lv_iconst (v := 0) hx hb d_M_fault_25 (by decide) ?_
  refine lv_goto hx hb d_M_fault_26 (tgt := 44) rfl ?_
  exact rfI hx hb hr hlk hS () rfl hP hD (Nat.le_of_ble_eq_true rfl) (Nat.le_of_ble_eq_true rfl) d_M_fault_44
/-- the disk made new -/
def MS.fmt (x : MS) (n j : Nat) : MS := MS.s_isTable (MS.s_fresh (MS.s_used (MS.s_block (MS.s_kept (MS.s_records (MS.s_parcelCount (MS.s_baseHorizon (MS.s_horizon (MS.s_points (MS.s_catalogBlocks (MS.s_baseSeries (MS.s_seriesCount (MS.s_written (MS.s_cutLeft (MS.s_on (MS.s_journal (MS.s_blocks (MS.s_cod x 0) n) j) true) (-1)) 0) 0) 0) 0) 0) 0) 0) 0) 0) 0) 0) 0) false) false
set_option maxHeartbeats 4000000 in
set_option maxRecDepth 100000 in
theorem k_format (l : Launch) (D : va_G) (dA : Nat → ClassId) (sz : Nat) (h : Nat) (ad : Nat → Nat) (x : MS) (n : Nat) (j : Nat) (h1 : 16 ≤ n) (h2 : n ≤ 256) (h3 : 2 ≤ j) (h4 : j ≤ n - 8) : Met l ⟨"SeriesVaultModel", "format", "(II)V"⟩ [Cond.code ⟨"SeriesVaultModel", "format", "(II)V"⟩ prog_14_method_6_code 3 none] { frames := 1, cells := 0, slots := 0, locals := 0 } (pC D dA [.ref h, .int (nI n), .int (nI j)] (MW dA h ad x) sz) (va_Qv (fun (u9 : MS) => u9 = x.fmt n j) (fun (u9 : MS) t9 => bW D (va_A (MW dA h ad x) sz) (MW dA h ad u9) t9) (va_A (MW dA h ad x) sz)) 0 0 (va_A (MW dA h ad x) sz) := by
  refine mkC (y := ⟨"SeriesVaultModel", "format", "(II)V"⟩) (cc := prog_14_method_6_code) (maxL := 3) (av := [.ref h, .int (nI n), .int (nI j)]) (ws := MW dA h ad x) (sz := sz) (Qc := fun A => va_Qv (fun (u9 : MS) => u9 = x.fmt n j) (fun (u9 : MS) t9 => bW D A (MW dA h ad u9) t9) A) (by decide) (Nat.le_of_ble_eq_true rfl) ?_
  intro A p e s m below meth c ls hsz hB
  obtain ⟨hx, hb, hr, hml, hown, hin, hlk, hE, hK, hP, hD, hS, hA, hN, hl⟩ := hB
  have hown : s.vm.findClass "SeriesVaultModel" = some m.cls := hown
  have hl : lv_has ls 3 [(0, .ref h), (1, .int (nI n)), (2, .int (nI j))] := hl
  obtain ⟨H, hH⟩ : ∃ z, z = s.heap := ⟨_, rfl⟩
  have hP : va_P D vwCl (MW dA h ad x) H := by rw [hH]; exact hP
  have hS : va_S A s.heap H [] := by rw [hH]; exact hS
  rw [← hH]
  refine lv_aload_n hx hb d_M_format_0 rfl (lv_at hl 0 rfl) ?_
  refine lv_iload_n hx hb d_M_format_1 rfl (lv_at hl 1 rfl) ?_
  refine lv_bipush (v := 16) hx hb d_M_format_2 (by decide) ?_
  refine lv_icmp_lt hx hb d_M_format_4 (tgt := 27) rfl (fun h9 => absurd h9 (mt (nI_ltI (a := n) (b := 16) (by omega) (by omega)).mp (Nat.not_lt.mpr h1))) (fun _ => ?_)
  refine lv_iload_n hx hb d_M_format_7 rfl (lv_at hl 1 rfl) ?_
  refine lv_sipush (v := 256) hx hb d_M_format_8 (by decide) ?_
  refine lv_icmp_gt hx hb d_M_format_11 (tgt := 27) rfl (fun h9 => absurd h9 (mt (nI_ltI (a := 256) (b := n) (by omega) (by omega)).mp (Nat.not_lt.mpr h2))) (fun _ => ?_)
  refine lv_iload_n hx hb d_M_format_14 rfl (lv_at hl 2 rfl) ?_
  refine lv_iconst (v := 2) hx hb d_M_format_15 (by decide) ?_
  refine lv_icmp_lt hx hb d_M_format_16 (tgt := 27) rfl (fun h9 => absurd h9 (mt (nI_ltI (a := j) (b := 2) (by omega) (by omega)).mp (Nat.not_lt.mpr h3))) (fun _ => ?_)
  refine lv_iload_n hx hb d_M_format_19 rfl (lv_at hl 2 rfl) ?_
  refine lv_iload_n hx hb d_M_format_20 rfl (lv_at hl 1 rfl) ?_
  refine lv_bipush (v := 8) hx hb d_M_format_21 (by decide) ?_
  refine lv_isub hx hb d_M_format_23 (tpi (y := nI (n - 8)) (pk_sub (a := n) (b := 8) (by omega)) ?_)
  refine lv_icmp_le hx hb d_M_format_24 (tgt := 31) rfl (fun _ => ?_) (fun h9 => absurd ((nI_leI (a := j) (b := n - 8) (by omega) (by omega)).mpr h4) h9)
  refine lv_iconst (v := 0) hx hb d_M_format_31 (by decide) ?_
  refine pF (v := .int 0) hx hb hown hE hK hP hD hS 0 rfl rfl layM tyM tokM nmM 0 (by decide) w319 rfl rfl rfl (Nat.le_of_ble_eq_true rfl) d_M_format_32 (fun H locs hP hD hS => ?_)
  have hP : va_P D vwCl (MW dA h ad (MS.s_cod x 0)) H := hP
  have hD : va_D A (MW dA h ad (MS.s_cod x 0)) := hD
  refine lv_aload_n hx hb d_M_format_35 rfl (lv_at hl 0 rfl) ?_
  refine gF (v := .int 0) hx hb hown hE hK hP 0 rfl rfl layM 0 (by decide) w319 rfl d_M_format_36 ?_
  refine lv_if_le hx hb d_M_format_39 (tgt := 43) rfl (fun _ => ?_) (fun h9 => absurd (by decide) h9)
  refine lv_aload_n hx hb d_M_format_43 rfl (lv_at hl 0 rfl) ?_
  refine lv_iload_n hx hb d_M_format_44 rfl (lv_at hl 1 rfl) ?_
  refine pF (v := .int (nI n)) hx hb hown hE hK hP hD hS 0 rfl rfl layM tyM tokM nmM 5 (by decide) w416 rfl rfl rfl (Nat.le_of_ble_eq_true rfl) d_M_format_45 (fun H locs hP hD hS => ?_)
  have hP : va_P D vwCl (MW dA h ad (MS.s_blocks (MS.s_cod x 0) n)) H := hP
  have hD : va_D A (MW dA h ad (MS.s_blocks (MS.s_cod x 0) n)) := hD
  refine lv_aload_n hx hb d_M_format_48 rfl (lv_at hl 0 rfl) ?_
  refine lv_iload_n hx hb d_M_format_49 rfl (lv_at hl 2 rfl) ?_
  refine pF (v := .int (nI j)) hx hb hown hE hK hP hD hS 0 rfl rfl layM tyM tokM nmM 6 (by decide) w417 rfl rfl rfl (Nat.le_of_ble_eq_true rfl) d_M_format_50 (fun H locs hP hD hS => ?_)
  have hP : va_P D vwCl (MW dA h ad (MS.s_journal (MS.s_blocks (MS.s_cod x 0) n) j)) H := hP
  have hD : va_D A (MW dA h ad (MS.s_journal (MS.s_blocks (MS.s_cod x 0) n) j)) := hD
  refine lv_aload_n hx hb d_M_format_53 rfl (lv_at hl 0 rfl) ?_
  refine lv_iconst (v := 1) hx hb d_M_format_54 (by decide) ?_
  refine pF (v := .int (bI true)) hx hb hown hE hK hP hD hS 0 rfl rfl layM tyM tokM nmM 7 (by decide) w324 rfl (bI_nar true) (bI_fit true) (Nat.le_of_ble_eq_true rfl) d_M_format_55 (fun H locs hP hD hS => ?_)
  have hP : va_P D vwCl (MW dA h ad (MS.s_on (MS.s_journal (MS.s_blocks (MS.s_cod x 0) n) j) true)) H := hP
  have hD : va_D A (MW dA h ad (MS.s_on (MS.s_journal (MS.s_blocks (MS.s_cod x 0) n) j) true)) := hD
  refine lv_aload_n hx hb d_M_format_58 rfl (lv_at hl 0 rfl) ?_
  refine lv_iconst (v := (-1)) hx hb d_M_format_59 (by decide) ?_
  refine pF (v := .int (-1)) hx hb hown hE hK hP hD hS 0 rfl rfl layM tyM tokM nmM 8 (by decide) w325 rfl rfl rfl (Nat.le_of_ble_eq_true rfl) d_M_format_60 (fun H locs hP hD hS => ?_)
  have hP : va_P D vwCl (MW dA h ad (MS.s_cutLeft (MS.s_on (MS.s_journal (MS.s_blocks (MS.s_cod x 0) n) j) true) (-1))) H := hP
  have hD : va_D A (MW dA h ad (MS.s_cutLeft (MS.s_on (MS.s_journal (MS.s_blocks (MS.s_cod x 0) n) j) true) (-1))) := hD
  refine lv_aload_n hx hb d_M_format_63 rfl (lv_at hl 0 rfl) ?_
  refine lv_iconst (v := 0) hx hb d_M_format_64 (by decide) ?_
  refine pF (v := .int (nI 0)) hx hb hown hE hK hP hD hS 0 rfl rfl layM tyM tokM nmM 9 (by decide) w323 rfl rfl rfl (Nat.le_of_ble_eq_true rfl) d_M_format_65 (fun H locs hP hD hS => ?_)
  have hP : va_P D vwCl (MW dA h ad (MS.s_written (MS.s_cutLeft (MS.s_on (MS.s_journal (MS.s_blocks (MS.s_cod x 0) n) j) true) (-1)) 0)) H := hP
  have hD : va_D A (MW dA h ad (MS.s_written (MS.s_cutLeft (MS.s_on (MS.s_journal (MS.s_blocks (MS.s_cod x 0) n) j) true) (-1)) 0)) := hD
  refine lv_aload_n hx hb d_M_format_68 rfl (lv_at hl 0 rfl) ?_
  refine lv_iconst (v := 0) hx hb d_M_format_69 (by decide) ?_
  refine pF (v := .int (nI 0)) hx hb hown hE hK hP hD hS 0 rfl rfl layM tyM tokM nmM 12 (by decide) w332 rfl rfl rfl (Nat.le_of_ble_eq_true rfl) d_M_format_70 (fun H locs hP hD hS => ?_)
  have hP : va_P D vwCl (MW dA h ad (MS.s_seriesCount (MS.s_written (MS.s_cutLeft (MS.s_on (MS.s_journal (MS.s_blocks (MS.s_cod x 0) n) j) true) (-1)) 0) 0)) H := hP
  have hD : va_D A (MW dA h ad (MS.s_seriesCount (MS.s_written (MS.s_cutLeft (MS.s_on (MS.s_journal (MS.s_blocks (MS.s_cod x 0) n) j) true) (-1)) 0) 0)) := hD
  refine lv_aload_n hx hb d_M_format_73 rfl (lv_at hl 0 rfl) ?_
  refine lv_iconst (v := 0) hx hb d_M_format_74 (by decide) ?_
  refine pF (v := .int (nI 0)) hx hb hown hE hK hP hD hS 0 rfl rfl layM tyM tokM nmM 14 (by decide) w418 rfl rfl rfl (Nat.le_of_ble_eq_true rfl) d_M_format_75 (fun H locs hP hD hS => ?_)
  have hP : va_P D vwCl (MW dA h ad (MS.s_baseSeries (MS.s_seriesCount (MS.s_written (MS.s_cutLeft (MS.s_on (MS.s_journal (MS.s_blocks (MS.s_cod x 0) n) j) true) (-1)) 0) 0) 0)) H := hP
  have hD : va_D A (MW dA h ad (MS.s_baseSeries (MS.s_seriesCount (MS.s_written (MS.s_cutLeft (MS.s_on (MS.s_journal (MS.s_blocks (MS.s_cod x 0) n) j) true) (-1)) 0) 0) 0)) := hD
  refine lv_aload_n hx hb d_M_format_78 rfl (lv_at hl 0 rfl) ?_
  refine lv_iconst (v := 0) hx hb d_M_format_79 (by decide) ?_
  refine pF (v := .int (nI 0)) hx hb hown hE hK hP hD hS 0 rfl rfl layM tyM tokM nmM 16 (by decide) w419 rfl rfl rfl (Nat.le_of_ble_eq_true rfl) d_M_format_80 (fun H locs hP hD hS => ?_)
  have hP : va_P D vwCl (MW dA h ad (MS.s_catalogBlocks (MS.s_baseSeries (MS.s_seriesCount (MS.s_written (MS.s_cutLeft (MS.s_on (MS.s_journal (MS.s_blocks (MS.s_cod x 0) n) j) true) (-1)) 0) 0) 0) 0)) H := hP
  have hD : va_D A (MW dA h ad (MS.s_catalogBlocks (MS.s_baseSeries (MS.s_seriesCount (MS.s_written (MS.s_cutLeft (MS.s_on (MS.s_journal (MS.s_blocks (MS.s_cod x 0) n) j) true) (-1)) 0) 0) 0) 0)) := hD
  refine lv_aload_n hx hb d_M_format_83 rfl (lv_at hl 0 rfl) ?_
  refine lv_iconst (v := 0) hx hb d_M_format_84 (by decide) ?_
  refine pF (v := .int (nI 0)) hx hb hown hE hK hP hD hS 0 rfl rfl layM tyM tokM nmM 23 (by decide) w420 rfl rfl rfl (Nat.le_of_ble_eq_true rfl) d_M_format_85 (fun H locs hP hD hS => ?_)
  have hP : va_P D vwCl (MW dA h ad (MS.s_points (MS.s_catalogBlocks (MS.s_baseSeries (MS.s_seriesCount (MS.s_written (MS.s_cutLeft (MS.s_on (MS.s_journal (MS.s_blocks (MS.s_cod x 0) n) j) true) (-1)) 0) 0) 0) 0) 0)) H := hP
  have hD : va_D A (MW dA h ad (MS.s_points (MS.s_catalogBlocks (MS.s_baseSeries (MS.s_seriesCount (MS.s_written (MS.s_cutLeft (MS.s_on (MS.s_journal (MS.s_blocks (MS.s_cod x 0) n) j) true) (-1)) 0) 0) 0) 0) 0)) := hD
  refine lv_aload_n hx hb d_M_format_88 rfl (lv_at hl 0 rfl) ?_
  refine lv_lconst (v := 0) hx hb d_M_format_89 (by decide) ?_
  refine pF (v := .long 0) hx hb hown hE hK hP hD hS 0 rfl rfl layM tyM tokM nmM 24 (by decide) w421 rfl rfl rfl (Nat.le_of_ble_eq_true rfl) d_M_format_90 (fun H locs hP hD hS => ?_)
  have hP : va_P D vwCl (MW dA h ad (MS.s_horizon (MS.s_points (MS.s_catalogBlocks (MS.s_baseSeries (MS.s_seriesCount (MS.s_written (MS.s_cutLeft (MS.s_on (MS.s_journal (MS.s_blocks (MS.s_cod x 0) n) j) true) (-1)) 0) 0) 0) 0) 0) 0)) H := hP
  have hD : va_D A (MW dA h ad (MS.s_horizon (MS.s_points (MS.s_catalogBlocks (MS.s_baseSeries (MS.s_seriesCount (MS.s_written (MS.s_cutLeft (MS.s_on (MS.s_journal (MS.s_blocks (MS.s_cod x 0) n) j) true) (-1)) 0) 0) 0) 0) 0) 0)) := hD
  refine lv_aload_n hx hb d_M_format_93 rfl (lv_at hl 0 rfl) ?_
  refine lv_lconst (v := 0) hx hb d_M_format_94 (by decide) ?_
  refine pF (v := .long 0) hx hb hown hE hK hP hD hS 0 rfl rfl layM tyM tokM nmM 25 (by decide) w422 rfl rfl rfl (Nat.le_of_ble_eq_true rfl) d_M_format_95 (fun H locs hP hD hS => ?_)
  have hP : va_P D vwCl (MW dA h ad (MS.s_baseHorizon (MS.s_horizon (MS.s_points (MS.s_catalogBlocks (MS.s_baseSeries (MS.s_seriesCount (MS.s_written (MS.s_cutLeft (MS.s_on (MS.s_journal (MS.s_blocks (MS.s_cod x 0) n) j) true) (-1)) 0) 0) 0) 0) 0) 0) 0)) H := hP
  have hD : va_D A (MW dA h ad (MS.s_baseHorizon (MS.s_horizon (MS.s_points (MS.s_catalogBlocks (MS.s_baseSeries (MS.s_seriesCount (MS.s_written (MS.s_cutLeft (MS.s_on (MS.s_journal (MS.s_blocks (MS.s_cod x 0) n) j) true) (-1)) 0) 0) 0) 0) 0) 0) 0)) := hD
  refine lv_aload_n hx hb d_M_format_98 rfl (lv_at hl 0 rfl) ?_
  refine lv_iconst (v := 0) hx hb d_M_format_99 (by decide) ?_
  refine pF (v := .int (nI 0)) hx hb hown hE hK hP hD hS 0 rfl rfl layM tyM tokM nmM 28 (by decide) w344 rfl rfl rfl (Nat.le_of_ble_eq_true rfl) d_M_format_100 (fun H locs hP hD hS => ?_)
  have hP : va_P D vwCl (MW dA h ad (MS.s_parcelCount (MS.s_baseHorizon (MS.s_horizon (MS.s_points (MS.s_catalogBlocks (MS.s_baseSeries (MS.s_seriesCount (MS.s_written (MS.s_cutLeft (MS.s_on (MS.s_journal (MS.s_blocks (MS.s_cod x 0) n) j) true) (-1)) 0) 0) 0) 0) 0) 0) 0) 0)) H := hP
  have hD : va_D A (MW dA h ad (MS.s_parcelCount (MS.s_baseHorizon (MS.s_horizon (MS.s_points (MS.s_catalogBlocks (MS.s_baseSeries (MS.s_seriesCount (MS.s_written (MS.s_cutLeft (MS.s_on (MS.s_journal (MS.s_blocks (MS.s_cod x 0) n) j) true) (-1)) 0) 0) 0) 0) 0) 0) 0) 0)) := hD
  refine lv_aload_n hx hb d_M_format_103 rfl (lv_at hl 0 rfl) ?_
  refine lv_iconst (v := 0) hx hb d_M_format_104 (by decide) ?_
  refine pF (v := .int (nI 0)) hx hb hown hE hK hP hD hS 0 rfl rfl layM tyM tokM nmM 37 (by decide) w338 rfl rfl rfl (Nat.le_of_ble_eq_true rfl) d_M_format_105 (fun H locs hP hD hS => ?_)
  have hP : va_P D vwCl (MW dA h ad (MS.s_records (MS.s_parcelCount (MS.s_baseHorizon (MS.s_horizon (MS.s_points (MS.s_catalogBlocks (MS.s_baseSeries (MS.s_seriesCount (MS.s_written (MS.s_cutLeft (MS.s_on (MS.s_journal (MS.s_blocks (MS.s_cod x 0) n) j) true) (-1)) 0) 0) 0) 0) 0) 0) 0) 0) 0)) H := hP
  have hD : va_D A (MW dA h ad (MS.s_records (MS.s_parcelCount (MS.s_baseHorizon (MS.s_horizon (MS.s_points (MS.s_catalogBlocks (MS.s_baseSeries (MS.s_seriesCount (MS.s_written (MS.s_cutLeft (MS.s_on (MS.s_journal (MS.s_blocks (MS.s_cod x 0) n) j) true) (-1)) 0) 0) 0) 0) 0) 0) 0) 0) 0)) := hD
  refine lv_aload_n hx hb d_M_format_108 rfl (lv_at hl 0 rfl) ?_
  refine lv_iconst (v := 0) hx hb d_M_format_109 (by decide) ?_
  refine pF (v := .int (nI 0)) hx hb hown hE hK hP hD hS 0 rfl rfl layM tyM tokM nmM 38 (by decide) w339 rfl rfl rfl (Nat.le_of_ble_eq_true rfl) d_M_format_110 (fun H locs hP hD hS => ?_)
  have hP : va_P D vwCl (MW dA h ad (MS.s_kept (MS.s_records (MS.s_parcelCount (MS.s_baseHorizon (MS.s_horizon (MS.s_points (MS.s_catalogBlocks (MS.s_baseSeries (MS.s_seriesCount (MS.s_written (MS.s_cutLeft (MS.s_on (MS.s_journal (MS.s_blocks (MS.s_cod x 0) n) j) true) (-1)) 0) 0) 0) 0) 0) 0) 0) 0) 0) 0)) H := hP
  have hD : va_D A (MW dA h ad (MS.s_kept (MS.s_records (MS.s_parcelCount (MS.s_baseHorizon (MS.s_horizon (MS.s_points (MS.s_catalogBlocks (MS.s_baseSeries (MS.s_seriesCount (MS.s_written (MS.s_cutLeft (MS.s_on (MS.s_journal (MS.s_blocks (MS.s_cod x 0) n) j) true) (-1)) 0) 0) 0) 0) 0) 0) 0) 0) 0) 0)) := hD
  refine lv_aload_n hx hb d_M_format_113 rfl (lv_at hl 0 rfl) ?_
  refine lv_iconst (v := 0) hx hb d_M_format_114 (by decide) ?_
  refine pF (v := .int (nI 0)) hx hb hown hE hK hP hD hS 0 rfl rfl layM tyM tokM nmM 39 (by decide) w423 rfl rfl rfl (Nat.le_of_ble_eq_true rfl) d_M_format_115 (fun H locs hP hD hS => ?_)
  have hP : va_P D vwCl (MW dA h ad (MS.s_block (MS.s_kept (MS.s_records (MS.s_parcelCount (MS.s_baseHorizon (MS.s_horizon (MS.s_points (MS.s_catalogBlocks (MS.s_baseSeries (MS.s_seriesCount (MS.s_written (MS.s_cutLeft (MS.s_on (MS.s_journal (MS.s_blocks (MS.s_cod x 0) n) j) true) (-1)) 0) 0) 0) 0) 0) 0) 0) 0) 0) 0) 0)) H := hP
  have hD : va_D A (MW dA h ad (MS.s_block (MS.s_kept (MS.s_records (MS.s_parcelCount (MS.s_baseHorizon (MS.s_horizon (MS.s_points (MS.s_catalogBlocks (MS.s_baseSeries (MS.s_seriesCount (MS.s_written (MS.s_cutLeft (MS.s_on (MS.s_journal (MS.s_blocks (MS.s_cod x 0) n) j) true) (-1)) 0) 0) 0) 0) 0) 0) 0) 0) 0) 0) 0)) := hD
  refine lv_aload_n hx hb d_M_format_118 rfl (lv_at hl 0 rfl) ?_
  refine lv_iconst (v := 0) hx hb d_M_format_119 (by decide) ?_
  refine pF (v := .int (nI 0)) hx hb hown hE hK hP hD hS 0 rfl rfl layM tyM tokM nmM 40 (by decide) w424 rfl rfl rfl (Nat.le_of_ble_eq_true rfl) d_M_format_120 (fun H locs hP hD hS => ?_)
  have hP : va_P D vwCl (MW dA h ad (MS.s_used (MS.s_block (MS.s_kept (MS.s_records (MS.s_parcelCount (MS.s_baseHorizon (MS.s_horizon (MS.s_points (MS.s_catalogBlocks (MS.s_baseSeries (MS.s_seriesCount (MS.s_written (MS.s_cutLeft (MS.s_on (MS.s_journal (MS.s_blocks (MS.s_cod x 0) n) j) true) (-1)) 0) 0) 0) 0) 0) 0) 0) 0) 0) 0) 0) 0)) H := hP
  have hD : va_D A (MW dA h ad (MS.s_used (MS.s_block (MS.s_kept (MS.s_records (MS.s_parcelCount (MS.s_baseHorizon (MS.s_horizon (MS.s_points (MS.s_catalogBlocks (MS.s_baseSeries (MS.s_seriesCount (MS.s_written (MS.s_cutLeft (MS.s_on (MS.s_journal (MS.s_blocks (MS.s_cod x 0) n) j) true) (-1)) 0) 0) 0) 0) 0) 0) 0) 0) 0) 0) 0) 0)) := hD
  refine lv_aload_n hx hb d_M_format_123 rfl (lv_at hl 0 rfl) ?_
  refine lv_iconst (v := 0) hx hb d_M_format_124 (by decide) ?_
  refine pF (v := .int (bI false)) hx hb hown hE hK hP hD hS 0 rfl rfl layM tyM tokM nmM 41 (by decide) w337 rfl (bI_nar false) (bI_fit false) (Nat.le_of_ble_eq_true rfl) d_M_format_125 (fun H locs hP hD hS => ?_)
  have hP : va_P D vwCl (MW dA h ad (MS.s_fresh (MS.s_used (MS.s_block (MS.s_kept (MS.s_records (MS.s_parcelCount (MS.s_baseHorizon (MS.s_horizon (MS.s_points (MS.s_catalogBlocks (MS.s_baseSeries (MS.s_seriesCount (MS.s_written (MS.s_cutLeft (MS.s_on (MS.s_journal (MS.s_blocks (MS.s_cod x 0) n) j) true) (-1)) 0) 0) 0) 0) 0) 0) 0) 0) 0) 0) 0) 0) false)) H := hP
  have hD : va_D A (MW dA h ad (MS.s_fresh (MS.s_used (MS.s_block (MS.s_kept (MS.s_records (MS.s_parcelCount (MS.s_baseHorizon (MS.s_horizon (MS.s_points (MS.s_catalogBlocks (MS.s_baseSeries (MS.s_seriesCount (MS.s_written (MS.s_cutLeft (MS.s_on (MS.s_journal (MS.s_blocks (MS.s_cod x 0) n) j) true) (-1)) 0) 0) 0) 0) 0) 0) 0) 0) 0) 0) 0) 0) false)) := hD
  refine lv_aload_n hx hb d_M_format_128 rfl (lv_at hl 0 rfl) ?_
  refine lv_iconst (v := 0) hx hb d_M_format_129 (by decide) ?_
  refine pF (v := .int (bI false)) hx hb hown hE hK hP hD hS 0 rfl rfl layM tyM tokM nmM 71 (by decide) w326 rfl (bI_nar false) (bI_fit false) (Nat.le_of_ble_eq_true rfl) d_M_format_130 (fun H locs hP hD hS => ?_)
  have hP : va_P D vwCl (MW dA h ad (MS.s_isTable (MS.s_fresh (MS.s_used (MS.s_block (MS.s_kept (MS.s_records (MS.s_parcelCount (MS.s_baseHorizon (MS.s_horizon (MS.s_points (MS.s_catalogBlocks (MS.s_baseSeries (MS.s_seriesCount (MS.s_written (MS.s_cutLeft (MS.s_on (MS.s_journal (MS.s_blocks (MS.s_cod x 0) n) j) true) (-1)) 0) 0) 0) 0) 0) 0) 0) 0) 0) 0) 0) 0) false) false)) H := hP
  have hD : va_D A (MW dA h ad (MS.s_isTable (MS.s_fresh (MS.s_used (MS.s_block (MS.s_kept (MS.s_records (MS.s_parcelCount (MS.s_baseHorizon (MS.s_horizon (MS.s_points (MS.s_catalogBlocks (MS.s_baseSeries (MS.s_seriesCount (MS.s_written (MS.s_cutLeft (MS.s_on (MS.s_journal (MS.s_blocks (MS.s_cod x 0) n) j) true) (-1)) 0) 0) 0) 0) 0) 0) 0) 0) 0) 0) 0) 0) false) false)) := hD
  exact rfV hx hb hr hlk hS (MS.s_isTable (MS.s_fresh (MS.s_used (MS.s_block (MS.s_kept (MS.s_records (MS.s_parcelCount (MS.s_baseHorizon (MS.s_horizon (MS.s_points (MS.s_catalogBlocks (MS.s_baseSeries (MS.s_seriesCount (MS.s_written (MS.s_cutLeft (MS.s_on (MS.s_journal (MS.s_blocks (MS.s_cod x 0) n) j) true) (-1)) 0) 0) 0) 0) 0) 0) 0) 0) 0) 0) 0) 0) false) false) rfl hP hD (Nat.le_of_ble_eq_true rfl) (Nat.le_of_ble_eq_true rfl) d_M_format_133
set_option maxHeartbeats 4000000 in
set_option maxRecDepth 100000 in
theorem k_format_x (l : Launch) (D : va_G) (dA : Nat → ClassId) (sz : Nat) (h : Nat) (ad : Nat → Nat) (x : MS) (n : Int32) (j : Int32) (h0 : n < 16 ∨ 256 < n ∨ j < 2 ∨ n - 8 < j) : Met l ⟨"SeriesVaultModel", "format", "(II)V"⟩ [Cond.code ⟨"SeriesVaultModel", "format", "(II)V"⟩ prog_14_method_6_code 3 none] { frames := 1, cells := 0, slots := 0, locals := 0 } (pC D dA [.ref h, .int n, .int j] (MW dA h ad x) sz) (va_Qv (fun (u9 : Unit) => True) (fun (u9 : Unit) t9 => bW D (va_A (MW dA h ad x) sz) (MW dA h ad (MS.s_cod x 1)) t9) (va_A (MW dA h ad x) sz)) 0 0 (va_A (MW dA h ad x) sz) := by
  refine mkC (y := ⟨"SeriesVaultModel", "format", "(II)V"⟩) (cc := prog_14_method_6_code) (maxL := 3) (av := [.ref h, .int n, .int j]) (ws := MW dA h ad x) (sz := sz) (Qc := fun A => va_Qv (fun (u9 : Unit) => True) (fun (u9 : Unit) t9 => bW D A (MW dA h ad (MS.s_cod x 1)) t9) A) (by decide) (Nat.le_of_ble_eq_true rfl) ?_
  intro A p e s m below meth c ls hsz hB
  obtain ⟨hx, hb, hr, hml, hown, hin, hlk, hE, hK, hP, hD, hS, hA, hN, hl⟩ := hB
  have hown : s.vm.findClass "SeriesVaultModel" = some m.cls := hown
  have hl : lv_has ls 3 [(0, .ref h), (1, .int n), (2, .int j)] := hl
  obtain ⟨H, hH⟩ : ∃ z, z = s.heap := ⟨_, rfl⟩
  have hP : va_P D vwCl (MW dA h ad x) H := by rw [hH]; exact hP
  have hS : va_S A s.heap H [] := by rw [hH]; exact hS
  rw [← hH]
  refine lv_aload_n hx hb d_M_format_0 rfl (lv_at hl 0 rfl) ?_
  refine lv_iload_n hx hb d_M_format_1 rfl (lv_at hl 1 rfl) ?_
  refine lv_bipush (v := 16) hx hb d_M_format_2 (by decide) ?_
  refine lv_icmp_lt hx hb d_M_format_4 (tgt := 27) rfl (fun g1 => ?_) (fun g1 => ?_)
  · have g1 := g1
    refine lv_iconst (v := 1) hx hb d_M_format_27 (by decide) ?_
    refine lv_goto hx hb d_M_format_28 (tgt := 32) rfl ?_
    refine pF (v := .int 1) hx hb hown hE hK hP hD hS 0 rfl rfl layM tyM tokM nmM 0 (by decide) w319 rfl rfl rfl (Nat.le_of_ble_eq_true rfl) d_M_format_32 (fun H locs hP hD hS => ?_)
    have hP : va_P D vwCl (MW dA h ad (MS.s_cod x 1)) H := hP
    have hD : va_D A (MW dA h ad (MS.s_cod x 1)) := hD
    refine lv_aload_n hx hb d_M_format_35 rfl (lv_at hl 0 rfl) ?_
    refine gF (v := .int 1) hx hb hown hE hK hP 0 rfl rfl layM 0 (by decide) w319 rfl d_M_format_36 ?_
    refine lv_if_le hx hb d_M_format_39 (tgt := 43) rfl (fun h9 => absurd h9 (by decide)) (fun _ => ?_)
    exact rfV hx hb hr hlk hS () trivial hP hD (Nat.le_of_ble_eq_true rfl) (Nat.le_of_ble_eq_true rfl) d_M_format_42
  · have g1 := g1
    refine lv_iload_n hx hb d_M_format_7 rfl (lv_at hl 1 rfl) ?_
    refine lv_sipush (v := 256) hx hb d_M_format_8 (by decide) ?_
    refine lv_icmp_gt hx hb d_M_format_11 (tgt := 27) rfl (fun g2 => ?_) (fun g2 => ?_)
    · have g2 := g2
      refine lv_iconst (v := 1) hx hb d_M_format_27 (by decide) ?_
      refine lv_goto hx hb d_M_format_28 (tgt := 32) rfl ?_
      refine pF (v := .int 1) hx hb hown hE hK hP hD hS 0 rfl rfl layM tyM tokM nmM 0 (by decide) w319 rfl rfl rfl (Nat.le_of_ble_eq_true rfl) d_M_format_32 (fun H locs hP hD hS => ?_)
      have hP : va_P D vwCl (MW dA h ad (MS.s_cod x 1)) H := hP
      have hD : va_D A (MW dA h ad (MS.s_cod x 1)) := hD
      refine lv_aload_n hx hb d_M_format_35 rfl (lv_at hl 0 rfl) ?_
      refine gF (v := .int 1) hx hb hown hE hK hP 0 rfl rfl layM 0 (by decide) w319 rfl d_M_format_36 ?_
      refine lv_if_le hx hb d_M_format_39 (tgt := 43) rfl (fun h9 => absurd h9 (by decide)) (fun _ => ?_)
      exact rfV hx hb hr hlk hS () trivial hP hD (Nat.le_of_ble_eq_true rfl) (Nat.le_of_ble_eq_true rfl) d_M_format_42
    · have g2 := g2
      refine lv_iload_n hx hb d_M_format_14 rfl (lv_at hl 2 rfl) ?_
      refine lv_iconst (v := 2) hx hb d_M_format_15 (by decide) ?_
      refine lv_icmp_lt hx hb d_M_format_16 (tgt := 27) rfl (fun g3 => ?_) (fun g3 => ?_)
      · have g3 := g3
        refine lv_iconst (v := 1) hx hb d_M_format_27 (by decide) ?_
        refine lv_goto hx hb d_M_format_28 (tgt := 32) rfl ?_
        refine pF (v := .int 1) hx hb hown hE hK hP hD hS 0 rfl rfl layM tyM tokM nmM 0 (by decide) w319 rfl rfl rfl (Nat.le_of_ble_eq_true rfl) d_M_format_32 (fun H locs hP hD hS => ?_)
        have hP : va_P D vwCl (MW dA h ad (MS.s_cod x 1)) H := hP
        have hD : va_D A (MW dA h ad (MS.s_cod x 1)) := hD
        refine lv_aload_n hx hb d_M_format_35 rfl (lv_at hl 0 rfl) ?_
        refine gF (v := .int 1) hx hb hown hE hK hP 0 rfl rfl layM 0 (by decide) w319 rfl d_M_format_36 ?_
        refine lv_if_le hx hb d_M_format_39 (tgt := 43) rfl (fun h9 => absurd h9 (by decide)) (fun _ => ?_)
        exact rfV hx hb hr hlk hS () trivial hP hD (Nat.le_of_ble_eq_true rfl) (Nat.le_of_ble_eq_true rfl) d_M_format_42
      · have g3 := g3
        refine lv_iload_n hx hb d_M_format_19 rfl (lv_at hl 2 rfl) ?_
        refine lv_iload_n hx hb d_M_format_20 rfl (lv_at hl 1 rfl) ?_
        refine lv_bipush (v := 8) hx hb d_M_format_21 (by decide) ?_
        refine lv_isub hx hb d_M_format_23 ?_
        refine lv_icmp_le hx hb d_M_format_24 (tgt := 31) rfl (fun h9 => absurd h9 (Int32.not_le.mpr (((h0.resolve_left g1).resolve_left g2).resolve_left g3))) (fun _ => ?_)
        refine lv_iconst (v := 1) hx hb d_M_format_27 (by decide) ?_
        refine lv_goto hx hb d_M_format_28 (tgt := 32) rfl ?_
        refine pF (v := .int 1) hx hb hown hE hK hP hD hS 0 rfl rfl layM tyM tokM nmM 0 (by decide) w319 rfl rfl rfl (Nat.le_of_ble_eq_true rfl) d_M_format_32 (fun H locs hP hD hS => ?_)
        have hP : va_P D vwCl (MW dA h ad (MS.s_cod x 1)) H := hP
        have hD : va_D A (MW dA h ad (MS.s_cod x 1)) := hD
        refine lv_aload_n hx hb d_M_format_35 rfl (lv_at hl 0 rfl) ?_
        refine gF (v := .int 1) hx hb hown hE hK hP 0 rfl rfl layM 0 (by decide) w319 rfl d_M_format_36 ?_
        refine lv_if_le hx hb d_M_format_39 (tgt := 43) rfl (fun h9 => absurd h9 (by decide)) (fun _ => ?_)
        exact rfV hx hb hr hlk hS () trivial hP hD (Nat.le_of_ble_eq_true rfl) (Nat.le_of_ble_eq_true rfl) d_M_format_42
def cutF (z : Int32) : Int32 := if z ≤ 0 then z else z - 1
theorem d_M_write_58a_7 : decode prog_14_method_7_code 7 = .ok (.aload_n 0, 1) := by decide +kernel
theorem d_M_write_58a_8 : decode prog_14_method_7_code 8 = .ok (.iconst 0, 1) := by decide +kernel
theorem d_M_write_58a_9 : decode prog_14_method_7_code 9 = .ok (.putfield 21, 3) := by decide +kernel
theorem d_M_write_58a_12 : decode prog_14_method_7_code 12 = .ok (.aload_n 0, 1) := by decide +kernel
theorem d_M_write_58a_13 : decode prog_14_method_7_code 13 = .ok (.iconst (-1), 1) := by decide +kernel
theorem d_M_write_58a_14 : decode prog_14_method_7_code 14 = .ok (.putfield 25, 3) := by decide +kernel
theorem d_M_write_58a_17 : decode prog_14_method_7_code 17 = .ok (.iconst 0, 1) := by decide +kernel
theorem d_M_write_58a_18 : decode prog_14_method_7_code 18 = .ok (.ireturn, 1) := by decide +kernel
set_option maxHeartbeats 4000000 in
set_option maxRecDepth 100000 in
theorem k_write_x (l : Launch) (D : va_G) (dA : Nat → ClassId) (sz : Nat) (h : Nat) (ad : Nat → Nat) (x : MS) (hc : x.cutLeft = 0) : Met l ⟨"SeriesVaultModel", "write", "()Z"⟩ [Cond.code ⟨"SeriesVaultModel", "write", "()Z"⟩ prog_14_method_7_code 1 (some FieldType.boolean)] { frames := 1, cells := 0, slots := 0, locals := 0 } (pC D dA [.ref h] (MW dA h ad x) sz) (va_Qi (fun (r9 : Int32) (u9 : Unit) => r9 = bI false) (fun (u9 : Unit) t9 => bW D (va_A (MW dA h ad x) sz) (MW dA h ad (MS.s_cutLeft (MS.s_on x false) (-1))) t9) (va_A (MW dA h ad x) sz)) 0 0 (va_A (MW dA h ad x) sz) := by
  refine mkC (y := ⟨"SeriesVaultModel", "write", "()Z"⟩) (cc := prog_14_method_7_code) (maxL := 1) (av := [.ref h]) (ws := MW dA h ad x) (sz := sz) (Qc := fun A => va_Qi (fun (r9 : Int32) (u9 : Unit) => r9 = bI false) (fun (u9 : Unit) t9 => bW D A (MW dA h ad (MS.s_cutLeft (MS.s_on x false) (-1))) t9) A) (by decide) (Nat.le_of_ble_eq_true rfl) ?_
  intro A p e s m below meth c ls hsz hB
  obtain ⟨hx, hb, hr, hml, hown, hin, hlk, hE, hK, hP, hD, hS, hA, hN, hl⟩ := hB
  have hown : s.vm.findClass "SeriesVaultModel" = some m.cls := hown
  have hl : lv_has ls 1 [(0, .ref h)] := hl
  obtain ⟨H, hH⟩ : ∃ z, z = s.heap := ⟨_, rfl⟩
  have hP : va_P D vwCl (MW dA h ad x) H := by rw [hH]; exact hP
  have hS : va_S A s.heap H [] := by rw [hH]; exact hS
  rw [← hH]
  refine lv_aload_n hx hb d_M_write_58a_0 rfl (lv_at hl 0 rfl) ?_
  refine gF (v := .int x.cutLeft) hx hb hown hE hK hP 0 rfl rfl layM 8 (by decide) w325 rfl d_M_write_58a_1 ?_
  refine lv_if_ne hx hb d_M_write_58a_4 (tgt := 19) rfl (fun h9 => absurd hc h9) (fun _ => ?_)
  refine lv_aload_n hx hb d_M_write_58a_7 rfl (lv_at hl 0 rfl) ?_
  refine lv_iconst (v := 0) hx hb d_M_write_58a_8 (by decide) ?_
  refine pF (v := .int (bI false)) hx hb hown hE hK hP hD hS 0 rfl rfl layM tyM tokM nmM 7 (by decide) w324 rfl (bI_nar false) (bI_fit false) (Nat.le_of_ble_eq_true rfl) d_M_write_58a_9 (fun H locs hP hD hS => ?_)
  have hP : va_P D vwCl (MW dA h ad (MS.s_on x false)) H := hP
  have hD : va_D A (MW dA h ad (MS.s_on x false)) := hD
  refine lv_aload_n hx hb d_M_write_58a_12 rfl (lv_at hl 0 rfl) ?_
  refine lv_iconst (v := (-1)) hx hb d_M_write_58a_13 (by decide) ?_
  refine pF (v := .int (-1)) hx hb hown hE hK hP hD hS 0 rfl rfl layM tyM tokM nmM 8 (by decide) w325 rfl rfl rfl (Nat.le_of_ble_eq_true rfl) d_M_write_58a_14 (fun H locs hP hD hS => ?_)
  have hP : va_P D vwCl (MW dA h ad (MS.s_cutLeft (MS.s_on x false) (-1))) H := hP
  have hD : va_D A (MW dA h ad (MS.s_cutLeft (MS.s_on x false) (-1))) := hD
  refine lv_iconst (v := 0) hx hb d_M_write_58a_17 (by decide) ?_
  exact rfZ hx hb hr (bI_nar false) hlk hS () rfl hP hD (Nat.le_of_ble_eq_true rfl) (Nat.le_of_ble_eq_true rfl) d_M_write_58a_18
theorem d_M_write_58a_27 : decode prog_14_method_7_code 27 = .ok (.aload_n 0, 1) := by decide +kernel
theorem d_M_write_58a_28 : decode prog_14_method_7_code 28 = .ok (.getfield 25, 3) := by decide +kernel
theorem d_M_write_58a_31 : decode prog_14_method_7_code 31 = .ok (.iconst 1, 1) := by decide +kernel
theorem d_M_write_58a_32 : decode prog_14_method_7_code 32 = .ok (.isub, 1) := by decide +kernel
theorem d_M_write_58a_33 : decode prog_14_method_7_code 33 = .ok (.goto 7, 3) := by decide +kernel
set_option maxHeartbeats 4000000 in
set_option maxRecDepth 100000 in
theorem k_write (l : Launch) (D : va_G) (dA : Nat → ClassId) (sz : Nat) (h : Nat) (ad : Nat → Nat) (x : MS) (hc : ¬ x.cutLeft = 0) : Met l ⟨"SeriesVaultModel", "write", "()Z"⟩ [Cond.code ⟨"SeriesVaultModel", "write", "()Z"⟩ prog_14_method_7_code 1 (some FieldType.boolean)] { frames := 1, cells := 0, slots := 0, locals := 0 } (pC D dA [.ref h] (MW dA h ad x) sz) (va_Qi (fun (r9 : Int32) (u9 : Unit) => r9 = bI true) (fun (u9 : Unit) t9 => bW D (va_A (MW dA h ad x) sz) (MW dA h ad (MS.s_written (MS.s_cutLeft x (cutF x.cutLeft)) (x.written + 1))) t9) (va_A (MW dA h ad x) sz)) 0 0 (va_A (MW dA h ad x) sz) := by
  refine mkC (y := ⟨"SeriesVaultModel", "write", "()Z"⟩) (cc := prog_14_method_7_code) (maxL := 1) (av := [.ref h]) (ws := MW dA h ad x) (sz := sz) (Qc := fun A => va_Qi (fun (r9 : Int32) (u9 : Unit) => r9 = bI true) (fun (u9 : Unit) t9 => bW D A (MW dA h ad (MS.s_written (MS.s_cutLeft x (cutF x.cutLeft)) (x.written + 1))) t9) A) (by decide) (Nat.le_of_ble_eq_true rfl) ?_
  intro A p e s m below meth c ls hsz hB
  obtain ⟨hx, hb, hr, hml, hown, hin, hlk, hE, hK, hP, hD, hS, hA, hN, hl⟩ := hB
  have hown : s.vm.findClass "SeriesVaultModel" = some m.cls := hown
  have hl : lv_has ls 1 [(0, .ref h)] := hl
  obtain ⟨H, hH⟩ : ∃ z, z = s.heap := ⟨_, rfl⟩
  have hP : va_P D vwCl (MW dA h ad x) H := by rw [hH]; exact hP
  have hS : va_S A s.heap H [] := by rw [hH]; exact hS
  rw [← hH]
  refine lv_aload_n hx hb d_M_write_58a_0 rfl (lv_at hl 0 rfl) ?_
  refine gF (v := .int x.cutLeft) hx hb hown hE hK hP 0 rfl rfl layM 8 (by decide) w325 rfl d_M_write_58a_1 ?_
  refine lv_if_ne hx hb d_M_write_58a_4 (tgt := 19) rfl (fun _ => ?_) (fun h9 => absurd h9 hc)
  refine lv_aload_n hx hb d_M_write_58a_19 rfl (lv_at hl 0 rfl) ?_
  refine lv_aload_n hx hb d_M_write_58a_20 rfl (lv_at hl 0 rfl) ?_
  refine gF (v := .int x.cutLeft) hx hb hown hE hK hP 0 rfl rfl layM 8 (by decide) w325 rfl d_M_write_58a_21 ?_
  refine lv_if_le hx hb d_M_write_58a_24 (tgt := 36) rfl (fun g1 => ?_) (fun g1 => ?_)
  · have g1 := g1
    refine lv_aload_n hx hb d_M_write_58a_36 rfl (lv_at hl 0 rfl) ?_
    refine gF (v := .int x.cutLeft) hx hb hown hE hK hP 0 rfl rfl layM 8 (by decide) w325 rfl d_M_write_58a_37 ?_
    refine pF (v := .int x.cutLeft) hx hb hown hE hK hP hD hS 0 rfl rfl layM tyM tokM nmM 8 (by decide) w325 rfl rfl rfl (Nat.le_of_ble_eq_true rfl) d_M_write_58a_40 (fun H locs hP hD hS => ?_)
    have hP : va_P D vwCl (MW dA h ad (MS.s_cutLeft x x.cutLeft)) H := hP
    have hD : va_D A (MW dA h ad (MS.s_cutLeft x x.cutLeft)) := hD
    refine lv_aload_n hx hb d_M_write_58a_43 rfl (lv_at hl 0 rfl) ?_
    refine lv_dup hx hb d_M_write_58a_44 rfl ?_
    refine gF (v := .int (nI x.written)) hx hb hown hE hK hP 0 rfl rfl layM 9 (by decide) w323 rfl d_M_write_58a_45 ?_
    refine lv_iconst (v := 1) hx hb d_M_write_58a_48 (by decide) ?_
    refine lv_iadd hx hb d_M_write_58a_49 (tpi (y := nI (x.written + 1)) (nI_add (x.written) (1)) ?_)
    refine pF (v := .int (nI (x.written + 1))) hx hb hown hE hK hP hD hS 0 rfl rfl layM tyM tokM nmM 9 (by decide) w323 rfl rfl rfl (Nat.le_of_ble_eq_true rfl) d_M_write_58a_50 (fun H locs hP hD hS => ?_)
    have hP : va_P D vwCl (MW dA h ad (MS.s_written (MS.s_cutLeft x x.cutLeft) (x.written + 1))) H := hP
    have hD : va_D A (MW dA h ad (MS.s_written (MS.s_cutLeft x x.cutLeft) (x.written + 1))) := hD
    refine lv_iconst (v := 1) hx hb d_M_write_58a_53 (by decide) ?_
    have e9 : (MS.s_written (MS.s_cutLeft x x.cutLeft) (x.written + 1) : MS) = MS.s_written (MS.s_cutLeft x (cutF x.cutLeft)) (x.written + 1) := by rw [show (cutF x.cutLeft) = x.cutLeft from by simp [cutF, *]] <;> rfl
    exact rfZ hx hb hr (bI_nar true) hlk hS () rfl (cvP e9 hP) (cvD e9 hD) (Nat.le_of_ble_eq_true rfl) (Nat.le_of_ble_eq_true rfl) d_M_write_58a_54
  · have g1 := g1
    refine lv_aload_n hx hb d_M_write_58a_27 rfl (lv_at hl 0 rfl) ?_
    refine gF (v := .int x.cutLeft) hx hb hown hE hK hP 0 rfl rfl layM 8 (by decide) w325 rfl d_M_write_58a_28 ?_
    refine lv_iconst (v := 1) hx hb d_M_write_58a_31 (by decide) ?_
    refine lv_isub hx hb d_M_write_58a_32 ?_
    refine lv_goto hx hb d_M_write_58a_33 (tgt := 40) rfl ?_
    refine pF (v := .int (x.cutLeft - 1)) hx hb hown hE hK hP hD hS 0 rfl rfl layM tyM tokM nmM 8 (by decide) w325 rfl rfl rfl (Nat.le_of_ble_eq_true rfl) d_M_write_58a_40 (fun H locs hP hD hS => ?_)
    have hP : va_P D vwCl (MW dA h ad (MS.s_cutLeft x (x.cutLeft - 1))) H := hP
    have hD : va_D A (MW dA h ad (MS.s_cutLeft x (x.cutLeft - 1))) := hD
    refine lv_aload_n hx hb d_M_write_58a_43 rfl (lv_at hl 0 rfl) ?_
    refine lv_dup hx hb d_M_write_58a_44 rfl ?_
    refine gF (v := .int (nI x.written)) hx hb hown hE hK hP 0 rfl rfl layM 9 (by decide) w323 rfl d_M_write_58a_45 ?_
    refine lv_iconst (v := 1) hx hb d_M_write_58a_48 (by decide) ?_
    refine lv_iadd hx hb d_M_write_58a_49 (tpi (y := nI (x.written + 1)) (nI_add (x.written) (1)) ?_)
    refine pF (v := .int (nI (x.written + 1))) hx hb hown hE hK hP hD hS 0 rfl rfl layM tyM tokM nmM 9 (by decide) w323 rfl rfl rfl (Nat.le_of_ble_eq_true rfl) d_M_write_58a_50 (fun H locs hP hD hS => ?_)
    have hP : va_P D vwCl (MW dA h ad (MS.s_written (MS.s_cutLeft x (x.cutLeft - 1)) (x.written + 1))) H := hP
    have hD : va_D A (MW dA h ad (MS.s_written (MS.s_cutLeft x (x.cutLeft - 1)) (x.written + 1))) := hD
    refine lv_iconst (v := 1) hx hb d_M_write_58a_53 (by decide) ?_
    have e9 : (MS.s_written (MS.s_cutLeft x (x.cutLeft - 1)) (x.written + 1) : MS) = MS.s_written (MS.s_cutLeft x (cutF x.cutLeft)) (x.written + 1) := by rw [show (cutF x.cutLeft) = (x.cutLeft - 1) from by simp [cutF, *]] <;> rfl
    exact rfZ hx hb hr (bI_nar true) hlk hS () rfl (cvP e9 hP) (cvD e9 hD) (Nat.le_of_ble_eq_true rfl) (Nat.le_of_ble_eq_true rfl) d_M_write_58a_54
theorem d_M_hasRoom_0 : decode prog_14_method_10_code 0 = .ok (.aload_n 0, 1) := by decide +kernel
theorem d_M_hasRoom_1 : decode prog_14_method_10_code 1 = .ok (.getfield 191, 3) := by decide +kernel
theorem d_M_hasRoom_4 : decode prog_14_method_10_code 4 = .ok (.iload_n 1, 1) := by decide +kernel
theorem d_M_hasRoom_5 : decode prog_14_method_10_code 5 = .ok (.iadd, 1) := by decide +kernel
theorem d_M_hasRoom_6 : decode prog_14_method_10_code 6 = .ok (.bipush 126, 2) := by decide +kernel
theorem d_M_hasRoom_8 : decode prog_14_method_10_code 8 = .ok (.if_icmp .le 16, 3) := by decide +kernel
theorem d_M_hasRoom_24 : decode prog_14_method_10_code 24 = .ok (.iconst 1, 1) := by decide +kernel
theorem d_M_hasRoom_25 : decode prog_14_method_10_code 25 = .ok (.goto 4, 3) := by decide +kernel
theorem d_M_hasRoom_29 : decode prog_14_method_10_code 29 = .ok (.ireturn, 1) := by decide +kernel
theorem d_M_hasRoom_11 : decode prog_14_method_10_code 11 = .ok (.aload_n 0, 1) := by decide +kernel
theorem d_M_hasRoom_12 : decode prog_14_method_10_code 12 = .ok (.getfield 188, 3) := by decide +kernel
theorem d_M_hasRoom_15 : decode prog_14_method_10_code 15 = .ok (.iconst 1, 1) := by decide +kernel
theorem d_M_hasRoom_16 : decode prog_14_method_10_code 16 = .ok (.iadd, 1) := by decide +kernel
theorem d_M_hasRoom_17 : decode prog_14_method_10_code 17 = .ok (.aload_n 0, 1) := by decide +kernel
theorem d_M_hasRoom_18 : decode prog_14_method_10_code 18 = .ok (.getfield 18, 3) := by decide +kernel
theorem d_M_hasRoom_21 : decode prog_14_method_10_code 21 = .ok (.if_icmp .ge 7, 3) := by decide +kernel
theorem d_M_hasRoom_28 : decode prog_14_method_10_code 28 = .ok (.iconst 0, 1) := by decide +kernel
set_option maxHeartbeats 4000000 in
set_option maxRecDepth 100000 in
theorem k_hasRoom (l : Launch) (D : va_G) (dA : Nat → ClassId) (sz : Nat) (h : Nat) (ad : Nat → Nat) (x : MS) (n : Nat) (h1 : x.used + n < 2 ^ 31) (h2 : x.block + 1 < 2 ^ 31) (h3 : x.journal < 2 ^ 31) : Met l ⟨"SeriesVaultModel", "hasRoom", "(I)Z"⟩ [Cond.code ⟨"SeriesVaultModel", "hasRoom", "(I)Z"⟩ prog_14_method_10_code 2 (some FieldType.boolean)] { frames := 1, cells := 0, slots := 0, locals := 0 } (pC D dA [.ref h, .int (nI n)] (MW dA h ad x) sz) (va_Qi (fun (r9 : Int32) (u9 : Unit) => r9 = bI (x.room n)) (fun (u9 : Unit) t9 => bW D (va_A (MW dA h ad x) sz) (MW dA h ad x) t9) (va_A (MW dA h ad x) sz)) 0 0 (va_A (MW dA h ad x) sz) := by
  refine mkC (y := ⟨"SeriesVaultModel", "hasRoom", "(I)Z"⟩) (cc := prog_14_method_10_code) (maxL := 2) (av := [.ref h, .int (nI n)]) (ws := MW dA h ad x) (sz := sz) (Qc := fun A => va_Qi (fun (r9 : Int32) (u9 : Unit) => r9 = bI (x.room n)) (fun (u9 : Unit) t9 => bW D A (MW dA h ad x) t9) A) (by decide) (Nat.le_of_ble_eq_true rfl) ?_
  intro A p e s m below meth c ls hsz hB
  obtain ⟨hx, hb, hr, hml, hown, hin, hlk, hE, hK, hP, hD, hS, hA, hN, hl⟩ := hB
  have hown : s.vm.findClass "SeriesVaultModel" = some m.cls := hown
  have hl : lv_has ls 2 [(0, .ref h), (1, .int (nI n))] := hl
  obtain ⟨H, hH⟩ : ∃ z, z = s.heap := ⟨_, rfl⟩
  have hP : va_P D vwCl (MW dA h ad x) H := by rw [hH]; exact hP
  have hS : va_S A s.heap H [] := by rw [hH]; exact hS
  rw [← hH]
  refine lv_aload_n hx hb d_M_hasRoom_0 rfl (lv_at hl 0 rfl) ?_
  refine gF (v := .int (nI x.used)) hx hb hown hE hK hP 0 rfl rfl layM 40 (by decide) w424 rfl d_M_hasRoom_1 ?_
  refine lv_iload_n hx hb d_M_hasRoom_4 rfl (lv_at hl 1 rfl) ?_
  refine lv_iadd hx hb d_M_hasRoom_5 (tpi (y := nI (x.used + n)) (nI_add (x.used) (n)) ?_)
  refine lv_bipush (v := 126) hx hb d_M_hasRoom_6 (by decide) ?_
  refine lv_icmp_le hx hb d_M_hasRoom_8 (tgt := 24) rfl (fun g1 => ?_) (fun g1 => ?_)
  · have g1 := (nI_leI (a := x.used + n) (b := 126) (by omega) (by omega)).mp g1
    refine lv_iconst (v := 1) hx hb d_M_hasRoom_24 (by decide) ?_
    refine lv_goto hx hb d_M_hasRoom_25 (tgt := 29) rfl ?_
    exact rfZ hx hb hr (bI_nar true) hlk hS () (by simp [bI, MS.room, *]) hP hD (Nat.le_of_ble_eq_true rfl) (Nat.le_of_ble_eq_true rfl) d_M_hasRoom_29
  · have g1 := mt (nI_leI (a := x.used + n) (b := 126) (by omega) (by omega)).mpr g1
    refine lv_aload_n hx hb d_M_hasRoom_11 rfl (lv_at hl 0 rfl) ?_
    refine gF (v := .int (nI x.block)) hx hb hown hE hK hP 0 rfl rfl layM 39 (by decide) w423 rfl d_M_hasRoom_12 ?_
    refine lv_iconst (v := 1) hx hb d_M_hasRoom_15 (by decide) ?_
    refine lv_iadd hx hb d_M_hasRoom_16 (tpi (y := nI (x.block + 1)) (nI_add (x.block) (1)) ?_)
    refine lv_aload_n hx hb d_M_hasRoom_17 rfl (lv_at hl 0 rfl) ?_
    refine gF (v := .int (nI x.journal)) hx hb hown hE hK hP 0 rfl rfl layM 6 (by decide) w417 rfl d_M_hasRoom_18 ?_
    refine lv_icmp_ge hx hb d_M_hasRoom_21 (tgt := 28) rfl (fun g2 => ?_) (fun g2 => ?_)
    · have g2 := (nI_leI (a := x.journal) (b := x.block + 1) (by omega) (by omega)).mp g2
      refine lv_iconst (v := 0) hx hb d_M_hasRoom_28 (by decide) ?_
      exact rfZ hx hb hr (bI_nar false) hlk hS () (by simp [bI, MS.room, *]) hP hD (Nat.le_of_ble_eq_true rfl) (Nat.le_of_ble_eq_true rfl) d_M_hasRoom_29
    · have g2 := mt (nI_leI (a := x.journal) (b := x.block + 1) (by omega) (by omega)).mpr g2
      refine lv_iconst (v := 1) hx hb d_M_hasRoom_24 (by decide) ?_
      refine lv_goto hx hb d_M_hasRoom_25 (tgt := 29) rfl ?_
      exact rfZ hx hb hr (bI_nar true) hlk hS () (by simp [bI, MS.room, *]) hP hD (Nat.le_of_ble_eq_true rfl) (Nat.le_of_ble_eq_true rfl) d_M_hasRoom_29
theorem d_M_synced_7 : decode prog_14_method_12_code 7 = .ok (.aload_n 0, 1) := by decide +kernel
theorem d_M_synced_8 : decode prog_14_method_12_code 8 = .ok (.invokevirtual 200, 3) := by decide +kernel
theorem d_M_synced_11 : decode prog_14_method_12_code 11 = .ok (.ifCond .ne 5, 3) := by decide +kernel
theorem d_M_synced_14 : decode prog_14_method_12_code 14 = .ok (.iconst 0, 1) := by decide +kernel
theorem d_M_synced_15 : decode prog_14_method_12_code 15 = .ok (.ireturn, 1) := by decide +kernel
set_option maxHeartbeats 4000000 in
set_option maxRecDepth 100000 in
theorem k_synced_x (l : Launch) (D : va_G) (dA : Nat → ClassId) (sz : Nat) (h : Nat) (ad : Nat → Nat) (x : MS) (hf : x.fresh = true) (hc : x.cutLeft = 0) : Met l ⟨"SeriesVaultModel", "synced", "()Z"⟩ [Cond.code ⟨"SeriesVaultModel", "synced", "()Z"⟩ prog_14_method_12_code 1 (some FieldType.boolean)] { frames := 2, cells := 0, slots := 0, locals := 20 } (pC D dA [.ref h] (MW dA h ad x) sz) (va_Qi (fun (r9 : Int32) (u9 : Unit) => r9 = bI false) (fun (u9 : Unit) t9 => bW D (va_A (MW dA h ad x) sz) (MW dA h ad (MS.s_cutLeft (MS.s_on x false) (-1))) t9) (va_A (MW dA h ad x) sz)) 0 0 (va_A (MW dA h ad x) sz) := by
  refine mkC (y := ⟨"SeriesVaultModel", "synced", "()Z"⟩) (cc := prog_14_method_12_code) (maxL := 1) (av := [.ref h]) (ws := MW dA h ad x) (sz := sz) (Qc := fun A => va_Qi (fun (r9 : Int32) (u9 : Unit) => r9 = bI false) (fun (u9 : Unit) t9 => bW D A (MW dA h ad (MS.s_cutLeft (MS.s_on x false) (-1))) t9) A) (by decide) (Nat.le_of_ble_eq_true rfl) ?_
  intro A p e s m below meth c ls hsz hB
  obtain ⟨hx, hb, hr, hml, hown, hin, hlk, hE, hK, hP, hD, hS, hA, hN, hl⟩ := hB
  have hown : s.vm.findClass "SeriesVaultModel" = some m.cls := hown
  have hl : lv_has ls 1 [(0, .ref h)] := hl
  obtain ⟨H, hH⟩ : ∃ z, z = s.heap := ⟨_, rfl⟩
  have hP : va_P D vwCl (MW dA h ad x) H := by rw [hH]; exact hP
  have hS : va_S A s.heap H [] := by rw [hH]; exact hS
  rw [← hH]
  refine lv_aload_n hx hb d_M_synced_0 rfl (lv_at hl 0 rfl) ?_
  refine gF (v := .int (bI x.fresh)) hx hb hown hE hK hP 0 rfl rfl layM 41 (by decide) w337 rfl d_M_synced_1 ?_
  refine lv_if_eq hx hb d_M_synced_4 (tgt := 16) rfl (fun h9 => absurd h9 (by rw [hf]; decide)) (fun _ => ?_)
  refine lv_aload_n hx hb d_M_synced_7 rfl (lv_at hl 0 rfl) ?_
  refine jfI (rnV (As := []) (rest := []) hx hb hml hown hE hK (hN _ _ hS) hP hD (k_write_x l D dA H.size h ad x hc) (q0 := 0) rfl rfl w452 w451 w453 w454 w328 rfl rfl ⟨⟨by decide, by decide⟩, rfl⟩ ⟨(Nat.le_of_ble_eq_true rfl), (Nat.le_of_ble_eq_true rfl)⟩ rfl hl.1 rfl (Nat.le_of_ble_eq_true rfl) d_M_synced_8 ⟨(Nat.le_of_ble_eq_true rfl), (Nat.le_of_ble_eq_true rfl)⟩) hP hD hS hA (fun r1 u2 H locs hp9 hP hD hS => ?_)
  have hP : va_P D vwCl (MW dA h ad (MS.s_cutLeft (MS.s_on x false) (-1))) H := hP
  have hD : va_D A (MW dA h ad (MS.s_cutLeft (MS.s_on x false) (-1))) := hD
  replace hp9 : bI false = r1 := Eq.symm hp9
  subst hp9
  refine lv_if_ne hx hb d_M_synced_11 (tgt := 16) rfl (fun h9 => absurd (by decide) h9) (fun _ => ?_)
  refine lv_iconst (v := 0) hx hb d_M_synced_14 (by decide) ?_
  exact rfZ hx hb hr (bI_nar false) hlk hS () rfl hP hD (Nat.le_of_ble_eq_true rfl) (Nat.le_of_ble_eq_true rfl) d_M_synced_15
set_option maxHeartbeats 4000000 in
set_option maxRecDepth 100000 in
theorem k_synced_1 (l : Launch) (D : va_G) (dA : Nat → ClassId) (sz : Nat) (h : Nat) (ad : Nat → Nat) (x : MS) (hf : x.fresh = true) (hc : ¬ x.cutLeft = 0) : Met l ⟨"SeriesVaultModel", "synced", "()Z"⟩ [Cond.code ⟨"SeriesVaultModel", "synced", "()Z"⟩ prog_14_method_12_code 1 (some FieldType.boolean)] { frames := 2, cells := 0, slots := 0, locals := 20 } (pC D dA [.ref h] (MW dA h ad x) sz) (va_Qi (fun (r9 : Int32) (u9 : Unit) => r9 = bI true) (fun (u9 : Unit) t9 => bW D (va_A (MW dA h ad x) sz) (MW dA h ad (MS.s_fresh (MS.s_kept (MS.s_written (MS.s_cutLeft x (cutF x.cutLeft)) (x.written + 1)) x.records) false)) t9) (va_A (MW dA h ad x) sz)) 0 0 (va_A (MW dA h ad x) sz) := by
  refine mkC (y := ⟨"SeriesVaultModel", "synced", "()Z"⟩) (cc := prog_14_method_12_code) (maxL := 1) (av := [.ref h]) (ws := MW dA h ad x) (sz := sz) (Qc := fun A => va_Qi (fun (r9 : Int32) (u9 : Unit) => r9 = bI true) (fun (u9 : Unit) t9 => bW D A (MW dA h ad (MS.s_fresh (MS.s_kept (MS.s_written (MS.s_cutLeft x (cutF x.cutLeft)) (x.written + 1)) x.records) false)) t9) A) (by decide) (Nat.le_of_ble_eq_true rfl) ?_
  intro A p e s m below meth c ls hsz hB
  obtain ⟨hx, hb, hr, hml, hown, hin, hlk, hE, hK, hP, hD, hS, hA, hN, hl⟩ := hB
  have hown : s.vm.findClass "SeriesVaultModel" = some m.cls := hown
  have hl : lv_has ls 1 [(0, .ref h)] := hl
  obtain ⟨H, hH⟩ : ∃ z, z = s.heap := ⟨_, rfl⟩
  have hP : va_P D vwCl (MW dA h ad x) H := by rw [hH]; exact hP
  have hS : va_S A s.heap H [] := by rw [hH]; exact hS
  rw [← hH]
  refine lv_aload_n hx hb d_M_synced_0 rfl (lv_at hl 0 rfl) ?_
  refine gF (v := .int (bI x.fresh)) hx hb hown hE hK hP 0 rfl rfl layM 41 (by decide) w337 rfl d_M_synced_1 ?_
  refine lv_if_eq hx hb d_M_synced_4 (tgt := 16) rfl (fun h9 => absurd h9 (by rw [hf]; decide)) (fun _ => ?_)
  refine lv_aload_n hx hb d_M_synced_7 rfl (lv_at hl 0 rfl) ?_
  refine jfI (rnV (As := []) (rest := []) hx hb hml hown hE hK (hN _ _ hS) hP hD (k_write l D dA H.size h ad x hc) (q0 := 0) rfl rfl w452 w451 w453 w454 w328 rfl rfl ⟨⟨by decide, by decide⟩, rfl⟩ ⟨(Nat.le_of_ble_eq_true rfl), (Nat.le_of_ble_eq_true rfl)⟩ rfl hl.1 rfl (Nat.le_of_ble_eq_true rfl) d_M_synced_8 ⟨(Nat.le_of_ble_eq_true rfl), (Nat.le_of_ble_eq_true rfl)⟩) hP hD hS hA (fun r1 u2 H locs hp9 hP hD hS => ?_)
  have hP : va_P D vwCl (MW dA h ad (MS.s_written (MS.s_cutLeft x (cutF x.cutLeft)) (x.written + 1))) H := hP
  have hD : va_D A (MW dA h ad (MS.s_written (MS.s_cutLeft x (cutF x.cutLeft)) (x.written + 1))) := hD
  replace hp9 : bI true = r1 := Eq.symm hp9
  subst hp9
  refine lv_if_ne hx hb d_M_synced_11 (tgt := 16) rfl (fun _ => ?_) (fun h9 => absurd h9 (by decide))
  refine lv_aload_n hx hb d_M_synced_16 rfl (lv_at hl 0 rfl) ?_
  refine lv_iconst (v := 0) hx hb d_M_synced_17 (by decide) ?_
  refine pF (v := .int (bI false)) hx hb hown hE hK hP hD hS 0 rfl rfl layM tyM tokM nmM 41 (by decide) w337 rfl (bI_nar false) (bI_fit false) (Nat.le_of_ble_eq_true rfl) d_M_synced_18 (fun H locs hP hD hS => ?_)
  have hP : va_P D vwCl (MW dA h ad (MS.s_fresh (MS.s_written (MS.s_cutLeft x (cutF x.cutLeft)) (x.written + 1)) false)) H := hP
  have hD : va_D A (MW dA h ad (MS.s_fresh (MS.s_written (MS.s_cutLeft x (cutF x.cutLeft)) (x.written + 1)) false)) := hD
  refine lv_aload_n hx hb d_M_synced_21 rfl (lv_at hl 0 rfl) ?_
  refine lv_aload_n hx hb d_M_synced_22 rfl (lv_at hl 0 rfl) ?_
  refine gF (v := .int (nI x.records)) hx hb hown hE hK hP 0 rfl rfl layM 37 (by decide) w338 rfl d_M_synced_23 ?_
  refine pF (v := .int (nI x.records)) hx hb hown hE hK hP hD hS 0 rfl rfl layM tyM tokM nmM 38 (by decide) w339 rfl rfl rfl (Nat.le_of_ble_eq_true rfl) d_M_synced_26 (fun H locs hP hD hS => ?_)
  have hP : va_P D vwCl (MW dA h ad (MS.s_fresh (MS.s_kept (MS.s_written (MS.s_cutLeft x (cutF x.cutLeft)) (x.written + 1)) x.records) false)) H := hP
  have hD : va_D A (MW dA h ad (MS.s_fresh (MS.s_kept (MS.s_written (MS.s_cutLeft x (cutF x.cutLeft)) (x.written + 1)) x.records) false)) := hD
  refine lv_iconst (v := 1) hx hb d_M_synced_29 (by decide) ?_
  exact rfZ hx hb hr (bI_nar true) hlk hS () rfl hP hD (Nat.le_of_ble_eq_true rfl) (Nat.le_of_ble_eq_true rfl) d_M_synced_30
set_option maxHeartbeats 4000000 in
set_option maxRecDepth 100000 in
theorem k_synced_0 (l : Launch) (D : va_G) (dA : Nat → ClassId) (sz : Nat) (h : Nat) (ad : Nat → Nat) (x : MS) (hf : x.fresh = false) : Met l ⟨"SeriesVaultModel", "synced", "()Z"⟩ [Cond.code ⟨"SeriesVaultModel", "synced", "()Z"⟩ prog_14_method_12_code 1 (some FieldType.boolean)] { frames := 1, cells := 0, slots := 0, locals := 0 } (pC D dA [.ref h] (MW dA h ad x) sz) (va_Qi (fun (r9 : Int32) (u9 : Unit) => r9 = bI true) (fun (u9 : Unit) t9 => bW D (va_A (MW dA h ad x) sz) (MW dA h ad (MS.s_fresh (MS.s_kept x x.records) false)) t9) (va_A (MW dA h ad x) sz)) 0 0 (va_A (MW dA h ad x) sz) := by
  refine mkC (y := ⟨"SeriesVaultModel", "synced", "()Z"⟩) (cc := prog_14_method_12_code) (maxL := 1) (av := [.ref h]) (ws := MW dA h ad x) (sz := sz) (Qc := fun A => va_Qi (fun (r9 : Int32) (u9 : Unit) => r9 = bI true) (fun (u9 : Unit) t9 => bW D A (MW dA h ad (MS.s_fresh (MS.s_kept x x.records) false)) t9) A) (by decide) (Nat.le_of_ble_eq_true rfl) ?_
  intro A p e s m below meth c ls hsz hB
  obtain ⟨hx, hb, hr, hml, hown, hin, hlk, hE, hK, hP, hD, hS, hA, hN, hl⟩ := hB
  have hown : s.vm.findClass "SeriesVaultModel" = some m.cls := hown
  have hl : lv_has ls 1 [(0, .ref h)] := hl
  obtain ⟨H, hH⟩ : ∃ z, z = s.heap := ⟨_, rfl⟩
  have hP : va_P D vwCl (MW dA h ad x) H := by rw [hH]; exact hP
  have hS : va_S A s.heap H [] := by rw [hH]; exact hS
  rw [← hH]
  refine lv_aload_n hx hb d_M_synced_0 rfl (lv_at hl 0 rfl) ?_
  refine gF (v := .int (bI x.fresh)) hx hb hown hE hK hP 0 rfl rfl layM 41 (by decide) w337 rfl d_M_synced_1 ?_
  refine lv_if_eq hx hb d_M_synced_4 (tgt := 16) rfl (fun _ => ?_) (fun h9 => absurd (by rw [hf]; decide) h9)
  refine lv_aload_n hx hb d_M_synced_16 rfl (lv_at hl 0 rfl) ?_
  refine lv_iconst (v := 0) hx hb d_M_synced_17 (by decide) ?_
  refine pF (v := .int (bI false)) hx hb hown hE hK hP hD hS 0 rfl rfl layM tyM tokM nmM 41 (by decide) w337 rfl (bI_nar false) (bI_fit false) (Nat.le_of_ble_eq_true rfl) d_M_synced_18 (fun H locs hP hD hS => ?_)
  have hP : va_P D vwCl (MW dA h ad (MS.s_fresh x false)) H := hP
  have hD : va_D A (MW dA h ad (MS.s_fresh x false)) := hD
  refine lv_aload_n hx hb d_M_synced_21 rfl (lv_at hl 0 rfl) ?_
  refine lv_aload_n hx hb d_M_synced_22 rfl (lv_at hl 0 rfl) ?_
  refine gF (v := .int (nI x.records)) hx hb hown hE hK hP 0 rfl rfl layM 37 (by decide) w338 rfl d_M_synced_23 ?_
  refine pF (v := .int (nI x.records)) hx hb hown hE hK hP hD hS 0 rfl rfl layM tyM tokM nmM 38 (by decide) w339 rfl rfl rfl (Nat.le_of_ble_eq_true rfl) d_M_synced_26 (fun H locs hP hD hS => ?_)
  have hP : va_P D vwCl (MW dA h ad (MS.s_fresh (MS.s_kept x x.records) false)) H := hP
  have hD : va_D A (MW dA h ad (MS.s_fresh (MS.s_kept x x.records) false)) := hD
  refine lv_iconst (v := 1) hx hb d_M_synced_29 (by decide) ?_
  exact rfZ hx hb hr (bI_nar true) hlk hS () rfl hP hD (Nat.le_of_ble_eq_true rfl) (Nat.le_of_ble_eq_true rfl) d_M_synced_30
theorem d_M_cut_8 : decode prog_14_method_51_code 8 = .ok (.iconst 1, 1) := by decide +kernel
theorem d_M_cut_9 : decode prog_14_method_51_code 9 = .ok (.goto 13, 3) := by decide +kernel
set_option maxHeartbeats 4000000 in
set_option maxRecDepth 100000 in
theorem k_cut_0 (l : Launch) (D : va_G) (dA : Nat → ClassId) (sz : Nat) (h : Nat) (ad : Nat → Nat) (x : MS) (n : Int32) (ho : x.on = false) : Met l ⟨"SeriesVaultModel", "cut", "(I)V"⟩ [Cond.code ⟨"SeriesVaultModel", "cut", "(I)V"⟩ prog_14_method_51_code 2 none] { frames := 1, cells := 0, slots := 0, locals := 0 } (pC D dA [.ref h, .int n] (MW dA h ad x) sz) (va_Qv (fun (u9 : Unit) => True) (fun (u9 : Unit) t9 => bW D (va_A (MW dA h ad x) sz) (MW dA h ad (MS.s_cod x 1)) t9) (va_A (MW dA h ad x) sz)) 0 0 (va_A (MW dA h ad x) sz) := by
  refine mkC (y := ⟨"SeriesVaultModel", "cut", "(I)V"⟩) (cc := prog_14_method_51_code) (maxL := 2) (av := [.ref h, .int n]) (ws := MW dA h ad x) (sz := sz) (Qc := fun A => va_Qv (fun (u9 : Unit) => True) (fun (u9 : Unit) t9 => bW D A (MW dA h ad (MS.s_cod x 1)) t9) A) (by decide) (Nat.le_of_ble_eq_true rfl) ?_
  intro A p e s m below meth c ls hsz hB
  obtain ⟨hx, hb, hr, hml, hown, hin, hlk, hE, hK, hP, hD, hS, hA, hN, hl⟩ := hB
  have hown : s.vm.findClass "SeriesVaultModel" = some m.cls := hown
  have hl : lv_has ls 2 [(0, .ref h), (1, .int n)] := hl
  obtain ⟨H, hH⟩ : ∃ z, z = s.heap := ⟨_, rfl⟩
  have hP : va_P D vwCl (MW dA h ad x) H := by rw [hH]; exact hP
  have hS : va_S A s.heap H [] := by rw [hH]; exact hS
  rw [← hH]
  refine lv_aload_n hx hb d_M_cut_0 rfl (lv_at hl 0 rfl) ?_
  refine lv_aload_n hx hb d_M_cut_1 rfl (lv_at hl 0 rfl) ?_
  refine gF (v := .int (bI x.on)) hx hb hown hE hK hP 0 rfl rfl layM 7 (by decide) w324 rfl d_M_cut_2 ?_
  refine lv_if_ne hx hb d_M_cut_5 (tgt := 12) rfl (fun h9 => absurd (by rw [ho]; decide) h9) (fun _ => ?_)
  refine lv_iconst (v := 1) hx hb d_M_cut_8 (by decide) ?_
  refine lv_goto hx hb d_M_cut_9 (tgt := 22) rfl ?_
  refine pF (v := .int 1) hx hb hown hE hK hP hD hS 0 rfl rfl layM tyM tokM nmM 0 (by decide) w319 rfl rfl rfl (Nat.le_of_ble_eq_true rfl) d_M_cut_22 (fun H locs hP hD hS => ?_)
  have hP : va_P D vwCl (MW dA h ad (MS.s_cod x 1)) H := hP
  have hD : va_D A (MW dA h ad (MS.s_cod x 1)) := hD
  refine lv_aload_n hx hb d_M_cut_25 rfl (lv_at hl 0 rfl) ?_
  refine lv_aload_n hx hb d_M_cut_26 rfl (lv_at hl 0 rfl) ?_
  refine gF (v := .int 1) hx hb hown hE hK hP 0 rfl rfl layM 0 (by decide) w319 rfl d_M_cut_27 ?_
  refine lv_if_ne hx hb d_M_cut_30 (tgt := 37) rfl (fun _ => ?_) (fun h9 => absurd h9 (by decide))
  refine lv_aload_n hx hb d_M_cut_37 rfl (lv_at hl 0 rfl) ?_
  refine gF (v := .int x.cutLeft) hx hb hown hE hK hP 0 rfl rfl layM 8 (by decide) w325 rfl d_M_cut_38 ?_
  refine pF (v := .int x.cutLeft) hx hb hown hE hK hP hD hS 0 rfl rfl layM tyM tokM nmM 8 (by decide) w325 rfl rfl rfl (Nat.le_of_ble_eq_true rfl) d_M_cut_41 (fun H locs hP hD hS => ?_)
  have hP : va_P D vwCl (MW dA h ad (MS.s_cutLeft (MS.s_cod x 1) x.cutLeft)) H := hP
  have hD : va_D A (MW dA h ad (MS.s_cutLeft (MS.s_cod x 1) x.cutLeft)) := hD
  exact rfV hx hb hr hlk hS () trivial hP hD (Nat.le_of_ble_eq_true rfl) (Nat.le_of_ble_eq_true rfl) d_M_cut_44
set_option maxHeartbeats 4000000 in
set_option maxRecDepth 100000 in
theorem k_cut_x (l : Launch) (D : va_G) (dA : Nat → ClassId) (sz : Nat) (h : Nat) (ad : Nat → Nat) (x : MS) (n : Int32) (ho : x.on = true) (h1 : n < (-1)) : Met l ⟨"SeriesVaultModel", "cut", "(I)V"⟩ [Cond.code ⟨"SeriesVaultModel", "cut", "(I)V"⟩ prog_14_method_51_code 2 none] { frames := 1, cells := 0, slots := 0, locals := 0 } (pC D dA [.ref h, .int n] (MW dA h ad x) sz) (va_Qv (fun (u9 : Unit) => True) (fun (u9 : Unit) t9 => bW D (va_A (MW dA h ad x) sz) (MW dA h ad (MS.s_cod x 2)) t9) (va_A (MW dA h ad x) sz)) 0 0 (va_A (MW dA h ad x) sz) := by
  refine mkC (y := ⟨"SeriesVaultModel", "cut", "(I)V"⟩) (cc := prog_14_method_51_code) (maxL := 2) (av := [.ref h, .int n]) (ws := MW dA h ad x) (sz := sz) (Qc := fun A => va_Qv (fun (u9 : Unit) => True) (fun (u9 : Unit) t9 => bW D A (MW dA h ad (MS.s_cod x 2)) t9) A) (by decide) (Nat.le_of_ble_eq_true rfl) ?_
  intro A p e s m below meth c ls hsz hB
  obtain ⟨hx, hb, hr, hml, hown, hin, hlk, hE, hK, hP, hD, hS, hA, hN, hl⟩ := hB
  have hown : s.vm.findClass "SeriesVaultModel" = some m.cls := hown
  have hl : lv_has ls 2 [(0, .ref h), (1, .int n)] := hl
  obtain ⟨H, hH⟩ : ∃ z, z = s.heap := ⟨_, rfl⟩
  have hP : va_P D vwCl (MW dA h ad x) H := by rw [hH]; exact hP
  have hS : va_S A s.heap H [] := by rw [hH]; exact hS
  rw [← hH]
  refine lv_aload_n hx hb d_M_cut_0 rfl (lv_at hl 0 rfl) ?_
  refine lv_aload_n hx hb d_M_cut_1 rfl (lv_at hl 0 rfl) ?_
  refine gF (v := .int (bI x.on)) hx hb hown hE hK hP 0 rfl rfl layM 7 (by decide) w324 rfl d_M_cut_2 ?_
  refine lv_if_ne hx hb d_M_cut_5 (tgt := 12) rfl (fun _ => ?_) (fun h9 => absurd h9 (by rw [ho]; decide))
  refine lv_iload_n hx hb d_M_cut_12 rfl (lv_at hl 1 rfl) ?_
  refine lv_iconst (v := (-1)) hx hb d_M_cut_13 (by decide) ?_
  refine lv_icmp_ge hx hb d_M_cut_14 (tgt := 21) rfl (fun h9 => absurd h9 (Int32.not_le.mpr h1)) (fun _ => ?_)
  refine lv_iconst (v := 2) hx hb d_M_cut_17 (by decide) ?_
  refine lv_goto hx hb d_M_cut_18 (tgt := 22) rfl ?_
  refine pF (v := .int 2) hx hb hown hE hK hP hD hS 0 rfl rfl layM tyM tokM nmM 0 (by decide) w319 rfl rfl rfl (Nat.le_of_ble_eq_true rfl) d_M_cut_22 (fun H locs hP hD hS => ?_)
  have hP : va_P D vwCl (MW dA h ad (MS.s_cod x 2)) H := hP
  have hD : va_D A (MW dA h ad (MS.s_cod x 2)) := hD
  refine lv_aload_n hx hb d_M_cut_25 rfl (lv_at hl 0 rfl) ?_
  refine lv_aload_n hx hb d_M_cut_26 rfl (lv_at hl 0 rfl) ?_
  refine gF (v := .int 2) hx hb hown hE hK hP 0 rfl rfl layM 0 (by decide) w319 rfl d_M_cut_27 ?_
  refine lv_if_ne hx hb d_M_cut_30 (tgt := 37) rfl (fun _ => ?_) (fun h9 => absurd h9 (by decide))
  refine lv_aload_n hx hb d_M_cut_37 rfl (lv_at hl 0 rfl) ?_
  refine gF (v := .int x.cutLeft) hx hb hown hE hK hP 0 rfl rfl layM 8 (by decide) w325 rfl d_M_cut_38 ?_
  refine pF (v := .int x.cutLeft) hx hb hown hE hK hP hD hS 0 rfl rfl layM tyM tokM nmM 8 (by decide) w325 rfl rfl rfl (Nat.le_of_ble_eq_true rfl) d_M_cut_41 (fun H locs hP hD hS => ?_)
  have hP : va_P D vwCl (MW dA h ad (MS.s_cutLeft (MS.s_cod x 2) x.cutLeft)) H := hP
  have hD : va_D A (MW dA h ad (MS.s_cutLeft (MS.s_cod x 2) x.cutLeft)) := hD
  exact rfV hx hb hr hlk hS () trivial hP hD (Nat.le_of_ble_eq_true rfl) (Nat.le_of_ble_eq_true rfl) d_M_cut_44
set_option maxHeartbeats 4000000 in
set_option maxRecDepth 100000 in
theorem k_cut (l : Launch) (D : va_G) (dA : Nat → ClassId) (sz : Nat) (h : Nat) (ad : Nat → Nat) (x : MS) (n : Int32) (ho : x.on = true) (h1 : (-1) ≤ n) : Met l ⟨"SeriesVaultModel", "cut", "(I)V"⟩ [Cond.code ⟨"SeriesVaultModel", "cut", "(I)V"⟩ prog_14_method_51_code 2 none] { frames := 1, cells := 0, slots := 0, locals := 0 } (pC D dA [.ref h, .int n] (MW dA h ad x) sz) (va_Qv (fun (u9 : Unit) => True) (fun (u9 : Unit) t9 => bW D (va_A (MW dA h ad x) sz) (MW dA h ad (MS.s_cutLeft (MS.s_cod x 0) n)) t9) (va_A (MW dA h ad x) sz)) 0 0 (va_A (MW dA h ad x) sz) := by
  refine mkC (y := ⟨"SeriesVaultModel", "cut", "(I)V"⟩) (cc := prog_14_method_51_code) (maxL := 2) (av := [.ref h, .int n]) (ws := MW dA h ad x) (sz := sz) (Qc := fun A => va_Qv (fun (u9 : Unit) => True) (fun (u9 : Unit) t9 => bW D A (MW dA h ad (MS.s_cutLeft (MS.s_cod x 0) n)) t9) A) (by decide) (Nat.le_of_ble_eq_true rfl) ?_
  intro A p e s m below meth c ls hsz hB
  obtain ⟨hx, hb, hr, hml, hown, hin, hlk, hE, hK, hP, hD, hS, hA, hN, hl⟩ := hB
  have hown : s.vm.findClass "SeriesVaultModel" = some m.cls := hown
  have hl : lv_has ls 2 [(0, .ref h), (1, .int n)] := hl
  obtain ⟨H, hH⟩ : ∃ z, z = s.heap := ⟨_, rfl⟩
  have hP : va_P D vwCl (MW dA h ad x) H := by rw [hH]; exact hP
  have hS : va_S A s.heap H [] := by rw [hH]; exact hS
  rw [← hH]
  refine lv_aload_n hx hb d_M_cut_0 rfl (lv_at hl 0 rfl) ?_
  refine lv_aload_n hx hb d_M_cut_1 rfl (lv_at hl 0 rfl) ?_
  refine gF (v := .int (bI x.on)) hx hb hown hE hK hP 0 rfl rfl layM 7 (by decide) w324 rfl d_M_cut_2 ?_
  refine lv_if_ne hx hb d_M_cut_5 (tgt := 12) rfl (fun _ => ?_) (fun h9 => absurd h9 (by rw [ho]; decide))
  refine lv_iload_n hx hb d_M_cut_12 rfl (lv_at hl 1 rfl) ?_
  refine lv_iconst (v := (-1)) hx hb d_M_cut_13 (by decide) ?_
  refine lv_icmp_ge hx hb d_M_cut_14 (tgt := 21) rfl (fun _ => ?_) (fun h9 => absurd h1 h9)
  refine lv_iconst (v := 0) hx hb d_M_cut_21 (by decide) ?_
  refine pF (v := .int 0) hx hb hown hE hK hP hD hS 0 rfl rfl layM tyM tokM nmM 0 (by decide) w319 rfl rfl rfl (Nat.le_of_ble_eq_true rfl) d_M_cut_22 (fun H locs hP hD hS => ?_)
  have hP : va_P D vwCl (MW dA h ad (MS.s_cod x 0)) H := hP
  have hD : va_D A (MW dA h ad (MS.s_cod x 0)) := hD
  refine lv_aload_n hx hb d_M_cut_25 rfl (lv_at hl 0 rfl) ?_
  refine lv_aload_n hx hb d_M_cut_26 rfl (lv_at hl 0 rfl) ?_
  refine gF (v := .int 0) hx hb hown hE hK hP 0 rfl rfl layM 0 (by decide) w319 rfl d_M_cut_27 ?_
  refine lv_if_ne hx hb d_M_cut_30 (tgt := 37) rfl (fun h9 => absurd (by decide) h9) (fun _ => ?_)
  refine lv_iload_n hx hb d_M_cut_33 rfl (lv_at hl 1 rfl) ?_
  refine lv_goto hx hb d_M_cut_34 (tgt := 41) rfl ?_
  refine pF (v := .int n) hx hb hown hE hK hP hD hS 0 rfl rfl layM tyM tokM nmM 8 (by decide) w325 rfl rfl rfl (Nat.le_of_ble_eq_true rfl) d_M_cut_41 (fun H locs hP hD hS => ?_)
  have hP : va_P D vwCl (MW dA h ad (MS.s_cutLeft (MS.s_cod x 0) n)) H := hP
  have hD : va_D A (MW dA h ad (MS.s_cutLeft (MS.s_cod x 0) n)) := hD
  exact rfV hx hb hr hlk hS () trivial hP hD (Nat.le_of_ble_eq_true rfl) (Nat.le_of_ble_eq_true rfl) d_M_cut_44
theorem d_M_off_12 : decode prog_14_method_52_code 12 = .ok (.iconst 1, 1) := by decide +kernel
set_option maxHeartbeats 4000000 in
set_option maxRecDepth 100000 in
theorem k_off_0 (l : Launch) (D : va_G) (dA : Nat → ClassId) (sz : Nat) (h : Nat) (ad : Nat → Nat) (x : MS) (ho : x.on = false) : Met l ⟨"SeriesVaultModel", "off", "()V"⟩ [Cond.code ⟨"SeriesVaultModel", "off", "()V"⟩ prog_14_method_52_code 1 none] { frames := 1, cells := 0, slots := 0, locals := 0 } (pC D dA [.ref h] (MW dA h ad x) sz) (va_Qv (fun (u9 : Unit) => True) (fun (u9 : Unit) t9 => bW D (va_A (MW dA h ad x) sz) (MW dA h ad (MS.s_on (MS.s_cod x 1) false)) t9) (va_A (MW dA h ad x) sz)) 0 0 (va_A (MW dA h ad x) sz) := by
  refine mkC (y := ⟨"SeriesVaultModel", "off", "()V"⟩) (cc := prog_14_method_52_code) (maxL := 1) (av := [.ref h]) (ws := MW dA h ad x) (sz := sz) (Qc := fun A => va_Qv (fun (u9 : Unit) => True) (fun (u9 : Unit) t9 => bW D A (MW dA h ad (MS.s_on (MS.s_cod x 1) false)) t9) A) (by decide) (Nat.le_of_ble_eq_true rfl) ?_
  intro A p e s m below meth c ls hsz hB
  obtain ⟨hx, hb, hr, hml, hown, hin, hlk, hE, hK, hP, hD, hS, hA, hN, hl⟩ := hB
  have hown : s.vm.findClass "SeriesVaultModel" = some m.cls := hown
  have hl : lv_has ls 1 [(0, .ref h)] := hl
  obtain ⟨H, hH⟩ : ∃ z, z = s.heap := ⟨_, rfl⟩
  have hP : va_P D vwCl (MW dA h ad x) H := by rw [hH]; exact hP
  have hS : va_S A s.heap H [] := by rw [hH]; exact hS
  rw [← hH]
  refine lv_aload_n hx hb d_M_off_0 rfl (lv_at hl 0 rfl) ?_
  refine lv_aload_n hx hb d_M_off_1 rfl (lv_at hl 0 rfl) ?_
  refine gF (v := .int (bI x.on)) hx hb hown hE hK hP 0 rfl rfl layM 7 (by decide) w324 rfl d_M_off_2 ?_
  refine lv_if_eq hx hb d_M_off_5 (tgt := 12) rfl (fun _ => ?_) (fun h9 => absurd (by rw [ho]; decide) h9)
  refine lv_iconst (v := 1) hx hb d_M_off_12 (by decide) ?_
  refine pF (v := .int 1) hx hb hown hE hK hP hD hS 0 rfl rfl layM tyM tokM nmM 0 (by decide) w319 rfl rfl rfl (Nat.le_of_ble_eq_true rfl) d_M_off_13 (fun H locs hP hD hS => ?_)
  have hP : va_P D vwCl (MW dA h ad (MS.s_cod x 1)) H := hP
  have hD : va_D A (MW dA h ad (MS.s_cod x 1)) := hD
  refine lv_aload_n hx hb d_M_off_16 rfl (lv_at hl 0 rfl) ?_
  refine lv_iconst (v := 0) hx hb d_M_off_17 (by decide) ?_
  refine pF (v := .int (bI false)) hx hb hown hE hK hP hD hS 0 rfl rfl layM tyM tokM nmM 7 (by decide) w324 rfl (bI_nar false) (bI_fit false) (Nat.le_of_ble_eq_true rfl) d_M_off_18 (fun H locs hP hD hS => ?_)
  have hP : va_P D vwCl (MW dA h ad (MS.s_on (MS.s_cod x 1) false)) H := hP
  have hD : va_D A (MW dA h ad (MS.s_on (MS.s_cod x 1) false)) := hD
  exact rfV hx hb hr hlk hS () trivial hP hD (Nat.le_of_ble_eq_true rfl) (Nat.le_of_ble_eq_true rfl) d_M_off_21
set_option maxHeartbeats 4000000 in
set_option maxRecDepth 100000 in
theorem k_off (l : Launch) (D : va_G) (dA : Nat → ClassId) (sz : Nat) (h : Nat) (ad : Nat → Nat) (x : MS) (ho : x.on = true) : Met l ⟨"SeriesVaultModel", "off", "()V"⟩ [Cond.code ⟨"SeriesVaultModel", "off", "()V"⟩ prog_14_method_52_code 1 none] { frames := 1, cells := 0, slots := 0, locals := 0 } (pC D dA [.ref h] (MW dA h ad x) sz) (va_Qv (fun (u9 : Unit) => True) (fun (u9 : Unit) t9 => bW D (va_A (MW dA h ad x) sz) (MW dA h ad (MS.s_on (MS.s_cod x 0) false)) t9) (va_A (MW dA h ad x) sz)) 0 0 (va_A (MW dA h ad x) sz) := by
  refine mkC (y := ⟨"SeriesVaultModel", "off", "()V"⟩) (cc := prog_14_method_52_code) (maxL := 1) (av := [.ref h]) (ws := MW dA h ad x) (sz := sz) (Qc := fun A => va_Qv (fun (u9 : Unit) => True) (fun (u9 : Unit) t9 => bW D A (MW dA h ad (MS.s_on (MS.s_cod x 0) false)) t9) A) (by decide) (Nat.le_of_ble_eq_true rfl) ?_
  intro A p e s m below meth c ls hsz hB
  obtain ⟨hx, hb, hr, hml, hown, hin, hlk, hE, hK, hP, hD, hS, hA, hN, hl⟩ := hB
  have hown : s.vm.findClass "SeriesVaultModel" = some m.cls := hown
  have hl : lv_has ls 1 [(0, .ref h)] := hl
  obtain ⟨H, hH⟩ : ∃ z, z = s.heap := ⟨_, rfl⟩
  have hP : va_P D vwCl (MW dA h ad x) H := by rw [hH]; exact hP
  have hS : va_S A s.heap H [] := by rw [hH]; exact hS
  rw [← hH]
  refine lv_aload_n hx hb d_M_off_0 rfl (lv_at hl 0 rfl) ?_
  refine lv_aload_n hx hb d_M_off_1 rfl (lv_at hl 0 rfl) ?_
  refine gF (v := .int (bI x.on)) hx hb hown hE hK hP 0 rfl rfl layM 7 (by decide) w324 rfl d_M_off_2 ?_
  refine lv_if_eq hx hb d_M_off_5 (tgt := 12) rfl (fun h9 => absurd h9 (by rw [ho]; decide)) (fun _ => ?_)
  refine lv_iconst (v := 0) hx hb d_M_off_8 (by decide) ?_
  refine lv_goto hx hb d_M_off_9 (tgt := 13) rfl ?_
  refine pF (v := .int 0) hx hb hown hE hK hP hD hS 0 rfl rfl layM tyM tokM nmM 0 (by decide) w319 rfl rfl rfl (Nat.le_of_ble_eq_true rfl) d_M_off_13 (fun H locs hP hD hS => ?_)
  have hP : va_P D vwCl (MW dA h ad (MS.s_cod x 0)) H := hP
  have hD : va_D A (MW dA h ad (MS.s_cod x 0)) := hD
  refine lv_aload_n hx hb d_M_off_16 rfl (lv_at hl 0 rfl) ?_
  refine lv_iconst (v := 0) hx hb d_M_off_17 (by decide) ?_
  refine pF (v := .int (bI false)) hx hb hown hE hK hP hD hS 0 rfl rfl layM tyM tokM nmM 7 (by decide) w324 rfl (bI_nar false) (bI_fit false) (Nat.le_of_ble_eq_true rfl) d_M_off_18 (fun H locs hP hD hS => ?_)
  have hP : va_P D vwCl (MW dA h ad (MS.s_on (MS.s_cod x 0) false)) H := hP
  have hD : va_D A (MW dA h ad (MS.s_on (MS.s_cod x 0) false)) := hD
  exact rfV hx hb hr hlk hS () trivial hP hD (Nat.le_of_ble_eq_true rfl) (Nat.le_of_ble_eq_true rfl) d_M_off_21
theorem d_M_newSeries_0 : decode prog_14_method_28_code 0 = .ok (.aload_n 0, 1) := by decide +kernel
theorem d_M_newSeries_1 : decode prog_14_method_28_code 1 = .ok (.getfield 32, 3) := by decide +kernel
theorem d_M_newSeries_4 : decode prog_14_method_28_code 4 = .ok (.iload_n 1, 1) := by decide +kernel
theorem d_M_newSeries_5 : decode prog_14_method_28_code 5 = .ok (.iload_n 2, 1) := by decide +kernel
theorem d_M_newSeries_6 : decode prog_14_method_28_code 6 = .ok (.iastore, 1) := by decide +kernel
theorem d_M_newSeries_7 : decode prog_14_method_28_code 7 = .ok (.aload_n 0, 1) := by decide +kernel
theorem d_M_newSeries_8 : decode prog_14_method_28_code 8 = .ok (.getfield 36, 3) := by decide +kernel
theorem d_M_newSeries_11 : decode prog_14_method_28_code 11 = .ok (.iload_n 1, 1) := by decide +kernel
theorem d_M_newSeries_12 : decode prog_14_method_28_code 12 = .ok (.ldc2_w 232, 3) := by decide +kernel
theorem d_M_newSeries_15 : decode prog_14_method_28_code 15 = .ok (.lastore, 1) := by decide +kernel
theorem d_M_newSeries_16 : decode prog_14_method_28_code 16 = .ok (.aload_n 0, 1) := by decide +kernel
theorem d_M_newSeries_17 : decode prog_14_method_28_code 17 = .ok (.iload_n 1, 1) := by decide +kernel
theorem d_M_newSeries_18 : decode prog_14_method_28_code 18 = .ok (.iconst 1, 1) := by decide +kernel
theorem d_M_newSeries_19 : decode prog_14_method_28_code 19 = .ok (.iadd, 1) := by decide +kernel
theorem d_M_newSeries_20 : decode prog_14_method_28_code 20 = .ok (.putfield 160, 3) := by decide +kernel
theorem d_M_newSeries_23 : decode prog_14_method_28_code 23 = .ok (.return_, 1) := by decide +kernel
theorem w864 : Cond.constantLong "SeriesVaultModel" 232 (-1) ∈ aW := aw_of (tb_10 (List.mem_of_getElem? (i := 6) rfl)) rfl
set_option maxHeartbeats 4000000 in
set_option maxRecDepth 100000 in
theorem k_newSeries (l : Launch) (D : va_G) (dA : Nat → ClassId) (sz : Nat) (h : Nat) (ad : Nat → Nat) (x : MS) (q : Nat) (n : Nat) (hq : q < 256) : Met l ⟨"SeriesVaultModel", "newSeries", "(II)V"⟩ [Cond.code ⟨"SeriesVaultModel", "newSeries", "(II)V"⟩ prog_14_method_28_code 3 none] { frames := 1, cells := 0, slots := 0, locals := 0 } (pC D dA [.ref h, .int (nI q), .int (nI n)] (MW dA h ad x) sz) (va_Qv (fun (u9 : Unit) => True) (fun (u9 : Unit) t9 => bW D (va_A (MW dA h ad x) sz) (MW dA h ad (MS.s_lasts (MS.s_seriesCount (MS.s_textLengths x (va_up x.textLengths q n)) (q + 1)) (va_up x.lasts q (-1)))) t9) (va_A (MW dA h ad x) sz)) 0 0 (va_A (MW dA h ad x) sz) := by
  refine mkC (y := ⟨"SeriesVaultModel", "newSeries", "(II)V"⟩) (cc := prog_14_method_28_code) (maxL := 3) (av := [.ref h, .int (nI q), .int (nI n)]) (ws := MW dA h ad x) (sz := sz) (Qc := fun A => va_Qv (fun (u9 : Unit) => True) (fun (u9 : Unit) t9 => bW D A (MW dA h ad (MS.s_lasts (MS.s_seriesCount (MS.s_textLengths x (va_up x.textLengths q n)) (q + 1)) (va_up x.lasts q (-1)))) t9) A) (by decide) (Nat.le_of_ble_eq_true rfl) ?_
  intro A p e s m below meth c ls hsz hB
  obtain ⟨hx, hb, hr, hml, hown, hin, hlk, hE, hK, hP, hD, hS, hA, hN, hl⟩ := hB
  have hown : s.vm.findClass "SeriesVaultModel" = some m.cls := hown
  have hl : lv_has ls 3 [(0, .ref h), (1, .int (nI q)), (2, .int (nI n))] := hl
  obtain ⟨H, hH⟩ : ∃ z, z = s.heap := ⟨_, rfl⟩
  have hP : va_P D vwCl (MW dA h ad x) H := by rw [hH]; exact hP
  have hS : va_S A s.heap H [] := by rw [hH]; exact hS
  rw [← hH]
  refine lv_aload_n hx hb d_M_newSeries_0 rfl (lv_at hl 0 rfl) ?_
  refine gF (v := .ref (ad 11)) hx hb hown hE hK hP 0 rfl rfl layM 11 (by decide) w500 rfl d_M_newSeries_1 ?_
  refine lv_iload_n hx hb d_M_newSeries_4 rfl (lv_at hl 1 rfl) ?_
  refine lv_iload_n hx hb d_M_newSeries_5 rfl (lv_at hl 2 rfl) ?_
  refine nistN (v := n) hx hb hK hP hD hS 3 1 rfl rfl (q) (by omega) (by decide) d_M_newSeries_6 (fun H locs hP hD hS => ?_)
  have hP : va_P D vwCl (MW dA h ad (MS.s_textLengths x (va_up x.textLengths q n))) H := hP
  have hD : va_D A (MW dA h ad (MS.s_textLengths x (va_up x.textLengths q n))) := hD
  refine lv_aload_n hx hb d_M_newSeries_7 rfl (lv_at hl 0 rfl) ?_
  refine gF (v := .ref (ad 13)) hx hb hown hE hK hP 0 rfl rfl layM 13 (by decide) w501 rfl d_M_newSeries_8 ?_
  refine lv_iload_n hx hb d_M_newSeries_11 rfl (lv_at hl 1 rfl) ?_
  refine lv_ldc2 (v := (-1)) hx hb hown (hE.t w864 rfl) d_M_newSeries_12 ?_
  refine nlst hx hb hK hP hD hS 4 2 rfl rfl (q) (by omega) (by decide) d_M_newSeries_15 (fun H locs hP hD hS => ?_)
  have hP : va_P D vwCl (MW dA h ad (MS.s_lasts (MS.s_textLengths x (va_up x.textLengths q n)) (va_up x.lasts q (-1)))) H := hP
  have hD : va_D A (MW dA h ad (MS.s_lasts (MS.s_textLengths x (va_up x.textLengths q n)) (va_up x.lasts q (-1)))) := hD
  refine lv_aload_n hx hb d_M_newSeries_16 rfl (lv_at hl 0 rfl) ?_
  refine lv_iload_n hx hb d_M_newSeries_17 rfl (lv_at hl 1 rfl) ?_
  refine lv_iconst (v := 1) hx hb d_M_newSeries_18 (by decide) ?_
  refine lv_iadd hx hb d_M_newSeries_19 (tpi (y := nI (q + 1)) (nI_add (q) (1)) ?_)
  refine pF (v := .int (nI (q + 1))) hx hb hown hE hK hP hD hS 0 rfl rfl layM tyM tokM nmM 12 (by decide) w332 rfl rfl rfl (Nat.le_of_ble_eq_true rfl) d_M_newSeries_20 (fun H locs hP hD hS => ?_)
  have hP : va_P D vwCl (MW dA h ad (MS.s_lasts (MS.s_seriesCount (MS.s_textLengths x (va_up x.textLengths q n)) (q + 1)) (va_up x.lasts q (-1)))) H := hP
  have hD : va_D A (MW dA h ad (MS.s_lasts (MS.s_seriesCount (MS.s_textLengths x (va_up x.textLengths q n)) (q + 1)) (va_up x.lasts q (-1)))) := hD
  exact rfV hx hb hr hlk hS () trivial hP hD (Nat.le_of_ble_eq_true rfl) (Nat.le_of_ble_eq_true rfl) d_M_newSeries_23
end
section
/-- all below n -/
def allB (n : Nat) (f : Nat → Bool) : Bool := match n with
  | 0 => true
  | k + 1 => allB k f && f k
theorem allB_f {n k : Nat} {f : Nat → Bool} (h : allB k f = false) (hk : k ≤ n) : allB n f = false := by
  induction n with
  | zero => obtain rfl : k = 0 := by omega
            exact h
  | succ n ih =>
    by_cases e : k = n + 1
    · subst e; exact h
    · unfold allB; rw [ih (by omega)]; rfl
def sumN (n : Nat) (f : Nat → Nat) : Nat := match n with
  | 0 => 0
  | k + 1 => sumN k f + f k
theorem sumN_le {k n : Nat} (f : Nat → Nat) (h : k ≤ n) : sumN k f ≤ sumN n f := by
  induction n with
  | zero => obtain rfl : k = 0 := by omega
            exact Nat.le_refl _
  | succ n ih =>
    by_cases e : k = n + 1
    · subst e; exact Nat.le_refl _
    · have := ih (by omega)
      show sumN k f ≤ sumN n f + f n
      omega
theorem sumN_lt {k n : Nat} (f : Nat → Nat) (h : k < n) : sumN k f + f k ≤ sumN n f := sumN_le (k := k + 1) f h
/-- cuts after k writes -/
def cutN (z : Int32) : Nat → Int32
  | 0 => z
  | k + 1 => cutF (cutN z k)
/-- a change at every place below k of which c holds -/
def mapT {α : Type} (k : Nat) (c : Nat → Bool) (g f : Nat → α) : Nat → α := fun q => if q < k ∧ c q = true then g q else f q
theorem mapT_0 {α : Type} (c : Nat → Bool) (g f : Nat → α) : mapT 0 c g f = f := by
  funext q
  exact if_neg (fun h => absurd h.1 (Nat.not_lt_zero _))
theorem mapT_at {α : Type} {k q : Nat} (c : Nat → Bool) (g f : Nat → α) (h : k ≤ q) : mapT k c g f q = f q := if_neg (fun z => absurd z.1 (Nat.not_lt.mpr h))
theorem mapT_t {α : Type} {k : Nat} {c : Nat → Bool} {g f : Nat → α} {v : α} (h : c k = true) (hv : v = g k) : mapT (k + 1) c g f = va_up (mapT k c g f) k v := by
  funext q
  show (if q < k + 1 ∧ c q = true then g q else f q) = if q = k then v else (if q < k ∧ c q = true then g q else f q)
  by_cases e : q = k
  · subst e; subst hv; rw [if_pos ⟨Nat.lt_succ_self _, h⟩, if_pos rfl]
  · rw [if_neg e]
    by_cases z : q < k ∧ c q = true
    · rw [if_pos z, if_pos ⟨by omega, z.2⟩]
    · rw [if_neg z, if_neg (fun y => z ⟨by omega, y.2⟩)]
theorem mapT_f {α : Type} {k : Nat} {c : Nat → Bool} {g f : Nat → α} (h : c k = false) : mapT (k + 1) c g f = mapT k c g f := by
  funext q
  unfold mapT
  by_cases z : q < k ∧ c q = true
  · rw [if_pos z, if_pos ⟨by omega, z.2⟩]
  · rw [if_neg z, if_neg (fun y => by
      by_cases e : q = k
      · subst e; rw [h] at y; exact absurd y.2 (by decide)
      · exact z ⟨by omega, y.2⟩)]
/-- an array with the places below k put together that c lets stay -/
def tdT {α : Type} (c : Nat → Bool) (f : Nat → α) : Nat → Nat → α
  | 0 => f
  | k + 1 => if c k then va_up (tdT c f k) (cnt k c) (f k) else tdT c f k
theorem tdT_at {α : Type} (c : Nat → Bool) (f : Nat → α) {k q : Nat} (h : k ≤ q) : tdT c f k q = f q := by
  induction k with
  | zero => rfl
  | succ k ih =>
    unfold tdT
    split
    · have := cnt_le k c
      unfold va_up
      rw [if_neg (by omega)]
      exact ih (by omega)
    · exact ih (by omega)
theorem tdT_t {α : Type} {c : Nat → Bool} {f : Nat → α} {k : Nat} {v : α} (h : c k = true) (hv : v = f k) : tdT c f (k + 1) = va_up (tdT c f k) (cnt k c) v := by
  subst hv
  show (if c k then _ else _) = _
  rw [h]
  rfl
theorem tdT_f {α : Type} {c : Nat → Bool} {f : Nat → α} {k : Nat} (h : c k = false) : tdT c f (k + 1) = tdT c f k := by
  show (if c k then _ else _) = _
  rw [h]
  rfl
/-- the bytes of a feed -/
def fdB (a b c d e : Int32) (k : Nat) : Int32 := ((if 4 ≤ k then if 8 ≤ k then if 12 ≤ k then if 16 ≤ k then e else d else c else b else a) >>> (nI (24 - 8 * (k % 4)) &&& 31)).toInt8.toInt32
def fdT (a b c d e : Int32) (f : Nat → Int32) (n : Nat) : Nat → Nat → Int32
  | 0 => f
  | k + 1 => va_up (fdT a b c d e f n k) (n + k) (fdB a b c d e k)
/-- eight bytes -/
def numB (f : Nat → Int32) (q : Nat) : Nat → Int64
  | 0 => 0
  | k + 1 => ((numB f q k) <<< ((8 : Int32).toInt64 &&& 63)) ||| ((f (q + k) &&& 255).toInt64)
def MS.rBlock (x : MS) (n : Nat) : Nat := if x.used + n ≤ 126 then x.block else x.block + 1
def MS.rUsed (x : MS) (n : Nat) : Nat := if x.used + n ≤ 126 then x.used + n else n
def MS.rCut (x : MS) (n : Nat) : Int32 := if x.used + n ≤ 126 ∨ x.fresh = false then x.cutLeft else cutF x.cutLeft
def MS.rWr (x : MS) (n : Nat) : Nat := if x.used + n ≤ 126 ∨ x.fresh = false then x.written else x.written + 1
def MS.rKept (x : MS) (n : Nat) : Nat := if x.used + n ≤ 126 then x.kept else x.records
def MS.hit (x : MS) (w : Nat) (a b : Int64) (q : Nat) : Bool := decide (x.pointSeries q = w) && (x.seen q && (!decide (x.pointTimes q < a) && decide (x.pointTimes q ≤ b)))
theorem d_M_feed_13 : decode prog_14_method_3_code 13 = .ok (.iconst 1, 1) := by decide +kernel
theorem d_M_feed_14 : decode prog_14_method_3_code 14 = .ok (.goto 4, 3) := by decide +kernel
theorem d_M_feed_28 : decode prog_14_method_3_code 28 = .ok (.iconst 0, 1) := by decide +kernel
theorem d_M_feed_29 : decode prog_14_method_3_code 29 = .ok (.ireturn, 1) := by decide +kernel
set_option maxHeartbeats 4000000 in
set_option maxRecDepth 100000 in
theorem k_feed_x (l : Launch) (D : va_G) (dA : Nat → ClassId) (sz : Nat) (h : Nat) (ad : Nat → Nat) (x : MS) (a1 : Int32) (a2 : Int32) (a3 : Int32) (a4 : Int32) (a5 : Int32) (h1 : 65536 < x.length + 20) (h2 : x.length ≤ 65536) : Met l ⟨"SeriesVaultModel", "feed", "(IIIII)I"⟩ [Cond.code ⟨"SeriesVaultModel", "feed", "(IIIII)I"⟩ prog_14_method_3_code 8 (some FieldType.int)] { frames := 1, cells := 0, slots := 0, locals := 0 } (pC D dA [.ref h, .int a1, .int a2, .int a3, .int a4, .int a5] (MW dA h ad x) sz) (va_Qi (fun (r9 : Int32) (u9 : Unit) => r9 = 0) (fun (u9 : Unit) t9 => bW D (va_A (MW dA h ad x) sz) (MW dA h ad (MS.s_cod x 1)) t9) (va_A (MW dA h ad x) sz)) 0 0 (va_A (MW dA h ad x) sz) := by
  refine mkC (y := ⟨"SeriesVaultModel", "feed", "(IIIII)I"⟩) (cc := prog_14_method_3_code) (maxL := 8) (av := [.ref h, .int a1, .int a2, .int a3, .int a4, .int a5]) (ws := MW dA h ad x) (sz := sz) (Qc := fun A => va_Qi (fun (r9 : Int32) (u9 : Unit) => r9 = 0) (fun (u9 : Unit) t9 => bW D A (MW dA h ad (MS.s_cod x 1)) t9) A) (by decide) (Nat.le_of_ble_eq_true rfl) ?_
  intro A p e s m below meth c ls hsz hB
  obtain ⟨hx, hb, hr, hml, hown, hin, hlk, hE, hK, hP, hD, hS, hA, hN, hl⟩ := hB
  have hown : s.vm.findClass "SeriesVaultModel" = some m.cls := hown
  have hl : lv_has ls 8 [(0, .ref h), (1, .int a1), (2, .int a2), (3, .int a3), (4, .int a4), (5, .int a5)] := hl
  obtain ⟨H, hH⟩ : ∃ z, z = s.heap := ⟨_, rfl⟩
  have hP : va_P D vwCl (MW dA h ad x) H := by rw [hH]; exact hP
  have hS : va_S A s.heap H [] := by rw [hH]; exact hS
  rw [← hH]
  refine lv_aload_n hx hb d_M_feed_0 rfl (lv_at hl 0 rfl) ?_
  refine lv_aload_n hx hb d_M_feed_1 rfl (lv_at hl 0 rfl) ?_
  refine gF (v := .int (nI x.length)) hx hb hown hE hK hP 0 rfl rfl layM 2 (by decide) w320 rfl d_M_feed_2 ?_
  refine lv_bipush (v := 20) hx hb d_M_feed_5 (by decide) ?_
  refine lv_iadd hx hb d_M_feed_7 (tpi (y := nI (x.length + 20)) (nI_add (x.length) (20)) ?_)
  refine lv_ldc (v := 65536) hx hb hown (hE.t w495 rfl) d_M_feed_8 ?_
  refine lv_icmp_le hx hb d_M_feed_10 (tgt := 17) rfl (fun h9 => absurd h9 (mt (nI_leI (a := x.length + 20) (b := 65536) (by omega) (by omega)).mp (Nat.not_le.mpr h1))) (fun _ => ?_)
  refine lv_iconst (v := 1) hx hb d_M_feed_13 (by decide) ?_
  refine lv_goto hx hb d_M_feed_14 (tgt := 18) rfl ?_
  refine pF (v := .int 1) hx hb hown hE hK hP hD hS 0 rfl rfl layM tyM tokM nmM 0 (by decide) w319 rfl rfl rfl (Nat.le_of_ble_eq_true rfl) d_M_feed_18 (fun H locs hP hD hS => ?_)
  have hP : va_P D vwCl (MW dA h ad (MS.s_cod x 1)) H := hP
  have hD : va_D A (MW dA h ad (MS.s_cod x 1)) := hD
  refine lv_aload_n hx hb d_M_feed_21 rfl (lv_at hl 0 rfl) ?_
  refine gF (v := .int 1) hx hb hown hE hK hP 0 rfl rfl layM 0 (by decide) w319 rfl d_M_feed_22 ?_
  refine lv_if_le hx hb d_M_feed_25 (tgt := 30) rfl (fun h9 => absurd h9 (by decide)) (fun _ => ?_)
  refine lv_iconst (v := 0) hx hb d_M_feed_28 (by decide) ?_
  exact rfI hx hb hr hlk hS () rfl hP hD (Nat.le_of_ble_eq_true rfl) (Nat.le_of_ble_eq_true rfl) d_M_feed_29
set_option maxHeartbeats 4000000 in
set_option maxRecDepth 100000 in
theorem k_feed (l : Launch) (D : va_G) (dA : Nat → ClassId) (sz : Nat) (h : Nat) (ad : Nat → Nat) (x : MS) (a1 : Int32) (a2 : Int32) (a3 : Int32) (a4 : Int32) (a5 : Int32) (h1 : x.length + 20 ≤ 65536) : Met l ⟨"SeriesVaultModel", "feed", "(IIIII)I"⟩ [Cond.code ⟨"SeriesVaultModel", "feed", "(IIIII)I"⟩ prog_14_method_3_code 8 (some FieldType.int)] { frames := 1, cells := 0, slots := 0, locals := 0 } (pC D dA [.ref h, .int a1, .int a2, .int a3, .int a4, .int a5] (MW dA h ad x) sz) (va_Qi (fun (r9 : Int32) (u9 : Unit) => r9 = nI (x.length + 20)) (fun (u9 : Unit) t9 => bW D (va_A (MW dA h ad x) sz) (MW dA h ad (MS.s_length (MS.s_tape (MS.s_cod x 0) (fdT a1 a2 a3 a4 a5 x.tape x.length 20)) (x.length + 20))) t9) (va_A (MW dA h ad x) sz)) 0 0 (va_A (MW dA h ad x) sz) := by
  refine mkC (y := ⟨"SeriesVaultModel", "feed", "(IIIII)I"⟩) (cc := prog_14_method_3_code) (maxL := 8) (av := [.ref h, .int a1, .int a2, .int a3, .int a4, .int a5]) (ws := MW dA h ad x) (sz := sz) (Qc := fun A => va_Qi (fun (r9 : Int32) (u9 : Unit) => r9 = nI (x.length + 20)) (fun (u9 : Unit) t9 => bW D A (MW dA h ad (MS.s_length (MS.s_tape (MS.s_cod x 0) (fdT a1 a2 a3 a4 a5 x.tape x.length 20)) (x.length + 20))) t9) A) (by decide) (Nat.le_of_ble_eq_true rfl) ?_
  intro A p e s m below meth c ls hsz hB
  obtain ⟨hx, hb, hr, hml, hown, hin, hlk, hE, hK, hP, hD, hS, hA, hN, hl⟩ := hB
  have hown : s.vm.findClass "SeriesVaultModel" = some m.cls := hown
  have hl : lv_has ls 8 [(0, .ref h), (1, .int a1), (2, .int a2), (3, .int a3), (4, .int a4), (5, .int a5)] := hl
  obtain ⟨H, hH⟩ : ∃ z, z = s.heap := ⟨_, rfl⟩
  have hP : va_P D vwCl (MW dA h ad x) H := by rw [hH]; exact hP
  have hS : va_S A s.heap H [] := by rw [hH]; exact hS
  rw [← hH]
  refine lv_aload_n hx hb d_M_feed_0 rfl (lv_at hl 0 rfl) ?_
  refine lv_aload_n hx hb d_M_feed_1 rfl (lv_at hl 0 rfl) ?_
  refine gF (v := .int (nI x.length)) hx hb hown hE hK hP 0 rfl rfl layM 2 (by decide) w320 rfl d_M_feed_2 ?_
  refine lv_bipush (v := 20) hx hb d_M_feed_5 (by decide) ?_
  refine lv_iadd hx hb d_M_feed_7 (tpi (y := nI (x.length + 20)) (nI_add (x.length) (20)) ?_)
  refine lv_ldc (v := 65536) hx hb hown (hE.t w495 rfl) d_M_feed_8 ?_
  refine lv_icmp_le hx hb d_M_feed_10 (tgt := 17) rfl (fun _ => ?_) (fun h9 => absurd ((nI_leI (a := x.length + 20) (b := 65536) (by omega) (by omega)).mpr h1) h9)
  refine lv_iconst (v := 0) hx hb d_M_feed_17 (by decide) ?_
  refine pF (v := .int 0) hx hb hown hE hK hP hD hS 0 rfl rfl layM tyM tokM nmM 0 (by decide) w319 rfl rfl rfl (Nat.le_of_ble_eq_true rfl) d_M_feed_18 (fun H locs hP hD hS => ?_)
  have hP : va_P D vwCl (MW dA h ad (MS.s_cod x 0)) H := hP
  have hD : va_D A (MW dA h ad (MS.s_cod x 0)) := hD
  refine lv_aload_n hx hb d_M_feed_21 rfl (lv_at hl 0 rfl) ?_
  refine gF (v := .int 0) hx hb hown hE hK hP 0 rfl rfl layM 0 (by decide) w319 rfl d_M_feed_22 ?_
  refine lv_if_le hx hb d_M_feed_25 (tgt := 30) rfl (fun _ => ?_) (fun h9 => absurd (by decide) h9)
  refine lv_iconst (v := 0) hx hb d_M_feed_30 (by decide) ?_
  refine lv_istore hx hb d_M_feed_31 hl (by decide) rfl (fun ls hl => ?_)
  have hl : lv_has ls 8 [(6, .int 0), (0, .ref h), (1, .int a1), (2, .int a2), (3, .int a3), (4, .int a4), (5, .int a5)] := hl
  have L33 : ∀ (k9 : Nat) (k : Nat) (i1 : k ≤ 20) (hk9 : 20 - k = k9), ∀ (H : Heap) (locs : List Loc) (ls : Array Slot) (hP : va_P D vwCl (MW dA h ad (MS.s_length (MS.s_tape (MS.s_cod x 0) (fdT a1 a2 a3 a4 a5 x.tape x.length k)) (x.length + k))) H) (hD : va_D A (MW dA h ad (MS.s_length (MS.s_tape (MS.s_cod x 0) (fdT a1 a2 a3 a4 a5 x.tape x.length k)) (x.length + k)))) (hS : va_S A s.heap H locs) (hl : lv_has ls 8 [(6, .int (nI k)), (0, .ref h), (1, .int a1), (2, .int a2), (3, .int a3), (4, .int a4), (5, .int a5)]), W p l e ({ frames := 1, cells := 0, slots := 0, locals := 0 } : Room) s m ([.ref h, .int a1, .int a2, .int a3, .int a4, .int a5] : List Value).toArray below meth c H locs 0 0 (MQ below (va_Qi (fun (r9 : Int32) (u9 : Unit) => r9 = nI (x.length + 20)) (fun (u9 : Unit) t9 => bW D A (MW dA h ad (MS.s_length (MS.s_tape (MS.s_cod x 0) (fdT a1 a2 a3 a4 a5 x.tape x.length 20)) (x.length + 20))) t9) A) ([.ref h, .int a1, .int a2, .int a3, .int a4, .int a5] : List Value).toArray s 0 0 A) (F0 m 33 ls []) := by
    intro k9
    induction k9 using Nat.strongRecOn with
    | ind k9 ih33 =>
      intro k i1 hk9 H locs ls hP hD hS hl
      refine lv_iload hx hb d_M_feed_33 (lv_at hl 0 rfl) ?_
      refine lv_bipush (v := 20) hx hb d_M_feed_35 (by decide) ?_
      refine lv_icmp_ge hx hb d_M_feed_37 (tgt := 127) rfl (fun g1 => ?_) (fun g1 => ?_)
      · have g1 := (nI_leI (a := 20) (b := k) (by omega) (by omega)).mp g1
        refine lv_aload_n hx hb d_M_feed_127 rfl (lv_at hl 1 rfl) ?_
        refine gF (v := .int (nI (x.length + k))) hx hb hown hE hK hP 0 rfl rfl layM 2 (by decide) w320 rfl d_M_feed_128 ?_
        have e9 : (MS.s_length (MS.s_tape (MS.s_cod x 0) (fdT a1 a2 a3 a4 a5 x.tape x.length k)) (x.length + k) : MS) = MS.s_length (MS.s_tape (MS.s_cod x 0) (fdT a1 a2 a3 a4 a5 x.tape x.length 20)) (x.length + 20) := by rw [show (fdT a1 a2 a3 a4 a5 x.tape x.length 20) = (fdT a1 a2 a3 a4 a5 x.tape x.length k) from by (rw [show k = 20 by omega]), show (x.length + 20) = (x.length + k) from by (rw [show k = 20 by omega])] <;> rfl
        exact rfI hx hb hr hlk hS () (by rw [show k = 20 by omega]) (cvP e9 hP) (cvD e9 hD) (Nat.le_of_ble_eq_true rfl) (Nat.le_of_ble_eq_true rfl) d_M_feed_131
      · have g1 := mt (nI_leI (a := 20) (b := k) (by omega) (by omega)).mpr g1
        refine lv_iload hx hb d_M_feed_40 (lv_at hl 0 rfl) ?_
        refine lv_iconst (v := 4) hx hb d_M_feed_42 (by decide) ?_
        refine lv_icmp_ge hx hb d_M_feed_43 (tgt := 50) rfl (fun g2 => ?_) (fun g2 => ?_)
        · have g2 := (nI_leI (a := 4) (b := k) (by omega) (by omega)).mp g2
          refine lv_iload hx hb d_M_feed_50 (lv_at hl 0 rfl) ?_
          refine lv_bipush (v := 8) hx hb d_M_feed_52 (by decide) ?_
          refine lv_icmp_ge hx hb d_M_feed_54 (tgt := 61) rfl (fun g3 => ?_) (fun g3 => ?_)
          · have g3 := (nI_leI (a := 8) (b := k) (by omega) (by omega)).mp g3
            refine lv_iload hx hb d_M_feed_61 (lv_at hl 0 rfl) ?_
            refine lv_bipush (v := 12) hx hb d_M_feed_63 (by decide) ?_
            refine lv_icmp_ge hx hb d_M_feed_65 (tgt := 72) rfl (fun g4 => ?_) (fun g4 => ?_)
            · have g4 := (nI_leI (a := 12) (b := k) (by omega) (by omega)).mp g4
              refine lv_iload hx hb d_M_feed_72 (lv_at hl 0 rfl) ?_
              refine lv_bipush (v := 16) hx hb d_M_feed_74 (by decide) ?_
              refine lv_icmp_ge hx hb d_M_feed_76 (tgt := 84) rfl (fun g5 => ?_) (fun g5 => ?_)
              · have g5 := (nI_leI (a := 16) (b := k) (by omega) (by omega)).mp g5
                refine lv_iload hx hb d_M_feed_84 (lv_at hl 6 rfl) ?_
                refine lv_istore hx hb d_M_feed_86 hl (by decide) rfl (fun ls hl => ?_)
                have hl : lv_has ls 8 [(7, .int a5), (6, .int (nI k)), (0, .ref h), (1, .int a1), (2, .int a2), (3, .int a3), (4, .int a4), (5, .int a5)] := hl
                refine lv_aload_n hx hb d_M_feed_88 rfl (lv_at hl 2 rfl) ?_
                refine gF (v := .ref (ad 1)) hx hb hown hE hK hP 0 rfl rfl layM 1 (by decide) w497 rfl d_M_feed_89 ?_
                refine lv_aload_n hx hb d_M_feed_92 rfl (lv_at hl 2 rfl) ?_
                refine gF (v := .int (nI (x.length + k))) hx hb hown hE hK hP 0 rfl rfl layM 2 (by decide) w320 rfl d_M_feed_93 ?_
                refine lv_iload hx hb d_M_feed_96 (lv_at hl 0 rfl) ?_
                refine lv_bipush (v := 24) hx hb d_M_feed_98 (by decide) ?_
                refine lv_bipush (v := 8) hx hb d_M_feed_100 (by decide) ?_
                refine lv_iload hx hb d_M_feed_102 (lv_at hl 1 rfl) ?_
                refine lv_iconst (v := 4) hx hb d_M_feed_104 (by decide) ?_
                refine lv_irem hx hb d_M_feed_105 (by decide) (tpi (y := nI (k % 4)) (pk_rem (a := k) (d := 4) (by omega) (by omega) (by omega)) ?_)
                refine lv_imul hx hb d_M_feed_106 (tpi (y := nI (8 * (k % 4))) (pk_mul (8) (k % 4)) ?_)
                refine lv_isub hx hb d_M_feed_107 (tpi (y := nI (24 - (8 * (k % 4)))) (pk_sub (a := 24) (b := 8 * (k % 4)) (by omega)) ?_)
                refine lv_ishr hx hb d_M_feed_108 ?_
                refine lv_i2b hx hb d_M_feed_109 rfl ?_
                refine nbst hx hb hK hP hD hS 1 0 rfl rfl (x.length + k) (by omega) (by decide) ((a5 >>> (nI (24 - (8 * (k % 4))) &&& 31)).toInt8.toInt32) (pk_vb _) d_M_feed_110 (fun H locs hP hD hS => ?_)
                have hP : va_P D vwCl (MW dA h ad (MS.s_length (MS.s_tape (MS.s_cod x 0) (va_up (fdT a1 a2 a3 a4 a5 x.tape x.length k) (x.length + k) ((a5 >>> (nI (24 - (8 * (k % 4))) &&& 31)).toInt8.toInt32))) (x.length + k))) H := hP
                have hD : va_D A (MW dA h ad (MS.s_length (MS.s_tape (MS.s_cod x 0) (va_up (fdT a1 a2 a3 a4 a5 x.tape x.length k) (x.length + k) ((a5 >>> (nI (24 - (8 * (k % 4))) &&& 31)).toInt8.toInt32))) (x.length + k))) := hD
                refine lv_aload_n hx hb d_M_feed_111 rfl (lv_at hl 2 rfl) ?_
                refine lv_dup hx hb d_M_feed_112 rfl ?_
                refine gF (v := .int (nI (x.length + k))) hx hb hown hE hK hP 0 rfl rfl layM 2 (by decide) w320 rfl d_M_feed_113 ?_
                refine lv_iconst (v := 1) hx hb d_M_feed_116 (by decide) ?_
                refine lv_iadd hx hb d_M_feed_117 (tpi (y := nI (x.length + k + 1)) (nI_add (x.length + k) (1)) ?_)
                refine pF (v := .int (nI (x.length + k + 1))) hx hb hown hE hK hP hD hS 0 rfl rfl layM tyM tokM nmM 2 (by decide) w320 rfl rfl rfl (Nat.le_of_ble_eq_true rfl) d_M_feed_118 (fun H locs hP hD hS => ?_)
                have hP : va_P D vwCl (MW dA h ad (MS.s_length (MS.s_tape (MS.s_cod x 0) (va_up (fdT a1 a2 a3 a4 a5 x.tape x.length k) (x.length + k) ((a5 >>> (nI (24 - (8 * (k % 4))) &&& 31)).toInt8.toInt32))) (x.length + k + 1))) H := hP
                have hD : va_D A (MW dA h ad (MS.s_length (MS.s_tape (MS.s_cod x 0) (va_up (fdT a1 a2 a3 a4 a5 x.tape x.length k) (x.length + k) ((a5 >>> (nI (24 - (8 * (k % 4))) &&& 31)).toInt8.toInt32))) (x.length + k + 1))) := hD
                refine lv_iinc (k := 1) (v := nI (k + 1)) hx hb d_M_feed_121 hl rfl (iincN (k) 1 1 (by decide)) (by decide) rfl (fun ls hl => ?_)
                have hl : lv_has ls 8 [(6, .int (nI (k + 1))), (7, .int a5), (0, .ref h), (1, .int a1), (2, .int a2), (3, .int a3), (4, .int a4), (5, .int a5)] := hl
                refine lv_goto hx hb d_M_feed_124 (tgt := 33) rfl ?_
                have e9 : (MS.s_length (MS.s_tape (MS.s_cod x 0) (va_up (fdT a1 a2 a3 a4 a5 x.tape x.length k) (x.length + k) ((a5 >>> (nI (24 - (8 * (k % 4))) &&& 31)).toInt8.toInt32))) (x.length + k + 1) : MS) = MS.s_length (MS.s_tape (MS.s_cod x 0) (fdT a1 a2 a3 a4 a5 x.tape x.length (k + 1))) (x.length + (k + 1)) := by rw [show (fdT a1 a2 a3 a4 a5 x.tape x.length (k + 1)) = (va_up (fdT a1 a2 a3 a4 a5 x.tape x.length k) (x.length + k) ((a5 >>> (nI (24 - (8 * (k % 4))) &&& 31)).toInt8.toInt32)) from (by simp [fdT, fdB, *])] <;> rfl
                exact ih33 _ (by omega) (k + 1) (by omega) rfl H _ ls (cvP e9 hP) (cvD e9 hD) hS (lv_sub hl [0, 2, 3, 4, 5, 6, 7] rfl)
              · have g5 := mt (nI_leI (a := 16) (b := k) (by omega) (by omega)).mpr g5
                refine lv_iload hx hb d_M_feed_79 (lv_at hl 5 rfl) ?_
                refine lv_goto hx hb d_M_feed_81 (tgt := 86) rfl ?_
                refine lv_istore hx hb d_M_feed_86 hl (by decide) rfl (fun ls hl => ?_)
                have hl : lv_has ls 8 [(7, .int a4), (6, .int (nI k)), (0, .ref h), (1, .int a1), (2, .int a2), (3, .int a3), (4, .int a4), (5, .int a5)] := hl
                refine lv_aload_n hx hb d_M_feed_88 rfl (lv_at hl 2 rfl) ?_
                refine gF (v := .ref (ad 1)) hx hb hown hE hK hP 0 rfl rfl layM 1 (by decide) w497 rfl d_M_feed_89 ?_
                refine lv_aload_n hx hb d_M_feed_92 rfl (lv_at hl 2 rfl) ?_
                refine gF (v := .int (nI (x.length + k))) hx hb hown hE hK hP 0 rfl rfl layM 2 (by decide) w320 rfl d_M_feed_93 ?_
                refine lv_iload hx hb d_M_feed_96 (lv_at hl 0 rfl) ?_
                refine lv_bipush (v := 24) hx hb d_M_feed_98 (by decide) ?_
                refine lv_bipush (v := 8) hx hb d_M_feed_100 (by decide) ?_
                refine lv_iload hx hb d_M_feed_102 (lv_at hl 1 rfl) ?_
                refine lv_iconst (v := 4) hx hb d_M_feed_104 (by decide) ?_
                refine lv_irem hx hb d_M_feed_105 (by decide) (tpi (y := nI (k % 4)) (pk_rem (a := k) (d := 4) (by omega) (by omega) (by omega)) ?_)
                refine lv_imul hx hb d_M_feed_106 (tpi (y := nI (8 * (k % 4))) (pk_mul (8) (k % 4)) ?_)
                refine lv_isub hx hb d_M_feed_107 (tpi (y := nI (24 - (8 * (k % 4)))) (pk_sub (a := 24) (b := 8 * (k % 4)) (by omega)) ?_)
                refine lv_ishr hx hb d_M_feed_108 ?_
                refine lv_i2b hx hb d_M_feed_109 rfl ?_
                refine nbst hx hb hK hP hD hS 1 0 rfl rfl (x.length + k) (by omega) (by decide) ((a4 >>> (nI (24 - (8 * (k % 4))) &&& 31)).toInt8.toInt32) (pk_vb _) d_M_feed_110 (fun H locs hP hD hS => ?_)
                have hP : va_P D vwCl (MW dA h ad (MS.s_length (MS.s_tape (MS.s_cod x 0) (va_up (fdT a1 a2 a3 a4 a5 x.tape x.length k) (x.length + k) ((a4 >>> (nI (24 - (8 * (k % 4))) &&& 31)).toInt8.toInt32))) (x.length + k))) H := hP
                have hD : va_D A (MW dA h ad (MS.s_length (MS.s_tape (MS.s_cod x 0) (va_up (fdT a1 a2 a3 a4 a5 x.tape x.length k) (x.length + k) ((a4 >>> (nI (24 - (8 * (k % 4))) &&& 31)).toInt8.toInt32))) (x.length + k))) := hD
                refine lv_aload_n hx hb d_M_feed_111 rfl (lv_at hl 2 rfl) ?_
                refine lv_dup hx hb d_M_feed_112 rfl ?_
                refine gF (v := .int (nI (x.length + k))) hx hb hown hE hK hP 0 rfl rfl layM 2 (by decide) w320 rfl d_M_feed_113 ?_
                refine lv_iconst (v := 1) hx hb d_M_feed_116 (by decide) ?_
                refine lv_iadd hx hb d_M_feed_117 (tpi (y := nI (x.length + k + 1)) (nI_add (x.length + k) (1)) ?_)
                refine pF (v := .int (nI (x.length + k + 1))) hx hb hown hE hK hP hD hS 0 rfl rfl layM tyM tokM nmM 2 (by decide) w320 rfl rfl rfl (Nat.le_of_ble_eq_true rfl) d_M_feed_118 (fun H locs hP hD hS => ?_)
                have hP : va_P D vwCl (MW dA h ad (MS.s_length (MS.s_tape (MS.s_cod x 0) (va_up (fdT a1 a2 a3 a4 a5 x.tape x.length k) (x.length + k) ((a4 >>> (nI (24 - (8 * (k % 4))) &&& 31)).toInt8.toInt32))) (x.length + k + 1))) H := hP
                have hD : va_D A (MW dA h ad (MS.s_length (MS.s_tape (MS.s_cod x 0) (va_up (fdT a1 a2 a3 a4 a5 x.tape x.length k) (x.length + k) ((a4 >>> (nI (24 - (8 * (k % 4))) &&& 31)).toInt8.toInt32))) (x.length + k + 1))) := hD
                refine lv_iinc (k := 1) (v := nI (k + 1)) hx hb d_M_feed_121 hl rfl (iincN (k) 1 1 (by decide)) (by decide) rfl (fun ls hl => ?_)
                have hl : lv_has ls 8 [(6, .int (nI (k + 1))), (7, .int a4), (0, .ref h), (1, .int a1), (2, .int a2), (3, .int a3), (4, .int a4), (5, .int a5)] := hl
                refine lv_goto hx hb d_M_feed_124 (tgt := 33) rfl ?_
                have e9 : (MS.s_length (MS.s_tape (MS.s_cod x 0) (va_up (fdT a1 a2 a3 a4 a5 x.tape x.length k) (x.length + k) ((a4 >>> (nI (24 - (8 * (k % 4))) &&& 31)).toInt8.toInt32))) (x.length + k + 1) : MS) = MS.s_length (MS.s_tape (MS.s_cod x 0) (fdT a1 a2 a3 a4 a5 x.tape x.length (k + 1))) (x.length + (k + 1)) := by rw [show (fdT a1 a2 a3 a4 a5 x.tape x.length (k + 1)) = (va_up (fdT a1 a2 a3 a4 a5 x.tape x.length k) (x.length + k) ((a4 >>> (nI (24 - (8 * (k % 4))) &&& 31)).toInt8.toInt32)) from (by simp [fdT, fdB, *])] <;> rfl
                exact ih33 _ (by omega) (k + 1) (by omega) rfl H _ ls (cvP e9 hP) (cvD e9 hD) hS (lv_sub hl [0, 2, 3, 4, 5, 6, 7] rfl)
            · have g4 := mt (nI_leI (a := 12) (b := k) (by omega) (by omega)).mpr g4
              refine lv_iload_n hx hb d_M_feed_68 rfl (lv_at hl 4 rfl) ?_
              refine lv_goto hx hb d_M_feed_69 (tgt := 86) rfl ?_
              refine lv_istore hx hb d_M_feed_86 hl (by decide) rfl (fun ls hl => ?_)
              have hl : lv_has ls 8 [(7, .int a3), (6, .int (nI k)), (0, .ref h), (1, .int a1), (2, .int a2), (3, .int a3), (4, .int a4), (5, .int a5)] := hl
              refine lv_aload_n hx hb d_M_feed_88 rfl (lv_at hl 2 rfl) ?_
              refine gF (v := .ref (ad 1)) hx hb hown hE hK hP 0 rfl rfl layM 1 (by decide) w497 rfl d_M_feed_89 ?_
              refine lv_aload_n hx hb d_M_feed_92 rfl (lv_at hl 2 rfl) ?_
              refine gF (v := .int (nI (x.length + k))) hx hb hown hE hK hP 0 rfl rfl layM 2 (by decide) w320 rfl d_M_feed_93 ?_
              refine lv_iload hx hb d_M_feed_96 (lv_at hl 0 rfl) ?_
              refine lv_bipush (v := 24) hx hb d_M_feed_98 (by decide) ?_
              refine lv_bipush (v := 8) hx hb d_M_feed_100 (by decide) ?_
              refine lv_iload hx hb d_M_feed_102 (lv_at hl 1 rfl) ?_
              refine lv_iconst (v := 4) hx hb d_M_feed_104 (by decide) ?_
              refine lv_irem hx hb d_M_feed_105 (by decide) (tpi (y := nI (k % 4)) (pk_rem (a := k) (d := 4) (by omega) (by omega) (by omega)) ?_)
              refine lv_imul hx hb d_M_feed_106 (tpi (y := nI (8 * (k % 4))) (pk_mul (8) (k % 4)) ?_)
              refine lv_isub hx hb d_M_feed_107 (tpi (y := nI (24 - (8 * (k % 4)))) (pk_sub (a := 24) (b := 8 * (k % 4)) (by omega)) ?_)
              refine lv_ishr hx hb d_M_feed_108 ?_
              refine lv_i2b hx hb d_M_feed_109 rfl ?_
              refine nbst hx hb hK hP hD hS 1 0 rfl rfl (x.length + k) (by omega) (by decide) ((a3 >>> (nI (24 - (8 * (k % 4))) &&& 31)).toInt8.toInt32) (pk_vb _) d_M_feed_110 (fun H locs hP hD hS => ?_)
              have hP : va_P D vwCl (MW dA h ad (MS.s_length (MS.s_tape (MS.s_cod x 0) (va_up (fdT a1 a2 a3 a4 a5 x.tape x.length k) (x.length + k) ((a3 >>> (nI (24 - (8 * (k % 4))) &&& 31)).toInt8.toInt32))) (x.length + k))) H := hP
              have hD : va_D A (MW dA h ad (MS.s_length (MS.s_tape (MS.s_cod x 0) (va_up (fdT a1 a2 a3 a4 a5 x.tape x.length k) (x.length + k) ((a3 >>> (nI (24 - (8 * (k % 4))) &&& 31)).toInt8.toInt32))) (x.length + k))) := hD
              refine lv_aload_n hx hb d_M_feed_111 rfl (lv_at hl 2 rfl) ?_
              refine lv_dup hx hb d_M_feed_112 rfl ?_
              refine gF (v := .int (nI (x.length + k))) hx hb hown hE hK hP 0 rfl rfl layM 2 (by decide) w320 rfl d_M_feed_113 ?_
              refine lv_iconst (v := 1) hx hb d_M_feed_116 (by decide) ?_
              refine lv_iadd hx hb d_M_feed_117 (tpi (y := nI (x.length + k + 1)) (nI_add (x.length + k) (1)) ?_)
              refine pF (v := .int (nI (x.length + k + 1))) hx hb hown hE hK hP hD hS 0 rfl rfl layM tyM tokM nmM 2 (by decide) w320 rfl rfl rfl (Nat.le_of_ble_eq_true rfl) d_M_feed_118 (fun H locs hP hD hS => ?_)
              have hP : va_P D vwCl (MW dA h ad (MS.s_length (MS.s_tape (MS.s_cod x 0) (va_up (fdT a1 a2 a3 a4 a5 x.tape x.length k) (x.length + k) ((a3 >>> (nI (24 - (8 * (k % 4))) &&& 31)).toInt8.toInt32))) (x.length + k + 1))) H := hP
              have hD : va_D A (MW dA h ad (MS.s_length (MS.s_tape (MS.s_cod x 0) (va_up (fdT a1 a2 a3 a4 a5 x.tape x.length k) (x.length + k) ((a3 >>> (nI (24 - (8 * (k % 4))) &&& 31)).toInt8.toInt32))) (x.length + k + 1))) := hD
              refine lv_iinc (k := 1) (v := nI (k + 1)) hx hb d_M_feed_121 hl rfl (iincN (k) 1 1 (by decide)) (by decide) rfl (fun ls hl => ?_)
              have hl : lv_has ls 8 [(6, .int (nI (k + 1))), (7, .int a3), (0, .ref h), (1, .int a1), (2, .int a2), (3, .int a3), (4, .int a4), (5, .int a5)] := hl
              refine lv_goto hx hb d_M_feed_124 (tgt := 33) rfl ?_
              have e9 : (MS.s_length (MS.s_tape (MS.s_cod x 0) (va_up (fdT a1 a2 a3 a4 a5 x.tape x.length k) (x.length + k) ((a3 >>> (nI (24 - (8 * (k % 4))) &&& 31)).toInt8.toInt32))) (x.length + k + 1) : MS) = MS.s_length (MS.s_tape (MS.s_cod x 0) (fdT a1 a2 a3 a4 a5 x.tape x.length (k + 1))) (x.length + (k + 1)) := by rw [show (fdT a1 a2 a3 a4 a5 x.tape x.length (k + 1)) = (va_up (fdT a1 a2 a3 a4 a5 x.tape x.length k) (x.length + k) ((a3 >>> (nI (24 - (8 * (k % 4))) &&& 31)).toInt8.toInt32)) from (by simp [fdT, fdB, *])] <;> rfl
              exact ih33 _ (by omega) (k + 1) (by omega) rfl H _ ls (cvP e9 hP) (cvD e9 hD) hS (lv_sub hl [0, 2, 3, 4, 5, 6, 7] rfl)
          · have g3 := mt (nI_leI (a := 8) (b := k) (by omega) (by omega)).mpr g3
            refine lv_iload_n hx hb d_M_feed_57 rfl (lv_at hl 3 rfl) ?_
            refine lv_goto hx hb d_M_feed_58 (tgt := 86) rfl ?_
            refine lv_istore hx hb d_M_feed_86 hl (by decide) rfl (fun ls hl => ?_)
            have hl : lv_has ls 8 [(7, .int a2), (6, .int (nI k)), (0, .ref h), (1, .int a1), (2, .int a2), (3, .int a3), (4, .int a4), (5, .int a5)] := hl
            refine lv_aload_n hx hb d_M_feed_88 rfl (lv_at hl 2 rfl) ?_
            refine gF (v := .ref (ad 1)) hx hb hown hE hK hP 0 rfl rfl layM 1 (by decide) w497 rfl d_M_feed_89 ?_
            refine lv_aload_n hx hb d_M_feed_92 rfl (lv_at hl 2 rfl) ?_
            refine gF (v := .int (nI (x.length + k))) hx hb hown hE hK hP 0 rfl rfl layM 2 (by decide) w320 rfl d_M_feed_93 ?_
            refine lv_iload hx hb d_M_feed_96 (lv_at hl 0 rfl) ?_
            refine lv_bipush (v := 24) hx hb d_M_feed_98 (by decide) ?_
            refine lv_bipush (v := 8) hx hb d_M_feed_100 (by decide) ?_
            refine lv_iload hx hb d_M_feed_102 (lv_at hl 1 rfl) ?_
            refine lv_iconst (v := 4) hx hb d_M_feed_104 (by decide) ?_
            refine lv_irem hx hb d_M_feed_105 (by decide) (tpi (y := nI (k % 4)) (pk_rem (a := k) (d := 4) (by omega) (by omega) (by omega)) ?_)
            refine lv_imul hx hb d_M_feed_106 (tpi (y := nI (8 * (k % 4))) (pk_mul (8) (k % 4)) ?_)
            refine lv_isub hx hb d_M_feed_107 (tpi (y := nI (24 - (8 * (k % 4)))) (pk_sub (a := 24) (b := 8 * (k % 4)) (by omega)) ?_)
            refine lv_ishr hx hb d_M_feed_108 ?_
            refine lv_i2b hx hb d_M_feed_109 rfl ?_
            refine nbst hx hb hK hP hD hS 1 0 rfl rfl (x.length + k) (by omega) (by decide) ((a2 >>> (nI (24 - (8 * (k % 4))) &&& 31)).toInt8.toInt32) (pk_vb _) d_M_feed_110 (fun H locs hP hD hS => ?_)
            have hP : va_P D vwCl (MW dA h ad (MS.s_length (MS.s_tape (MS.s_cod x 0) (va_up (fdT a1 a2 a3 a4 a5 x.tape x.length k) (x.length + k) ((a2 >>> (nI (24 - (8 * (k % 4))) &&& 31)).toInt8.toInt32))) (x.length + k))) H := hP
            have hD : va_D A (MW dA h ad (MS.s_length (MS.s_tape (MS.s_cod x 0) (va_up (fdT a1 a2 a3 a4 a5 x.tape x.length k) (x.length + k) ((a2 >>> (nI (24 - (8 * (k % 4))) &&& 31)).toInt8.toInt32))) (x.length + k))) := hD
            refine lv_aload_n hx hb d_M_feed_111 rfl (lv_at hl 2 rfl) ?_
            refine lv_dup hx hb d_M_feed_112 rfl ?_
            refine gF (v := .int (nI (x.length + k))) hx hb hown hE hK hP 0 rfl rfl layM 2 (by decide) w320 rfl d_M_feed_113 ?_
            refine lv_iconst (v := 1) hx hb d_M_feed_116 (by decide) ?_
            refine lv_iadd hx hb d_M_feed_117 (tpi (y := nI (x.length + k + 1)) (nI_add (x.length + k) (1)) ?_)
            refine pF (v := .int (nI (x.length + k + 1))) hx hb hown hE hK hP hD hS 0 rfl rfl layM tyM tokM nmM 2 (by decide) w320 rfl rfl rfl (Nat.le_of_ble_eq_true rfl) d_M_feed_118 (fun H locs hP hD hS => ?_)
            have hP : va_P D vwCl (MW dA h ad (MS.s_length (MS.s_tape (MS.s_cod x 0) (va_up (fdT a1 a2 a3 a4 a5 x.tape x.length k) (x.length + k) ((a2 >>> (nI (24 - (8 * (k % 4))) &&& 31)).toInt8.toInt32))) (x.length + k + 1))) H := hP
            have hD : va_D A (MW dA h ad (MS.s_length (MS.s_tape (MS.s_cod x 0) (va_up (fdT a1 a2 a3 a4 a5 x.tape x.length k) (x.length + k) ((a2 >>> (nI (24 - (8 * (k % 4))) &&& 31)).toInt8.toInt32))) (x.length + k + 1))) := hD
            refine lv_iinc (k := 1) (v := nI (k + 1)) hx hb d_M_feed_121 hl rfl (iincN (k) 1 1 (by decide)) (by decide) rfl (fun ls hl => ?_)
            have hl : lv_has ls 8 [(6, .int (nI (k + 1))), (7, .int a2), (0, .ref h), (1, .int a1), (2, .int a2), (3, .int a3), (4, .int a4), (5, .int a5)] := hl
            refine lv_goto hx hb d_M_feed_124 (tgt := 33) rfl ?_
            have e9 : (MS.s_length (MS.s_tape (MS.s_cod x 0) (va_up (fdT a1 a2 a3 a4 a5 x.tape x.length k) (x.length + k) ((a2 >>> (nI (24 - (8 * (k % 4))) &&& 31)).toInt8.toInt32))) (x.length + k + 1) : MS) = MS.s_length (MS.s_tape (MS.s_cod x 0) (fdT a1 a2 a3 a4 a5 x.tape x.length (k + 1))) (x.length + (k + 1)) := by rw [show (fdT a1 a2 a3 a4 a5 x.tape x.length (k + 1)) = (va_up (fdT a1 a2 a3 a4 a5 x.tape x.length k) (x.length + k) ((a2 >>> (nI (24 - (8 * (k % 4))) &&& 31)).toInt8.toInt32)) from (by simp [fdT, fdB, *])] <;> rfl
            exact ih33 _ (by omega) (k + 1) (by omega) rfl H _ ls (cvP e9 hP) (cvD e9 hD) hS (lv_sub hl [0, 2, 3, 4, 5, 6, 7] rfl)
        · have g2 := mt (nI_leI (a := 4) (b := k) (by omega) (by omega)).mpr g2
          refine lv_iload_n hx hb d_M_feed_46 rfl (lv_at hl 2 rfl) ?_
          refine lv_goto hx hb d_M_feed_47 (tgt := 86) rfl ?_
          refine lv_istore hx hb d_M_feed_86 hl (by decide) rfl (fun ls hl => ?_)
          have hl : lv_has ls 8 [(7, .int a1), (6, .int (nI k)), (0, .ref h), (1, .int a1), (2, .int a2), (3, .int a3), (4, .int a4), (5, .int a5)] := hl
          refine lv_aload_n hx hb d_M_feed_88 rfl (lv_at hl 2 rfl) ?_
          refine gF (v := .ref (ad 1)) hx hb hown hE hK hP 0 rfl rfl layM 1 (by decide) w497 rfl d_M_feed_89 ?_
          refine lv_aload_n hx hb d_M_feed_92 rfl (lv_at hl 2 rfl) ?_
          refine gF (v := .int (nI (x.length + k))) hx hb hown hE hK hP 0 rfl rfl layM 2 (by decide) w320 rfl d_M_feed_93 ?_
          refine lv_iload hx hb d_M_feed_96 (lv_at hl 0 rfl) ?_
          refine lv_bipush (v := 24) hx hb d_M_feed_98 (by decide) ?_
          refine lv_bipush (v := 8) hx hb d_M_feed_100 (by decide) ?_
          refine lv_iload hx hb d_M_feed_102 (lv_at hl 1 rfl) ?_
          refine lv_iconst (v := 4) hx hb d_M_feed_104 (by decide) ?_
          refine lv_irem hx hb d_M_feed_105 (by decide) (tpi (y := nI (k % 4)) (pk_rem (a := k) (d := 4) (by omega) (by omega) (by omega)) ?_)
          refine lv_imul hx hb d_M_feed_106 (tpi (y := nI (8 * (k % 4))) (pk_mul (8) (k % 4)) ?_)
          refine lv_isub hx hb d_M_feed_107 (tpi (y := nI (24 - (8 * (k % 4)))) (pk_sub (a := 24) (b := 8 * (k % 4)) (by omega)) ?_)
          refine lv_ishr hx hb d_M_feed_108 ?_
          refine lv_i2b hx hb d_M_feed_109 rfl ?_
          refine nbst hx hb hK hP hD hS 1 0 rfl rfl (x.length + k) (by omega) (by decide) ((a1 >>> (nI (24 - (8 * (k % 4))) &&& 31)).toInt8.toInt32) (pk_vb _) d_M_feed_110 (fun H locs hP hD hS => ?_)
          have hP : va_P D vwCl (MW dA h ad (MS.s_length (MS.s_tape (MS.s_cod x 0) (va_up (fdT a1 a2 a3 a4 a5 x.tape x.length k) (x.length + k) ((a1 >>> (nI (24 - (8 * (k % 4))) &&& 31)).toInt8.toInt32))) (x.length + k))) H := hP
          have hD : va_D A (MW dA h ad (MS.s_length (MS.s_tape (MS.s_cod x 0) (va_up (fdT a1 a2 a3 a4 a5 x.tape x.length k) (x.length + k) ((a1 >>> (nI (24 - (8 * (k % 4))) &&& 31)).toInt8.toInt32))) (x.length + k))) := hD
          refine lv_aload_n hx hb d_M_feed_111 rfl (lv_at hl 2 rfl) ?_
          refine lv_dup hx hb d_M_feed_112 rfl ?_
          refine gF (v := .int (nI (x.length + k))) hx hb hown hE hK hP 0 rfl rfl layM 2 (by decide) w320 rfl d_M_feed_113 ?_
          refine lv_iconst (v := 1) hx hb d_M_feed_116 (by decide) ?_
          refine lv_iadd hx hb d_M_feed_117 (tpi (y := nI (x.length + k + 1)) (nI_add (x.length + k) (1)) ?_)
          refine pF (v := .int (nI (x.length + k + 1))) hx hb hown hE hK hP hD hS 0 rfl rfl layM tyM tokM nmM 2 (by decide) w320 rfl rfl rfl (Nat.le_of_ble_eq_true rfl) d_M_feed_118 (fun H locs hP hD hS => ?_)
          have hP : va_P D vwCl (MW dA h ad (MS.s_length (MS.s_tape (MS.s_cod x 0) (va_up (fdT a1 a2 a3 a4 a5 x.tape x.length k) (x.length + k) ((a1 >>> (nI (24 - (8 * (k % 4))) &&& 31)).toInt8.toInt32))) (x.length + k + 1))) H := hP
          have hD : va_D A (MW dA h ad (MS.s_length (MS.s_tape (MS.s_cod x 0) (va_up (fdT a1 a2 a3 a4 a5 x.tape x.length k) (x.length + k) ((a1 >>> (nI (24 - (8 * (k % 4))) &&& 31)).toInt8.toInt32))) (x.length + k + 1))) := hD
          refine lv_iinc (k := 1) (v := nI (k + 1)) hx hb d_M_feed_121 hl rfl (iincN (k) 1 1 (by decide)) (by decide) rfl (fun ls hl => ?_)
          have hl : lv_has ls 8 [(6, .int (nI (k + 1))), (7, .int a1), (0, .ref h), (1, .int a1), (2, .int a2), (3, .int a3), (4, .int a4), (5, .int a5)] := hl
          refine lv_goto hx hb d_M_feed_124 (tgt := 33) rfl ?_
          have e9 : (MS.s_length (MS.s_tape (MS.s_cod x 0) (va_up (fdT a1 a2 a3 a4 a5 x.tape x.length k) (x.length + k) ((a1 >>> (nI (24 - (8 * (k % 4))) &&& 31)).toInt8.toInt32))) (x.length + k + 1) : MS) = MS.s_length (MS.s_tape (MS.s_cod x 0) (fdT a1 a2 a3 a4 a5 x.tape x.length (k + 1))) (x.length + (k + 1)) := by rw [show (fdT a1 a2 a3 a4 a5 x.tape x.length (k + 1)) = (va_up (fdT a1 a2 a3 a4 a5 x.tape x.length k) (x.length + k) ((a1 >>> (nI (24 - (8 * (k % 4))) &&& 31)).toInt8.toInt32)) from (by simp [fdT, fdB, *])] <;> rfl
          exact ih33 _ (by omega) (k + 1) (by omega) rfl H _ ls (cvP e9 hP) (cvD e9 hD) hS (lv_sub hl [0, 2, 3, 4, 5, 6, 7] rfl)
  have e9 : (MS.s_cod x 0 : MS) = MS.s_length (MS.s_tape (MS.s_cod x 0) (fdT a1 a2 a3 a4 a5 x.tape x.length 0)) (x.length + 0) := by rw [show (fdT a1 a2 a3 a4 a5 x.tape x.length 0) = x.tape from (by simp [fdT, fdB, *])] <;> rfl
  exact L33 _ 0 (by omega) rfl H _ ls (cvP e9 hP) (cvD e9 hD) hS (lv_sub hl [0, 1, 2, 3, 4, 5, 6] rfl)
theorem d_M_write_855_0 : decode prog_14_method_8_code 0 = .ok (.iconst 1, 1) := by decide +kernel
theorem d_M_write_855_1 : decode prog_14_method_8_code 1 = .ok (.istore_n 2, 1) := by decide +kernel
theorem d_M_write_855_2 : decode prog_14_method_8_code 2 = .ok (.iconst 0, 1) := by decide +kernel
theorem d_M_write_855_3 : decode prog_14_method_8_code 3 = .ok (.istore_n 3, 1) := by decide +kernel
theorem d_M_write_855_4 : decode prog_14_method_8_code 4 = .ok (.iload_n 3, 1) := by decide +kernel
theorem d_M_write_855_5 : decode prog_14_method_8_code 5 = .ok (.iload_n 1, 1) := by decide +kernel
theorem d_M_write_855_6 : decode prog_14_method_8_code 6 = .ok (.if_icmp .ge 18, 3) := by decide +kernel
theorem d_M_write_855_24 : decode prog_14_method_8_code 24 = .ok (.iload_n 2, 1) := by decide +kernel
theorem d_M_write_855_25 : decode prog_14_method_8_code 25 = .ok (.ireturn, 1) := by decide +kernel
theorem d_M_write_855_9 : decode prog_14_method_8_code 9 = .ok (.iload_n 2, 1) := by decide +kernel
theorem d_M_write_855_10 : decode prog_14_method_8_code 10 = .ok (.ifCond .eq 14, 3) := by decide +kernel
theorem d_M_write_855_13 : decode prog_14_method_8_code 13 = .ok (.aload_n 0, 1) := by decide +kernel
theorem d_M_write_855_14 : decode prog_14_method_8_code 14 = .ok (.invokevirtual 200, 3) := by decide +kernel
theorem d_M_write_855_17 : decode prog_14_method_8_code 17 = .ok (.istore_n 2, 1) := by decide +kernel
theorem d_M_write_855_18 : decode prog_14_method_8_code 18 = .ok (.iinc 3 1, 3) := by decide +kernel
theorem d_M_write_855_21 : decode prog_14_method_8_code 21 = .ok (.goto (-17), 3) := by decide +kernel
set_option maxHeartbeats 4000000 in
set_option maxRecDepth 100000 in
theorem k_write_n (l : Launch) (D : va_G) (dA : Nat → ClassId) (sz : Nat) (h : Nat) (ad : Nat → Nat) (x : MS) (n : Nat) (hn : n < 2 ^ 31) (hz : ∀ j : Nat, j < n → ¬ cutN x.cutLeft j = 0) : Met l ⟨"SeriesVaultModel", "write", "(I)Z"⟩ [Cond.code ⟨"SeriesVaultModel", "write", "(I)Z"⟩ prog_14_method_8_code 4 (some FieldType.boolean)] { frames := 2, cells := 0, slots := 0, locals := 20 } (pC D dA [.ref h, .int (nI n)] (MW dA h ad x) sz) (va_Qi (fun (r9 : Int32) (u9 : Unit) => r9 = bI true) (fun (u9 : Unit) t9 => bW D (va_A (MW dA h ad x) sz) (MW dA h ad (MS.s_written (MS.s_cutLeft x (cutN x.cutLeft n)) (x.written + n))) t9) (va_A (MW dA h ad x) sz)) 0 0 (va_A (MW dA h ad x) sz) := by
  refine mkC (y := ⟨"SeriesVaultModel", "write", "(I)Z"⟩) (cc := prog_14_method_8_code) (maxL := 4) (av := [.ref h, .int (nI n)]) (ws := MW dA h ad x) (sz := sz) (Qc := fun A => va_Qi (fun (r9 : Int32) (u9 : Unit) => r9 = bI true) (fun (u9 : Unit) t9 => bW D A (MW dA h ad (MS.s_written (MS.s_cutLeft x (cutN x.cutLeft n)) (x.written + n))) t9) A) (by decide) (Nat.le_of_ble_eq_true rfl) ?_
  intro A p e s m below meth c ls hsz hB
  obtain ⟨hx, hb, hr, hml, hown, hin, hlk, hE, hK, hP, hD, hS, hA, hN, hl⟩ := hB
  have hown : s.vm.findClass "SeriesVaultModel" = some m.cls := hown
  have hl : lv_has ls 4 [(0, .ref h), (1, .int (nI n))] := hl
  obtain ⟨H, hH⟩ : ∃ z, z = s.heap := ⟨_, rfl⟩
  have hP : va_P D vwCl (MW dA h ad x) H := by rw [hH]; exact hP
  have hS : va_S A s.heap H [] := by rw [hH]; exact hS
  rw [← hH]
  refine lv_iconst (v := 1) hx hb d_M_write_855_0 (by decide) ?_
  refine lv_istore_n hx hb d_M_write_855_1 rfl hl (by decide) rfl (fun ls hl => ?_)
  have hl : lv_has ls 4 [(2, .int 1), (0, .ref h), (1, .int (nI n))] := hl
  refine lv_iconst (v := 0) hx hb d_M_write_855_2 (by decide) ?_
  refine lv_istore_n hx hb d_M_write_855_3 rfl hl (by decide) rfl (fun ls hl => ?_)
  have hl : lv_has ls 4 [(3, .int 0), (2, .int 1), (0, .ref h), (1, .int (nI n))] := hl
  have L4 : ∀ (k9 : Nat) (k : Nat) (i1 : k ≤ n) (hk9 : n - k = k9), ∀ (H : Heap) (locs : List Loc) (ls : Array Slot) (hP : va_P D vwCl (MW dA h ad (MS.s_written (MS.s_cutLeft x (cutN x.cutLeft k)) (x.written + k))) H) (hD : va_D A (MW dA h ad (MS.s_written (MS.s_cutLeft x (cutN x.cutLeft k)) (x.written + k)))) (hS : va_S A s.heap H locs) (hl : lv_has ls 4 [(3, .int (nI k)), (2, .int (bI true)), (1, .int (nI n)), (0, .ref h)]), W p l e ({ frames := 2, cells := 0, slots := 0, locals := 20 } : Room) s m ([.ref h, .int (nI n)] : List Value).toArray below meth c H locs 0 0 (MQ below (va_Qi (fun (r9 : Int32) (u9 : Unit) => r9 = bI true) (fun (u9 : Unit) t9 => bW D A (MW dA h ad (MS.s_written (MS.s_cutLeft x (cutN x.cutLeft n)) (x.written + n))) t9) A) ([.ref h, .int (nI n)] : List Value).toArray s 0 0 A) (F0 m 4 ls []) := by
    intro k9
    induction k9 using Nat.strongRecOn with
    | ind k9 ih4 =>
      intro k i1 hk9 H locs ls hP hD hS hl
      refine lv_iload_n hx hb d_M_write_855_4 rfl (lv_at hl 0 rfl) ?_
      refine lv_iload_n hx hb d_M_write_855_5 rfl (lv_at hl 2 rfl) ?_
      refine lv_icmp_ge hx hb d_M_write_855_6 (tgt := 24) rfl (fun g1 => ?_) (fun g1 => ?_)
      · have g1 := (nI_leI (a := n) (b := k) (by omega) (by omega)).mp g1
        refine lv_iload_n hx hb d_M_write_855_24 rfl (lv_at hl 1 rfl) ?_
        have e9 : (MS.s_written (MS.s_cutLeft x (cutN x.cutLeft k)) (x.written + k) : MS) = MS.s_written (MS.s_cutLeft x (cutN x.cutLeft n)) (x.written + n) := by rw [show (cutN x.cutLeft n) = (cutN x.cutLeft k) from by (rw [show k = n by omega]), show (x.written + n) = (x.written + k) from by (rw [show k = n by omega])] <;> rfl
        exact rfZ hx hb hr (bI_nar true) hlk hS () rfl (cvP e9 hP) (cvD e9 hD) (Nat.le_of_ble_eq_true rfl) (Nat.le_of_ble_eq_true rfl) d_M_write_855_25
      · have g1 := mt (nI_leI (a := n) (b := k) (by omega) (by omega)).mpr g1
        refine lv_iload_n hx hb d_M_write_855_9 rfl (lv_at hl 1 rfl) ?_
        refine lv_if_eq hx hb d_M_write_855_10 (tgt := 24) rfl (fun h9 => absurd h9 (by decide)) (fun _ => ?_)
        refine lv_aload_n hx hb d_M_write_855_13 rfl (lv_at hl 3 rfl) ?_
        refine jfI (rnV (As := []) (rest := []) hx hb hml hown hE hK (hN _ _ hS) hP hD (k_write l D dA H.size h ad (MS.s_written (MS.s_cutLeft x (cutN x.cutLeft k)) (x.written + k)) (hz k (by omega))) (q0 := 0) rfl rfl w452 w451 w453 w454 w328 rfl rfl ⟨⟨by decide, by decide⟩, rfl⟩ ⟨(Nat.le_of_ble_eq_true rfl), (Nat.le_of_ble_eq_true rfl)⟩ rfl hl.1 rfl (Nat.le_of_ble_eq_true rfl) d_M_write_855_14 ⟨(Nat.le_of_ble_eq_true rfl), (Nat.le_of_ble_eq_true rfl)⟩) hP hD hS hA (fun r2 u3 H locs hp9 hP hD hS => ?_)
        have hP : va_P D vwCl (MW dA h ad (MS.s_written (MS.s_cutLeft x (cutF (cutN x.cutLeft k))) ((x.written + k) + 1))) H := hP
        have hD : va_D A (MW dA h ad (MS.s_written (MS.s_cutLeft x (cutF (cutN x.cutLeft k))) ((x.written + k) + 1))) := hD
        replace hp9 : bI true = r2 := Eq.symm hp9
        subst hp9
        refine lv_istore_n hx hb d_M_write_855_17 rfl hl (by decide) rfl (fun ls hl => ?_)
        have hl : lv_has ls 4 [(2, .int (bI true)), (3, .int (nI k)), (1, .int (nI n)), (0, .ref h)] := hl
        refine lv_iinc (k := 1) (v := nI (k + 1)) hx hb d_M_write_855_18 hl rfl (iincN (k) 1 1 (by decide)) (by decide) rfl (fun ls hl => ?_)
        have hl : lv_has ls 4 [(3, .int (nI (k + 1))), (2, .int (bI true)), (1, .int (nI n)), (0, .ref h)] := hl
        refine lv_goto hx hb d_M_write_855_21 (tgt := 4) rfl ?_
        exact ih4 _ (by omega) (k + 1) (by omega) rfl H _ ls hP hD hS (lv_sub hl [0, 1, 2, 3] rfl)
  exact L4 _ 0 (by omega) rfl H _ ls hP hD hS (lv_sub hl [0, 1, 3, 2] rfl)
set_option maxHeartbeats 4000000 in
set_option maxRecDepth 100000 in
theorem k_write_nx (l : Launch) (D : va_G) (dA : Nat → ClassId) (sz : Nat) (h : Nat) (ad : Nat → Nat) (x : MS) (n : Nat) (j : Nat) (hn : n < 2 ^ 31) (hj : j < n) (h0 : cutN x.cutLeft j = 0) (hz : ∀ i : Nat, i < j → ¬ cutN x.cutLeft i = 0) : Met l ⟨"SeriesVaultModel", "write", "(I)Z"⟩ [Cond.code ⟨"SeriesVaultModel", "write", "(I)Z"⟩ prog_14_method_8_code 4 (some FieldType.boolean)] { frames := 2, cells := 0, slots := 0, locals := 20 } (pC D dA [.ref h, .int (nI n)] (MW dA h ad x) sz) (va_Qi (fun (r9 : Int32) (u9 : Unit) => r9 = bI false) (fun (u9 : Unit) t9 => bW D (va_A (MW dA h ad x) sz) (MW dA h ad (MS.s_written (MS.s_cutLeft (MS.s_on x false) (-1)) (x.written + j))) t9) (va_A (MW dA h ad x) sz)) 0 0 (va_A (MW dA h ad x) sz) := by
  refine mkC (y := ⟨"SeriesVaultModel", "write", "(I)Z"⟩) (cc := prog_14_method_8_code) (maxL := 4) (av := [.ref h, .int (nI n)]) (ws := MW dA h ad x) (sz := sz) (Qc := fun A => va_Qi (fun (r9 : Int32) (u9 : Unit) => r9 = bI false) (fun (u9 : Unit) t9 => bW D A (MW dA h ad (MS.s_written (MS.s_cutLeft (MS.s_on x false) (-1)) (x.written + j))) t9) A) (by decide) (Nat.le_of_ble_eq_true rfl) ?_
  intro A p e s m below meth c ls hsz hB
  obtain ⟨hx, hb, hr, hml, hown, hin, hlk, hE, hK, hP, hD, hS, hA, hN, hl⟩ := hB
  have hown : s.vm.findClass "SeriesVaultModel" = some m.cls := hown
  have hl : lv_has ls 4 [(0, .ref h), (1, .int (nI n))] := hl
  obtain ⟨H, hH⟩ : ∃ z, z = s.heap := ⟨_, rfl⟩
  have hP : va_P D vwCl (MW dA h ad x) H := by rw [hH]; exact hP
  have hS : va_S A s.heap H [] := by rw [hH]; exact hS
  rw [← hH]
  refine lv_iconst (v := 1) hx hb d_M_write_855_0 (by decide) ?_
  refine lv_istore_n hx hb d_M_write_855_1 rfl hl (by decide) rfl (fun ls hl => ?_)
  have hl : lv_has ls 4 [(2, .int 1), (0, .ref h), (1, .int (nI n))] := hl
  refine lv_iconst (v := 0) hx hb d_M_write_855_2 (by decide) ?_
  refine lv_istore_n hx hb d_M_write_855_3 rfl hl (by decide) rfl (fun ls hl => ?_)
  have hl : lv_has ls 4 [(3, .int 0), (2, .int 1), (0, .ref h), (1, .int (nI n))] := hl
  have L4 : ∀ (k9 : Nat) (k : Nat) (i1 : k ≤ j) (hk9 : n - k = k9), ∀ (H : Heap) (locs : List Loc) (ls : Array Slot) (hP : va_P D vwCl (MW dA h ad (MS.s_written (MS.s_cutLeft x (cutN x.cutLeft k)) (x.written + k))) H) (hD : va_D A (MW dA h ad (MS.s_written (MS.s_cutLeft x (cutN x.cutLeft k)) (x.written + k)))) (hS : va_S A s.heap H locs) (hl : lv_has ls 4 [(3, .int (nI k)), (2, .int (bI true)), (1, .int (nI n)), (0, .ref h)]), W p l e ({ frames := 2, cells := 0, slots := 0, locals := 20 } : Room) s m ([.ref h, .int (nI n)] : List Value).toArray below meth c H locs 0 0 (MQ below (va_Qi (fun (r9 : Int32) (u9 : Unit) => r9 = bI false) (fun (u9 : Unit) t9 => bW D A (MW dA h ad (MS.s_written (MS.s_cutLeft (MS.s_on x false) (-1)) (x.written + j))) t9) A) ([.ref h, .int (nI n)] : List Value).toArray s 0 0 A) (F0 m 4 ls []) := by
    intro k9
    induction k9 using Nat.strongRecOn with
    | ind k9 ih4 =>
      intro k i1 hk9 H locs ls hP hD hS hl
      refine lv_iload_n hx hb d_M_write_855_4 rfl (lv_at hl 0 rfl) ?_
      refine lv_iload_n hx hb d_M_write_855_5 rfl (lv_at hl 2 rfl) ?_
      refine lv_icmp_ge hx hb d_M_write_855_6 (tgt := 24) rfl (fun g1 => ?_) (fun g1 => ?_)
      · have g1 := (nI_leI (a := n) (b := k) (by omega) (by omega)).mp g1; exfalso; omega
      have g1 := mt (nI_leI (a := n) (b := k) (by omega) (by omega)).mpr g1
      refine lv_iload_n hx hb d_M_write_855_9 rfl (lv_at hl 1 rfl) ?_
      refine lv_if_eq hx hb d_M_write_855_10 (tgt := 24) rfl (fun h9 => absurd h9 (by decide)) (fun _ => ?_)
      refine lv_aload_n hx hb d_M_write_855_13 rfl (lv_at hl 3 rfl) ?_
      rcases (Nat.lt_or_ge k j) with z1 | z1
      · refine jfI (rnV (As := []) (rest := []) hx hb hml hown hE hK (hN _ _ hS) hP hD (k_write l D dA H.size h ad (MS.s_written (MS.s_cutLeft x (cutN x.cutLeft k)) (x.written + k)) (hz k z1)) (q0 := 0) rfl rfl w452 w451 w453 w454 w328 rfl rfl ⟨⟨by decide, by decide⟩, rfl⟩ ⟨(Nat.le_of_ble_eq_true rfl), (Nat.le_of_ble_eq_true rfl)⟩ rfl hl.1 rfl (Nat.le_of_ble_eq_true rfl) d_M_write_855_14 ⟨(Nat.le_of_ble_eq_true rfl), (Nat.le_of_ble_eq_true rfl)⟩) hP hD hS hA (fun r2 u3 H locs hp9 hP hD hS => ?_)
        have hP : va_P D vwCl (MW dA h ad (MS.s_written (MS.s_cutLeft x (cutF (cutN x.cutLeft k))) ((x.written + k) + 1))) H := hP
        have hD : va_D A (MW dA h ad (MS.s_written (MS.s_cutLeft x (cutF (cutN x.cutLeft k))) ((x.written + k) + 1))) := hD
        replace hp9 : bI true = r2 := Eq.symm hp9
        subst hp9
        refine lv_istore_n hx hb d_M_write_855_17 rfl hl (by decide) rfl (fun ls hl => ?_)
        have hl : lv_has ls 4 [(2, .int (bI true)), (3, .int (nI k)), (1, .int (nI n)), (0, .ref h)] := hl
        refine lv_iinc (k := 1) (v := nI (k + 1)) hx hb d_M_write_855_18 hl rfl (iincN (k) 1 1 (by decide)) (by decide) rfl (fun ls hl => ?_)
        have hl : lv_has ls 4 [(3, .int (nI (k + 1))), (2, .int (bI true)), (1, .int (nI n)), (0, .ref h)] := hl
        refine lv_goto hx hb d_M_write_855_21 (tgt := 4) rfl ?_
        exact ih4 _ (by omega) (k + 1) (by omega) rfl H _ ls hP hD hS (lv_sub hl [0, 1, 2, 3] rfl)
      · refine jfI (rnV (As := []) (rest := []) hx hb hml hown hE hK (hN _ _ hS) hP hD (k_write_x l D dA H.size h ad (MS.s_written (MS.s_cutLeft x (cutN x.cutLeft k)) (x.written + k)) (by rw [show k = j by omega]; exact h0)) (q0 := 0) rfl rfl w452 w451 w453 w454 w328 rfl rfl ⟨⟨by decide, by decide⟩, rfl⟩ ⟨(Nat.le_of_ble_eq_true rfl), (Nat.le_of_ble_eq_true rfl)⟩ rfl hl.1 rfl (Nat.le_of_ble_eq_true rfl) d_M_write_855_14 ⟨(Nat.le_of_ble_eq_true rfl), (Nat.le_of_ble_eq_true rfl)⟩) hP hD hS hA (fun r4 u5 H locs hp9 hP hD hS => ?_)
        have hP : va_P D vwCl (MW dA h ad (MS.s_written (MS.s_cutLeft (MS.s_on x false) (-1)) (x.written + k))) H := hP
        have hD : va_D A (MW dA h ad (MS.s_written (MS.s_cutLeft (MS.s_on x false) (-1)) (x.written + k))) := hD
        replace hp9 : bI false = r4 := Eq.symm hp9
        subst hp9
        refine lv_istore_n hx hb d_M_write_855_17 rfl hl (by decide) rfl (fun ls hl => ?_)
        have hl : lv_has ls 4 [(2, .int (bI false)), (3, .int (nI k)), (1, .int (nI n)), (0, .ref h)] := hl
        refine lv_iinc (k := 1) (v := nI (k + 1)) hx hb d_M_write_855_18 hl rfl (iincN (k) 1 1 (by decide)) (by decide) rfl (fun ls hl => ?_)
        have hl : lv_has ls 4 [(3, .int (nI (k + 1))), (2, .int (bI false)), (1, .int (nI n)), (0, .ref h)] := hl
        refine lv_goto hx hb d_M_write_855_21 (tgt := 4) rfl ?_
        refine lv_iload_n hx hb d_M_write_855_4 rfl (lv_at hl 0 rfl) ?_
        refine lv_iload_n hx hb d_M_write_855_5 rfl (lv_at hl 2 rfl) ?_
        refine lv_icmp_ge hx hb d_M_write_855_6 (tgt := 24) rfl (fun g6 => ?_) (fun g6 => ?_)
        · have g6 := (nI_leI (a := n) (b := k + 1) (by omega) (by omega)).mp g6
          refine lv_iload_n hx hb d_M_write_855_24 rfl (lv_at hl 1 rfl) ?_
          have e9 : (MS.s_written (MS.s_cutLeft (MS.s_on x false) (-1)) (x.written + k) : MS) = MS.s_written (MS.s_cutLeft (MS.s_on x false) (-1)) (x.written + j) := by rw [show (x.written + j) = (x.written + k) from by (rw [show k = j by omega])] <;> rfl
          exact rfZ hx hb hr (bI_nar false) hlk hS () rfl (cvP e9 hP) (cvD e9 hD) (Nat.le_of_ble_eq_true rfl) (Nat.le_of_ble_eq_true rfl) d_M_write_855_25
        · have g6 := mt (nI_leI (a := n) (b := k + 1) (by omega) (by omega)).mpr g6
          refine lv_iload_n hx hb d_M_write_855_9 rfl (lv_at hl 1 rfl) ?_
          refine lv_if_eq hx hb d_M_write_855_10 (tgt := 24) rfl (fun _ => ?_) (fun h9 => absurd (by decide) h9)
          refine lv_iload_n hx hb d_M_write_855_24 rfl (lv_at hl 1 rfl) ?_
          have e9 : (MS.s_written (MS.s_cutLeft (MS.s_on x false) (-1)) (x.written + k) : MS) = MS.s_written (MS.s_cutLeft (MS.s_on x false) (-1)) (x.written + j) := by rw [show (x.written + j) = (x.written + k) from by (rw [show k = j by omega])] <;> rfl
          exact rfZ hx hb hr (bI_nar false) hlk hS () rfl (cvP e9 hP) (cvD e9 hD) (Nat.le_of_ble_eq_true rfl) (Nat.le_of_ble_eq_true rfl) d_M_write_855_25
  exact L4 _ 0 (by omega) rfl H _ ls hP hD hS (lv_sub hl [0, 1, 3, 2] rfl)
end
section
theorem d_M_record_0 : decode prog_14_method_11_code 0 = .ok (.aload_n 0, 1) := by decide +kernel
theorem d_M_record_1 : decode prog_14_method_11_code 1 = .ok (.getfield 191, 3) := by decide +kernel
theorem d_M_record_4 : decode prog_14_method_11_code 4 = .ok (.iload 7, 2) := by decide +kernel
theorem d_M_record_6 : decode prog_14_method_11_code 6 = .ok (.iadd, 1) := by decide +kernel
theorem d_M_record_7 : decode prog_14_method_11_code 7 = .ok (.bipush 126, 2) := by decide +kernel
theorem d_M_record_9 : decode prog_14_method_11_code 9 = .ok (.if_icmp .le 27, 3) := by decide +kernel
theorem d_M_record_36 : decode prog_14_method_11_code 36 = .ok (.aload_n 0, 1) := by decide +kernel
theorem d_M_record_37 : decode prog_14_method_11_code 37 = .ok (.getfield 67, 3) := by decide +kernel
theorem d_M_record_40 : decode prog_14_method_11_code 40 = .ok (.aload_n 0, 1) := by decide +kernel
theorem d_M_record_41 : decode prog_14_method_11_code 41 = .ok (.getfield 182, 3) := by decide +kernel
theorem d_M_record_44 : decode prog_14_method_11_code 44 = .ok (.iload_n 1, 1) := by decide +kernel
theorem d_M_record_45 : decode prog_14_method_11_code 45 = .ok (.i2b, 1) := by decide +kernel
theorem d_M_record_46 : decode prog_14_method_11_code 46 = .ok (.bastore, 1) := by decide +kernel
theorem d_M_record_47 : decode prog_14_method_11_code 47 = .ok (.aload_n 0, 1) := by decide +kernel
theorem d_M_record_48 : decode prog_14_method_11_code 48 = .ok (.getfield 70, 3) := by decide +kernel
theorem d_M_record_51 : decode prog_14_method_11_code 51 = .ok (.aload_n 0, 1) := by decide +kernel
theorem d_M_record_52 : decode prog_14_method_11_code 52 = .ok (.getfield 182, 3) := by decide +kernel
theorem d_M_record_55 : decode prog_14_method_11_code 55 = .ok (.iload_n 2, 1) := by decide +kernel
theorem d_M_record_56 : decode prog_14_method_11_code 56 = .ok (.iastore, 1) := by decide +kernel
theorem d_M_record_57 : decode prog_14_method_11_code 57 = .ok (.aload_n 0, 1) := by decide +kernel
theorem d_M_record_58 : decode prog_14_method_11_code 58 = .ok (.getfield 73, 3) := by decide +kernel
theorem d_M_record_61 : decode prog_14_method_11_code 61 = .ok (.aload_n 0, 1) := by decide +kernel
theorem d_M_record_62 : decode prog_14_method_11_code 62 = .ok (.getfield 182, 3) := by decide +kernel
theorem d_M_record_65 : decode prog_14_method_11_code 65 = .ok (.lload_n 3, 1) := by decide +kernel
theorem d_M_record_66 : decode prog_14_method_11_code 66 = .ok (.lastore, 1) := by decide +kernel
theorem d_M_record_67 : decode prog_14_method_11_code 67 = .ok (.aload_n 0, 1) := by decide +kernel
theorem d_M_record_68 : decode prog_14_method_11_code 68 = .ok (.getfield 76, 3) := by decide +kernel
theorem d_M_record_71 : decode prog_14_method_11_code 71 = .ok (.aload_n 0, 1) := by decide +kernel
theorem d_M_record_72 : decode prog_14_method_11_code 72 = .ok (.getfield 182, 3) := by decide +kernel
theorem d_M_record_75 : decode prog_14_method_11_code 75 = .ok (.lload 5, 2) := by decide +kernel
theorem d_M_record_77 : decode prog_14_method_11_code 77 = .ok (.lastore, 1) := by decide +kernel
theorem d_M_record_78 : decode prog_14_method_11_code 78 = .ok (.aload_n 0, 1) := by decide +kernel
theorem d_M_record_79 : decode prog_14_method_11_code 79 = .ok (.getfield 79, 3) := by decide +kernel
theorem d_M_record_82 : decode prog_14_method_11_code 82 = .ok (.aload_n 0, 1) := by decide +kernel
theorem d_M_record_83 : decode prog_14_method_11_code 83 = .ok (.getfield 182, 3) := by decide +kernel
theorem d_M_record_86 : decode prog_14_method_11_code 86 = .ok (.iload 7, 2) := by decide +kernel
theorem d_M_record_88 : decode prog_14_method_11_code 88 = .ok (.iastore, 1) := by decide +kernel
theorem d_M_record_89 : decode prog_14_method_11_code 89 = .ok (.aload_n 0, 1) := by decide +kernel
theorem d_M_record_90 : decode prog_14_method_11_code 90 = .ok (.getfield 82, 3) := by decide +kernel
theorem d_M_record_93 : decode prog_14_method_11_code 93 = .ok (.aload_n 0, 1) := by decide +kernel
theorem d_M_record_94 : decode prog_14_method_11_code 94 = .ok (.getfield 182, 3) := by decide +kernel
theorem d_M_record_97 : decode prog_14_method_11_code 97 = .ok (.aload_n 0, 1) := by decide +kernel
theorem d_M_record_98 : decode prog_14_method_11_code 98 = .ok (.getfield 188, 3) := by decide +kernel
theorem d_M_record_101 : decode prog_14_method_11_code 101 = .ok (.iastore, 1) := by decide +kernel
theorem d_M_record_102 : decode prog_14_method_11_code 102 = .ok (.aload_n 0, 1) := by decide +kernel
theorem d_M_record_103 : decode prog_14_method_11_code 103 = .ok (.dup, 1) := by decide +kernel
theorem d_M_record_104 : decode prog_14_method_11_code 104 = .ok (.getfield 182, 3) := by decide +kernel
theorem d_M_record_107 : decode prog_14_method_11_code 107 = .ok (.iconst 1, 1) := by decide +kernel
theorem d_M_record_108 : decode prog_14_method_11_code 108 = .ok (.iadd, 1) := by decide +kernel
theorem d_M_record_109 : decode prog_14_method_11_code 109 = .ok (.putfield 182, 3) := by decide +kernel
theorem d_M_record_112 : decode prog_14_method_11_code 112 = .ok (.aload_n 0, 1) := by decide +kernel
theorem d_M_record_113 : decode prog_14_method_11_code 113 = .ok (.dup, 1) := by decide +kernel
theorem d_M_record_114 : decode prog_14_method_11_code 114 = .ok (.getfield 191, 3) := by decide +kernel
theorem d_M_record_117 : decode prog_14_method_11_code 117 = .ok (.iload 7, 2) := by decide +kernel
theorem d_M_record_119 : decode prog_14_method_11_code 119 = .ok (.iadd, 1) := by decide +kernel
theorem d_M_record_120 : decode prog_14_method_11_code 120 = .ok (.putfield 191, 3) := by decide +kernel
theorem d_M_record_123 : decode prog_14_method_11_code 123 = .ok (.aload_n 0, 1) := by decide +kernel
theorem d_M_record_124 : decode prog_14_method_11_code 124 = .ok (.iconst 1, 1) := by decide +kernel
theorem d_M_record_125 : decode prog_14_method_11_code 125 = .ok (.putfield 194, 3) := by decide +kernel
theorem d_M_record_128 : decode prog_14_method_11_code 128 = .ok (.iconst 1, 1) := by decide +kernel
theorem d_M_record_129 : decode prog_14_method_11_code 129 = .ok (.ireturn, 1) := by decide +kernel
theorem d_M_record_12 : decode prog_14_method_11_code 12 = .ok (.aload_n 0, 1) := by decide +kernel
theorem d_M_record_13 : decode prog_14_method_11_code 13 = .ok (.invokevirtual 204, 3) := by decide +kernel
theorem d_M_record_16 : decode prog_14_method_11_code 16 = .ok (.ifCond .ne 5, 3) := by decide +kernel
theorem d_M_record_21 : decode prog_14_method_11_code 21 = .ok (.aload_n 0, 1) := by decide +kernel
theorem d_M_record_22 : decode prog_14_method_11_code 22 = .ok (.dup, 1) := by decide +kernel
theorem d_M_record_23 : decode prog_14_method_11_code 23 = .ok (.getfield 188, 3) := by decide +kernel
theorem d_M_record_26 : decode prog_14_method_11_code 26 = .ok (.iconst 1, 1) := by decide +kernel
theorem d_M_record_27 : decode prog_14_method_11_code 27 = .ok (.iadd, 1) := by decide +kernel
theorem d_M_record_28 : decode prog_14_method_11_code 28 = .ok (.putfield 188, 3) := by decide +kernel
theorem d_M_record_31 : decode prog_14_method_11_code 31 = .ok (.aload_n 0, 1) := by decide +kernel
theorem d_M_record_32 : decode prog_14_method_11_code 32 = .ok (.iconst 0, 1) := by decide +kernel
theorem d_M_record_33 : decode prog_14_method_11_code 33 = .ok (.putfield 191, 3) := by decide +kernel
set_option maxHeartbeats 4000000 in
set_option maxRecDepth 100000 in
theorem k_record (l : Launch) (D : va_G) (dA : Nat → ClassId) (sz : Nat) (h : Nat) (ad : Nat → Nat) (x : MS) (kd : Int32) (w : Nat) (a : Int64) (b : Int64) (n : Nat) (hkd : kd.toInt8.toInt32 = kd) (h1 : x.records < 32000) (h2 : x.used + n < 2 ^ 31) (h3 : x.block < 2 ^ 30) (hw : x.used + n ≤ 126 ∨ x.fresh = false ∨ ¬ x.cutLeft = 0) : Met l ⟨"SeriesVaultModel", "record", "(IIJJI)Z"⟩ [Cond.code ⟨"SeriesVaultModel", "record", "(IIJJI)Z"⟩ prog_14_method_11_code 8 (some FieldType.boolean)] { frames := 3, cells := 0, slots := 0, locals := 40 } (pC D dA [.ref h, .int kd, .int (nI w), .long a, .long b, .int (nI n)] (MW dA h ad x) sz) (va_Qi (fun (r9 : Int32) (u9 : Unit) => r9 = bI true) (fun (u9 : Unit) t9 => bW D (va_A (MW dA h ad x) sz) (MW dA h ad (MS.s_fresh (MS.s_used (MS.s_block (MS.s_kept (MS.s_records (MS.s_recordBlocks (MS.s_units (MS.s_seconds (MS.s_firsts (MS.s_recordSeries (MS.s_kinds (MS.s_written (MS.s_cutLeft x (x.rCut n)) (x.rWr n)) (va_up x.kinds x.records kd)) (va_up x.recordSeries x.records w)) (va_up x.firsts x.records a)) (va_up x.seconds x.records b)) (va_up x.units x.records n)) (va_up x.recordBlocks x.records (x.rBlock n))) (x.records + 1)) (x.rKept n)) (x.rBlock n)) (x.rUsed n)) true)) t9) (va_A (MW dA h ad x) sz)) 0 0 (va_A (MW dA h ad x) sz) := by
  refine mkC (y := ⟨"SeriesVaultModel", "record", "(IIJJI)Z"⟩) (cc := prog_14_method_11_code) (maxL := 8) (av := [.ref h, .int kd, .int (nI w), .long a, .long b, .int (nI n)]) (ws := MW dA h ad x) (sz := sz) (Qc := fun A => va_Qi (fun (r9 : Int32) (u9 : Unit) => r9 = bI true) (fun (u9 : Unit) t9 => bW D A (MW dA h ad (MS.s_fresh (MS.s_used (MS.s_block (MS.s_kept (MS.s_records (MS.s_recordBlocks (MS.s_units (MS.s_seconds (MS.s_firsts (MS.s_recordSeries (MS.s_kinds (MS.s_written (MS.s_cutLeft x (x.rCut n)) (x.rWr n)) (va_up x.kinds x.records kd)) (va_up x.recordSeries x.records w)) (va_up x.firsts x.records a)) (va_up x.seconds x.records b)) (va_up x.units x.records n)) (va_up x.recordBlocks x.records (x.rBlock n))) (x.records + 1)) (x.rKept n)) (x.rBlock n)) (x.rUsed n)) true)) t9) A) (by decide) (Nat.le_of_ble_eq_true rfl) ?_
  intro A p e s m below meth c ls hsz hB
  obtain ⟨hx, hb, hr, hml, hown, hin, hlk, hE, hK, hP, hD, hS, hA, hN, hl⟩ := hB
  have hown : s.vm.findClass "SeriesVaultModel" = some m.cls := hown
  have hl : lv_has ls 8 [(0, .ref h), (1, .int kd), (2, .int (nI w)), (3, .long a), (5, .long b), (7, .int (nI n))] := hl
  obtain ⟨H, hH⟩ : ∃ z, z = s.heap := ⟨_, rfl⟩
  have hP : va_P D vwCl (MW dA h ad x) H := by rw [hH]; exact hP
  have hS : va_S A s.heap H [] := by rw [hH]; exact hS
  rw [← hH]
  refine lv_aload_n hx hb d_M_record_0 rfl (lv_at hl 0 rfl) ?_
  refine gF (v := .int (nI x.used)) hx hb hown hE hK hP 0 rfl rfl layM 40 (by decide) w424 rfl d_M_record_1 ?_
  refine lv_iload hx hb d_M_record_4 (lv_at hl 5 rfl) ?_
  refine lv_iadd hx hb d_M_record_6 (tpi (y := nI (x.used + n)) (nI_add (x.used) (n)) ?_)
  refine lv_bipush (v := 126) hx hb d_M_record_7 (by decide) ?_
  refine lv_icmp_le hx hb d_M_record_9 (tgt := 36) rfl (fun g1 => ?_) (fun g1 => ?_)
  · have g1 := (nI_leI (a := x.used + n) (b := 126) (by omega) (by omega)).mp g1
    refine lv_aload_n hx hb d_M_record_36 rfl (lv_at hl 0 rfl) ?_
    refine gF (v := .ref (ad 31)) hx hb hown hE hK hP 0 rfl rfl layM 31 (by decide) w511 rfl d_M_record_37 ?_
    refine lv_aload_n hx hb d_M_record_40 rfl (lv_at hl 0 rfl) ?_
    refine gF (v := .int (nI x.records)) hx hb hown hE hK hP 0 rfl rfl layM 37 (by decide) w338 rfl d_M_record_41 ?_
    refine lv_iload_n hx hb d_M_record_44 rfl (lv_at hl 1 rfl) ?_
    refine lv_i2b hx hb d_M_record_45 rfl ?_
    refine nbst hx hb hK hP hD hS 14 0 rfl rfl (x.records) (by omega) (by decide) kd (by rw [pk_vb]; exact hkd) d_M_record_46 (fun H locs hP hD hS => ?_)
    have hP : va_P D vwCl (MW dA h ad (MS.s_kinds x (va_up x.kinds x.records kd))) H := hP
    have hD : va_D A (MW dA h ad (MS.s_kinds x (va_up x.kinds x.records kd))) := hD
    refine lv_aload_n hx hb d_M_record_47 rfl (lv_at hl 0 rfl) ?_
    refine gF (v := .ref (ad 32)) hx hb hown hE hK hP 0 rfl rfl layM 32 (by decide) w512 rfl d_M_record_48 ?_
    refine lv_aload_n hx hb d_M_record_51 rfl (lv_at hl 0 rfl) ?_
    refine gF (v := .int (nI x.records)) hx hb hown hE hK hP 0 rfl rfl layM 37 (by decide) w338 rfl d_M_record_52 ?_
    refine lv_iload_n hx hb d_M_record_55 rfl (lv_at hl 2 rfl) ?_
    refine nistN (v := w) hx hb hK hP hD hS 15 1 rfl rfl (x.records) (by omega) (by decide) d_M_record_56 (fun H locs hP hD hS => ?_)
    have hP : va_P D vwCl (MW dA h ad (MS.s_recordSeries (MS.s_kinds x (va_up x.kinds x.records kd)) (va_up x.recordSeries x.records w))) H := hP
    have hD : va_D A (MW dA h ad (MS.s_recordSeries (MS.s_kinds x (va_up x.kinds x.records kd)) (va_up x.recordSeries x.records w))) := hD
    refine lv_aload_n hx hb d_M_record_57 rfl (lv_at hl 0 rfl) ?_
    refine gF (v := .ref (ad 33)) hx hb hown hE hK hP 0 rfl rfl layM 33 (by decide) w513 rfl d_M_record_58 ?_
    refine lv_aload_n hx hb d_M_record_61 rfl (lv_at hl 0 rfl) ?_
    refine gF (v := .int (nI x.records)) hx hb hown hE hK hP 0 rfl rfl layM 37 (by decide) w338 rfl d_M_record_62 ?_
    refine lv_lload_n hx hb d_M_record_65 rfl (lv_at hl 3 rfl) ?_
    refine nlst hx hb hK hP hD hS 16 2 rfl rfl (x.records) (by omega) (by decide) d_M_record_66 (fun H locs hP hD hS => ?_)
    have hP : va_P D vwCl (MW dA h ad (MS.s_firsts (MS.s_recordSeries (MS.s_kinds x (va_up x.kinds x.records kd)) (va_up x.recordSeries x.records w)) (va_up x.firsts x.records a))) H := hP
    have hD : va_D A (MW dA h ad (MS.s_firsts (MS.s_recordSeries (MS.s_kinds x (va_up x.kinds x.records kd)) (va_up x.recordSeries x.records w)) (va_up x.firsts x.records a))) := hD
    refine lv_aload_n hx hb d_M_record_67 rfl (lv_at hl 0 rfl) ?_
    refine gF (v := .ref (ad 34)) hx hb hown hE hK hP 0 rfl rfl layM 34 (by decide) w514 rfl d_M_record_68 ?_
    refine lv_aload_n hx hb d_M_record_71 rfl (lv_at hl 0 rfl) ?_
    refine gF (v := .int (nI x.records)) hx hb hown hE hK hP 0 rfl rfl layM 37 (by decide) w338 rfl d_M_record_72 ?_
    refine lv_lload hx hb d_M_record_75 (lv_at hl 4 rfl) ?_
    refine nlst hx hb hK hP hD hS 17 2 rfl rfl (x.records) (by omega) (by decide) d_M_record_77 (fun H locs hP hD hS => ?_)
    have hP : va_P D vwCl (MW dA h ad (MS.s_seconds (MS.s_firsts (MS.s_recordSeries (MS.s_kinds x (va_up x.kinds x.records kd)) (va_up x.recordSeries x.records w)) (va_up x.firsts x.records a)) (va_up x.seconds x.records b))) H := hP
    have hD : va_D A (MW dA h ad (MS.s_seconds (MS.s_firsts (MS.s_recordSeries (MS.s_kinds x (va_up x.kinds x.records kd)) (va_up x.recordSeries x.records w)) (va_up x.firsts x.records a)) (va_up x.seconds x.records b))) := hD
    refine lv_aload_n hx hb d_M_record_78 rfl (lv_at hl 0 rfl) ?_
    refine gF (v := .ref (ad 35)) hx hb hown hE hK hP 0 rfl rfl layM 35 (by decide) w515 rfl d_M_record_79 ?_
    refine lv_aload_n hx hb d_M_record_82 rfl (lv_at hl 0 rfl) ?_
    refine gF (v := .int (nI x.records)) hx hb hown hE hK hP 0 rfl rfl layM 37 (by decide) w338 rfl d_M_record_83 ?_
    refine lv_iload hx hb d_M_record_86 (lv_at hl 5 rfl) ?_
    refine nistN (v := n) hx hb hK hP hD hS 18 1 rfl rfl (x.records) (by omega) (by decide) d_M_record_88 (fun H locs hP hD hS => ?_)
    have hP : va_P D vwCl (MW dA h ad (MS.s_units (MS.s_seconds (MS.s_firsts (MS.s_recordSeries (MS.s_kinds x (va_up x.kinds x.records kd)) (va_up x.recordSeries x.records w)) (va_up x.firsts x.records a)) (va_up x.seconds x.records b)) (va_up x.units x.records n))) H := hP
    have hD : va_D A (MW dA h ad (MS.s_units (MS.s_seconds (MS.s_firsts (MS.s_recordSeries (MS.s_kinds x (va_up x.kinds x.records kd)) (va_up x.recordSeries x.records w)) (va_up x.firsts x.records a)) (va_up x.seconds x.records b)) (va_up x.units x.records n))) := hD
    refine lv_aload_n hx hb d_M_record_89 rfl (lv_at hl 0 rfl) ?_
    refine gF (v := .ref (ad 36)) hx hb hown hE hK hP 0 rfl rfl layM 36 (by decide) w516 rfl d_M_record_90 ?_
    refine lv_aload_n hx hb d_M_record_93 rfl (lv_at hl 0 rfl) ?_
    refine gF (v := .int (nI x.records)) hx hb hown hE hK hP 0 rfl rfl layM 37 (by decide) w338 rfl d_M_record_94 ?_
    refine lv_aload_n hx hb d_M_record_97 rfl (lv_at hl 0 rfl) ?_
    refine gF (v := .int (nI x.block)) hx hb hown hE hK hP 0 rfl rfl layM 39 (by decide) w423 rfl d_M_record_98 ?_
    refine nistN (v := x.block) hx hb hK hP hD hS 19 1 rfl rfl (x.records) (by omega) (by decide) d_M_record_101 (fun H locs hP hD hS => ?_)
    have hP : va_P D vwCl (MW dA h ad (MS.s_recordBlocks (MS.s_units (MS.s_seconds (MS.s_firsts (MS.s_recordSeries (MS.s_kinds x (va_up x.kinds x.records kd)) (va_up x.recordSeries x.records w)) (va_up x.firsts x.records a)) (va_up x.seconds x.records b)) (va_up x.units x.records n)) (va_up x.recordBlocks x.records x.block))) H := hP
    have hD : va_D A (MW dA h ad (MS.s_recordBlocks (MS.s_units (MS.s_seconds (MS.s_firsts (MS.s_recordSeries (MS.s_kinds x (va_up x.kinds x.records kd)) (va_up x.recordSeries x.records w)) (va_up x.firsts x.records a)) (va_up x.seconds x.records b)) (va_up x.units x.records n)) (va_up x.recordBlocks x.records x.block))) := hD
    refine lv_aload_n hx hb d_M_record_102 rfl (lv_at hl 0 rfl) ?_
    refine lv_dup hx hb d_M_record_103 rfl ?_
    refine gF (v := .int (nI x.records)) hx hb hown hE hK hP 0 rfl rfl layM 37 (by decide) w338 rfl d_M_record_104 ?_
    refine lv_iconst (v := 1) hx hb d_M_record_107 (by decide) ?_
    refine lv_iadd hx hb d_M_record_108 (tpi (y := nI (x.records + 1)) (nI_add (x.records) (1)) ?_)
    refine pF (v := .int (nI (x.records + 1))) hx hb hown hE hK hP hD hS 0 rfl rfl layM tyM tokM nmM 37 (by decide) w338 rfl rfl rfl (Nat.le_of_ble_eq_true rfl) d_M_record_109 (fun H locs hP hD hS => ?_)
    have hP : va_P D vwCl (MW dA h ad (MS.s_records (MS.s_recordBlocks (MS.s_units (MS.s_seconds (MS.s_firsts (MS.s_recordSeries (MS.s_kinds x (va_up x.kinds x.records kd)) (va_up x.recordSeries x.records w)) (va_up x.firsts x.records a)) (va_up x.seconds x.records b)) (va_up x.units x.records n)) (va_up x.recordBlocks x.records x.block)) (x.records + 1))) H := hP
    have hD : va_D A (MW dA h ad (MS.s_records (MS.s_recordBlocks (MS.s_units (MS.s_seconds (MS.s_firsts (MS.s_recordSeries (MS.s_kinds x (va_up x.kinds x.records kd)) (va_up x.recordSeries x.records w)) (va_up x.firsts x.records a)) (va_up x.seconds x.records b)) (va_up x.units x.records n)) (va_up x.recordBlocks x.records x.block)) (x.records + 1))) := hD
    refine lv_aload_n hx hb d_M_record_112 rfl (lv_at hl 0 rfl) ?_
    refine lv_dup hx hb d_M_record_113 rfl ?_
    refine gF (v := .int (nI x.used)) hx hb hown hE hK hP 0 rfl rfl layM 40 (by decide) w424 rfl d_M_record_114 ?_
    refine lv_iload hx hb d_M_record_117 (lv_at hl 5 rfl) ?_
    refine lv_iadd hx hb d_M_record_119 (tpi (y := nI (x.used + n)) (nI_add (x.used) (n)) ?_)
    refine pF (v := .int (nI (x.used + n))) hx hb hown hE hK hP hD hS 0 rfl rfl layM tyM tokM nmM 40 (by decide) w424 rfl rfl rfl (Nat.le_of_ble_eq_true rfl) d_M_record_120 (fun H locs hP hD hS => ?_)
    have hP : va_P D vwCl (MW dA h ad (MS.s_used (MS.s_records (MS.s_recordBlocks (MS.s_units (MS.s_seconds (MS.s_firsts (MS.s_recordSeries (MS.s_kinds x (va_up x.kinds x.records kd)) (va_up x.recordSeries x.records w)) (va_up x.firsts x.records a)) (va_up x.seconds x.records b)) (va_up x.units x.records n)) (va_up x.recordBlocks x.records x.block)) (x.records + 1)) (x.used + n))) H := hP
    have hD : va_D A (MW dA h ad (MS.s_used (MS.s_records (MS.s_recordBlocks (MS.s_units (MS.s_seconds (MS.s_firsts (MS.s_recordSeries (MS.s_kinds x (va_up x.kinds x.records kd)) (va_up x.recordSeries x.records w)) (va_up x.firsts x.records a)) (va_up x.seconds x.records b)) (va_up x.units x.records n)) (va_up x.recordBlocks x.records x.block)) (x.records + 1)) (x.used + n))) := hD
    refine lv_aload_n hx hb d_M_record_123 rfl (lv_at hl 0 rfl) ?_
    refine lv_iconst (v := 1) hx hb d_M_record_124 (by decide) ?_
    refine pF (v := .int (bI true)) hx hb hown hE hK hP hD hS 0 rfl rfl layM tyM tokM nmM 41 (by decide) w337 rfl (bI_nar true) (bI_fit true) (Nat.le_of_ble_eq_true rfl) d_M_record_125 (fun H locs hP hD hS => ?_)
    have hP : va_P D vwCl (MW dA h ad (MS.s_fresh (MS.s_used (MS.s_records (MS.s_recordBlocks (MS.s_units (MS.s_seconds (MS.s_firsts (MS.s_recordSeries (MS.s_kinds x (va_up x.kinds x.records kd)) (va_up x.recordSeries x.records w)) (va_up x.firsts x.records a)) (va_up x.seconds x.records b)) (va_up x.units x.records n)) (va_up x.recordBlocks x.records x.block)) (x.records + 1)) (x.used + n)) true)) H := hP
    have hD : va_D A (MW dA h ad (MS.s_fresh (MS.s_used (MS.s_records (MS.s_recordBlocks (MS.s_units (MS.s_seconds (MS.s_firsts (MS.s_recordSeries (MS.s_kinds x (va_up x.kinds x.records kd)) (va_up x.recordSeries x.records w)) (va_up x.firsts x.records a)) (va_up x.seconds x.records b)) (va_up x.units x.records n)) (va_up x.recordBlocks x.records x.block)) (x.records + 1)) (x.used + n)) true)) := hD
    refine lv_iconst (v := 1) hx hb d_M_record_128 (by decide) ?_
    have e9 : (MS.s_fresh (MS.s_used (MS.s_records (MS.s_recordBlocks (MS.s_units (MS.s_seconds (MS.s_firsts (MS.s_recordSeries (MS.s_kinds x (va_up x.kinds x.records kd)) (va_up x.recordSeries x.records w)) (va_up x.firsts x.records a)) (va_up x.seconds x.records b)) (va_up x.units x.records n)) (va_up x.recordBlocks x.records x.block)) (x.records + 1)) (x.used + n)) true : MS) = MS.s_fresh (MS.s_used (MS.s_block (MS.s_kept (MS.s_records (MS.s_recordBlocks (MS.s_units (MS.s_seconds (MS.s_firsts (MS.s_recordSeries (MS.s_kinds (MS.s_written (MS.s_cutLeft x (x.rCut n)) (x.rWr n)) (va_up x.kinds x.records kd)) (va_up x.recordSeries x.records w)) (va_up x.firsts x.records a)) (va_up x.seconds x.records b)) (va_up x.units x.records n)) (va_up x.recordBlocks x.records (x.rBlock n))) (x.records + 1)) (x.rKept n)) (x.rBlock n)) (x.rUsed n)) true := by rw [show (va_up x.recordBlocks x.records (x.rBlock n)) = (va_up x.recordBlocks x.records x.block) from by simp [MS.rBlock, MS.rUsed, MS.rCut, MS.rWr, MS.rKept, *], show (x.rBlock n) = x.block from by simp [MS.rBlock, MS.rUsed, MS.rCut, MS.rWr, MS.rKept, *], show (x.rKept n) = x.kept from by simp [MS.rBlock, MS.rUsed, MS.rCut, MS.rWr, MS.rKept, *], show (x.rUsed n) = (x.used + n) from by simp [MS.rBlock, MS.rUsed, MS.rCut, MS.rWr, MS.rKept, *], show (x.rCut n) = x.cutLeft from by simp [MS.rBlock, MS.rUsed, MS.rCut, MS.rWr, MS.rKept, *], show (x.rWr n) = x.written from by simp [MS.rBlock, MS.rUsed, MS.rCut, MS.rWr, MS.rKept, *]] <;> rfl
    exact rfZ hx hb hr (bI_nar true) hlk hS () rfl (cvP e9 hP) (cvD e9 hD) (Nat.le_of_ble_eq_true rfl) (Nat.le_of_ble_eq_true rfl) d_M_record_129
  · have g1 := mt (nI_leI (a := x.used + n) (b := 126) (by omega) (by omega)).mpr g1
    refine lv_aload_n hx hb d_M_record_12 rfl (lv_at hl 0 rfl) ?_
    rcases (show x.fresh = false ∨ (x.fresh = true ∧ ¬ x.cutLeft = 0) from by cases hf9 : x.fresh <;> simp_all) with z1 | ⟨z1, z2⟩
    · refine jfI (rnV (As := []) (rest := []) hx hb hml hown hE hK (hN _ _ hS) hP hD (k_synced_0 l D dA H.size h ad x z1) (q0 := 0) rfl rfl w341 w340 w342 w343 w328 rfl rfl ⟨⟨by decide, by decide⟩, rfl⟩ ⟨(Nat.le_of_ble_eq_true rfl), (Nat.le_of_ble_eq_true rfl)⟩ rfl hl.1 rfl (Nat.le_of_ble_eq_true rfl) d_M_record_13 ⟨(Nat.le_of_ble_eq_true rfl), (Nat.le_of_ble_eq_true rfl)⟩) hP hD hS hA (fun r2 u3 H locs hp9 hP hD hS => ?_)
      have hP : va_P D vwCl (MW dA h ad (MS.s_fresh (MS.s_kept x x.records) false)) H := hP
      have hD : va_D A (MW dA h ad (MS.s_fresh (MS.s_kept x x.records) false)) := hD
      replace hp9 : bI true = r2 := Eq.symm hp9
      subst hp9
      refine lv_if_ne hx hb d_M_record_16 (tgt := 21) rfl (fun _ => ?_) (fun h9 => absurd h9 (by decide))
      refine lv_aload_n hx hb d_M_record_21 rfl (lv_at hl 0 rfl) ?_
      refine lv_dup hx hb d_M_record_22 rfl ?_
      refine gF (v := .int (nI x.block)) hx hb hown hE hK hP 0 rfl rfl layM 39 (by decide) w423 rfl d_M_record_23 ?_
      refine lv_iconst (v := 1) hx hb d_M_record_26 (by decide) ?_
      refine lv_iadd hx hb d_M_record_27 (tpi (y := nI (x.block + 1)) (nI_add (x.block) (1)) ?_)
      refine pF (v := .int (nI (x.block + 1))) hx hb hown hE hK hP hD hS 0 rfl rfl layM tyM tokM nmM 39 (by decide) w423 rfl rfl rfl (Nat.le_of_ble_eq_true rfl) d_M_record_28 (fun H locs hP hD hS => ?_)
      have hP : va_P D vwCl (MW dA h ad (MS.s_fresh (MS.s_block (MS.s_kept x x.records) (x.block + 1)) false)) H := hP
      have hD : va_D A (MW dA h ad (MS.s_fresh (MS.s_block (MS.s_kept x x.records) (x.block + 1)) false)) := hD
      refine lv_aload_n hx hb d_M_record_31 rfl (lv_at hl 0 rfl) ?_
      refine lv_iconst (v := 0) hx hb d_M_record_32 (by decide) ?_
      refine pF (v := .int (nI 0)) hx hb hown hE hK hP hD hS 0 rfl rfl layM tyM tokM nmM 40 (by decide) w424 rfl rfl rfl (Nat.le_of_ble_eq_true rfl) d_M_record_33 (fun H locs hP hD hS => ?_)
      have hP : va_P D vwCl (MW dA h ad (MS.s_fresh (MS.s_used (MS.s_block (MS.s_kept x x.records) (x.block + 1)) 0) false)) H := hP
      have hD : va_D A (MW dA h ad (MS.s_fresh (MS.s_used (MS.s_block (MS.s_kept x x.records) (x.block + 1)) 0) false)) := hD
      refine lv_aload_n hx hb d_M_record_36 rfl (lv_at hl 0 rfl) ?_
      refine gF (v := .ref (ad 31)) hx hb hown hE hK hP 0 rfl rfl layM 31 (by decide) w511 rfl d_M_record_37 ?_
      refine lv_aload_n hx hb d_M_record_40 rfl (lv_at hl 0 rfl) ?_
      refine gF (v := .int (nI x.records)) hx hb hown hE hK hP 0 rfl rfl layM 37 (by decide) w338 rfl d_M_record_41 ?_
      refine lv_iload_n hx hb d_M_record_44 rfl (lv_at hl 1 rfl) ?_
      refine lv_i2b hx hb d_M_record_45 rfl ?_
      refine nbst hx hb hK hP hD hS 14 0 rfl rfl (x.records) (by omega) (by decide) kd (by rw [pk_vb]; exact hkd) d_M_record_46 (fun H locs hP hD hS => ?_)
      have hP : va_P D vwCl (MW dA h ad (MS.s_fresh (MS.s_used (MS.s_block (MS.s_kept (MS.s_kinds x (va_up x.kinds x.records kd)) x.records) (x.block + 1)) 0) false)) H := hP
      have hD : va_D A (MW dA h ad (MS.s_fresh (MS.s_used (MS.s_block (MS.s_kept (MS.s_kinds x (va_up x.kinds x.records kd)) x.records) (x.block + 1)) 0) false)) := hD
      refine lv_aload_n hx hb d_M_record_47 rfl (lv_at hl 0 rfl) ?_
      refine gF (v := .ref (ad 32)) hx hb hown hE hK hP 0 rfl rfl layM 32 (by decide) w512 rfl d_M_record_48 ?_
      refine lv_aload_n hx hb d_M_record_51 rfl (lv_at hl 0 rfl) ?_
      refine gF (v := .int (nI x.records)) hx hb hown hE hK hP 0 rfl rfl layM 37 (by decide) w338 rfl d_M_record_52 ?_
      refine lv_iload_n hx hb d_M_record_55 rfl (lv_at hl 2 rfl) ?_
      refine nistN (v := w) hx hb hK hP hD hS 15 1 rfl rfl (x.records) (by omega) (by decide) d_M_record_56 (fun H locs hP hD hS => ?_)
      have hP : va_P D vwCl (MW dA h ad (MS.s_fresh (MS.s_used (MS.s_block (MS.s_kept (MS.s_recordSeries (MS.s_kinds x (va_up x.kinds x.records kd)) (va_up x.recordSeries x.records w)) x.records) (x.block + 1)) 0) false)) H := hP
      have hD : va_D A (MW dA h ad (MS.s_fresh (MS.s_used (MS.s_block (MS.s_kept (MS.s_recordSeries (MS.s_kinds x (va_up x.kinds x.records kd)) (va_up x.recordSeries x.records w)) x.records) (x.block + 1)) 0) false)) := hD
      refine lv_aload_n hx hb d_M_record_57 rfl (lv_at hl 0 rfl) ?_
      refine gF (v := .ref (ad 33)) hx hb hown hE hK hP 0 rfl rfl layM 33 (by decide) w513 rfl d_M_record_58 ?_
      refine lv_aload_n hx hb d_M_record_61 rfl (lv_at hl 0 rfl) ?_
      refine gF (v := .int (nI x.records)) hx hb hown hE hK hP 0 rfl rfl layM 37 (by decide) w338 rfl d_M_record_62 ?_
      refine lv_lload_n hx hb d_M_record_65 rfl (lv_at hl 3 rfl) ?_
      refine nlst hx hb hK hP hD hS 16 2 rfl rfl (x.records) (by omega) (by decide) d_M_record_66 (fun H locs hP hD hS => ?_)
      have hP : va_P D vwCl (MW dA h ad (MS.s_fresh (MS.s_used (MS.s_block (MS.s_kept (MS.s_firsts (MS.s_recordSeries (MS.s_kinds x (va_up x.kinds x.records kd)) (va_up x.recordSeries x.records w)) (va_up x.firsts x.records a)) x.records) (x.block + 1)) 0) false)) H := hP
      have hD : va_D A (MW dA h ad (MS.s_fresh (MS.s_used (MS.s_block (MS.s_kept (MS.s_firsts (MS.s_recordSeries (MS.s_kinds x (va_up x.kinds x.records kd)) (va_up x.recordSeries x.records w)) (va_up x.firsts x.records a)) x.records) (x.block + 1)) 0) false)) := hD
      refine lv_aload_n hx hb d_M_record_67 rfl (lv_at hl 0 rfl) ?_
      refine gF (v := .ref (ad 34)) hx hb hown hE hK hP 0 rfl rfl layM 34 (by decide) w514 rfl d_M_record_68 ?_
      refine lv_aload_n hx hb d_M_record_71 rfl (lv_at hl 0 rfl) ?_
      refine gF (v := .int (nI x.records)) hx hb hown hE hK hP 0 rfl rfl layM 37 (by decide) w338 rfl d_M_record_72 ?_
      refine lv_lload hx hb d_M_record_75 (lv_at hl 4 rfl) ?_
      refine nlst hx hb hK hP hD hS 17 2 rfl rfl (x.records) (by omega) (by decide) d_M_record_77 (fun H locs hP hD hS => ?_)
      have hP : va_P D vwCl (MW dA h ad (MS.s_fresh (MS.s_used (MS.s_block (MS.s_kept (MS.s_seconds (MS.s_firsts (MS.s_recordSeries (MS.s_kinds x (va_up x.kinds x.records kd)) (va_up x.recordSeries x.records w)) (va_up x.firsts x.records a)) (va_up x.seconds x.records b)) x.records) (x.block + 1)) 0) false)) H := hP
      have hD : va_D A (MW dA h ad (MS.s_fresh (MS.s_used (MS.s_block (MS.s_kept (MS.s_seconds (MS.s_firsts (MS.s_recordSeries (MS.s_kinds x (va_up x.kinds x.records kd)) (va_up x.recordSeries x.records w)) (va_up x.firsts x.records a)) (va_up x.seconds x.records b)) x.records) (x.block + 1)) 0) false)) := hD
      refine lv_aload_n hx hb d_M_record_78 rfl (lv_at hl 0 rfl) ?_
      refine gF (v := .ref (ad 35)) hx hb hown hE hK hP 0 rfl rfl layM 35 (by decide) w515 rfl d_M_record_79 ?_
      refine lv_aload_n hx hb d_M_record_82 rfl (lv_at hl 0 rfl) ?_
      refine gF (v := .int (nI x.records)) hx hb hown hE hK hP 0 rfl rfl layM 37 (by decide) w338 rfl d_M_record_83 ?_
      refine lv_iload hx hb d_M_record_86 (lv_at hl 5 rfl) ?_
      refine nistN (v := n) hx hb hK hP hD hS 18 1 rfl rfl (x.records) (by omega) (by decide) d_M_record_88 (fun H locs hP hD hS => ?_)
      have hP : va_P D vwCl (MW dA h ad (MS.s_fresh (MS.s_used (MS.s_block (MS.s_kept (MS.s_units (MS.s_seconds (MS.s_firsts (MS.s_recordSeries (MS.s_kinds x (va_up x.kinds x.records kd)) (va_up x.recordSeries x.records w)) (va_up x.firsts x.records a)) (va_up x.seconds x.records b)) (va_up x.units x.records n)) x.records) (x.block + 1)) 0) false)) H := hP
      have hD : va_D A (MW dA h ad (MS.s_fresh (MS.s_used (MS.s_block (MS.s_kept (MS.s_units (MS.s_seconds (MS.s_firsts (MS.s_recordSeries (MS.s_kinds x (va_up x.kinds x.records kd)) (va_up x.recordSeries x.records w)) (va_up x.firsts x.records a)) (va_up x.seconds x.records b)) (va_up x.units x.records n)) x.records) (x.block + 1)) 0) false)) := hD
      refine lv_aload_n hx hb d_M_record_89 rfl (lv_at hl 0 rfl) ?_
      refine gF (v := .ref (ad 36)) hx hb hown hE hK hP 0 rfl rfl layM 36 (by decide) w516 rfl d_M_record_90 ?_
      refine lv_aload_n hx hb d_M_record_93 rfl (lv_at hl 0 rfl) ?_
      refine gF (v := .int (nI x.records)) hx hb hown hE hK hP 0 rfl rfl layM 37 (by decide) w338 rfl d_M_record_94 ?_
      refine lv_aload_n hx hb d_M_record_97 rfl (lv_at hl 0 rfl) ?_
      refine gF (v := .int (nI (x.block + 1))) hx hb hown hE hK hP 0 rfl rfl layM 39 (by decide) w423 rfl d_M_record_98 ?_
      refine nistN (v := x.block + 1) hx hb hK hP hD hS 19 1 rfl rfl (x.records) (by omega) (by decide) d_M_record_101 (fun H locs hP hD hS => ?_)
      have hP : va_P D vwCl (MW dA h ad (MS.s_fresh (MS.s_used (MS.s_block (MS.s_kept (MS.s_recordBlocks (MS.s_units (MS.s_seconds (MS.s_firsts (MS.s_recordSeries (MS.s_kinds x (va_up x.kinds x.records kd)) (va_up x.recordSeries x.records w)) (va_up x.firsts x.records a)) (va_up x.seconds x.records b)) (va_up x.units x.records n)) (va_up x.recordBlocks x.records (x.block + 1))) x.records) (x.block + 1)) 0) false)) H := hP
      have hD : va_D A (MW dA h ad (MS.s_fresh (MS.s_used (MS.s_block (MS.s_kept (MS.s_recordBlocks (MS.s_units (MS.s_seconds (MS.s_firsts (MS.s_recordSeries (MS.s_kinds x (va_up x.kinds x.records kd)) (va_up x.recordSeries x.records w)) (va_up x.firsts x.records a)) (va_up x.seconds x.records b)) (va_up x.units x.records n)) (va_up x.recordBlocks x.records (x.block + 1))) x.records) (x.block + 1)) 0) false)) := hD
      refine lv_aload_n hx hb d_M_record_102 rfl (lv_at hl 0 rfl) ?_
      refine lv_dup hx hb d_M_record_103 rfl ?_
      refine gF (v := .int (nI x.records)) hx hb hown hE hK hP 0 rfl rfl layM 37 (by decide) w338 rfl d_M_record_104 ?_
      refine lv_iconst (v := 1) hx hb d_M_record_107 (by decide) ?_
      refine lv_iadd hx hb d_M_record_108 (tpi (y := nI (x.records + 1)) (nI_add (x.records) (1)) ?_)
      refine pF (v := .int (nI (x.records + 1))) hx hb hown hE hK hP hD hS 0 rfl rfl layM tyM tokM nmM 37 (by decide) w338 rfl rfl rfl (Nat.le_of_ble_eq_true rfl) d_M_record_109 (fun H locs hP hD hS => ?_)
      have hP : va_P D vwCl (MW dA h ad (MS.s_fresh (MS.s_used (MS.s_block (MS.s_kept (MS.s_records (MS.s_recordBlocks (MS.s_units (MS.s_seconds (MS.s_firsts (MS.s_recordSeries (MS.s_kinds x (va_up x.kinds x.records kd)) (va_up x.recordSeries x.records w)) (va_up x.firsts x.records a)) (va_up x.seconds x.records b)) (va_up x.units x.records n)) (va_up x.recordBlocks x.records (x.block + 1))) (x.records + 1)) x.records) (x.block + 1)) 0) false)) H := hP
      have hD : va_D A (MW dA h ad (MS.s_fresh (MS.s_used (MS.s_block (MS.s_kept (MS.s_records (MS.s_recordBlocks (MS.s_units (MS.s_seconds (MS.s_firsts (MS.s_recordSeries (MS.s_kinds x (va_up x.kinds x.records kd)) (va_up x.recordSeries x.records w)) (va_up x.firsts x.records a)) (va_up x.seconds x.records b)) (va_up x.units x.records n)) (va_up x.recordBlocks x.records (x.block + 1))) (x.records + 1)) x.records) (x.block + 1)) 0) false)) := hD
      refine lv_aload_n hx hb d_M_record_112 rfl (lv_at hl 0 rfl) ?_
      refine lv_dup hx hb d_M_record_113 rfl ?_
      refine gF (v := .int 0) hx hb hown hE hK hP 0 rfl rfl layM 40 (by decide) w424 rfl d_M_record_114 ?_
      refine lv_iload hx hb d_M_record_117 (lv_at hl 5 rfl) ?_
      refine lv_iadd hx hb d_M_record_119 (tpi (y := nI (n)) ((nI_add 0 (n)).trans (congrArg nI (Nat.zero_add _))) ?_)
      refine pF (v := .int (nI n)) hx hb hown hE hK hP hD hS 0 rfl rfl layM tyM tokM nmM 40 (by decide) w424 rfl rfl rfl (Nat.le_of_ble_eq_true rfl) d_M_record_120 (fun H locs hP hD hS => ?_)
      have hP : va_P D vwCl (MW dA h ad (MS.s_fresh (MS.s_used (MS.s_block (MS.s_kept (MS.s_records (MS.s_recordBlocks (MS.s_units (MS.s_seconds (MS.s_firsts (MS.s_recordSeries (MS.s_kinds x (va_up x.kinds x.records kd)) (va_up x.recordSeries x.records w)) (va_up x.firsts x.records a)) (va_up x.seconds x.records b)) (va_up x.units x.records n)) (va_up x.recordBlocks x.records (x.block + 1))) (x.records + 1)) x.records) (x.block + 1)) n) false)) H := hP
      have hD : va_D A (MW dA h ad (MS.s_fresh (MS.s_used (MS.s_block (MS.s_kept (MS.s_records (MS.s_recordBlocks (MS.s_units (MS.s_seconds (MS.s_firsts (MS.s_recordSeries (MS.s_kinds x (va_up x.kinds x.records kd)) (va_up x.recordSeries x.records w)) (va_up x.firsts x.records a)) (va_up x.seconds x.records b)) (va_up x.units x.records n)) (va_up x.recordBlocks x.records (x.block + 1))) (x.records + 1)) x.records) (x.block + 1)) n) false)) := hD
      refine lv_aload_n hx hb d_M_record_123 rfl (lv_at hl 0 rfl) ?_
      refine lv_iconst (v := 1) hx hb d_M_record_124 (by decide) ?_
      refine pF (v := .int (bI true)) hx hb hown hE hK hP hD hS 0 rfl rfl layM tyM tokM nmM 41 (by decide) w337 rfl (bI_nar true) (bI_fit true) (Nat.le_of_ble_eq_true rfl) d_M_record_125 (fun H locs hP hD hS => ?_)
      have hP : va_P D vwCl (MW dA h ad (MS.s_fresh (MS.s_used (MS.s_block (MS.s_kept (MS.s_records (MS.s_recordBlocks (MS.s_units (MS.s_seconds (MS.s_firsts (MS.s_recordSeries (MS.s_kinds x (va_up x.kinds x.records kd)) (va_up x.recordSeries x.records w)) (va_up x.firsts x.records a)) (va_up x.seconds x.records b)) (va_up x.units x.records n)) (va_up x.recordBlocks x.records (x.block + 1))) (x.records + 1)) x.records) (x.block + 1)) n) true)) H := hP
      have hD : va_D A (MW dA h ad (MS.s_fresh (MS.s_used (MS.s_block (MS.s_kept (MS.s_records (MS.s_recordBlocks (MS.s_units (MS.s_seconds (MS.s_firsts (MS.s_recordSeries (MS.s_kinds x (va_up x.kinds x.records kd)) (va_up x.recordSeries x.records w)) (va_up x.firsts x.records a)) (va_up x.seconds x.records b)) (va_up x.units x.records n)) (va_up x.recordBlocks x.records (x.block + 1))) (x.records + 1)) x.records) (x.block + 1)) n) true)) := hD
      refine lv_iconst (v := 1) hx hb d_M_record_128 (by decide) ?_
      have e9 : (MS.s_fresh (MS.s_used (MS.s_block (MS.s_kept (MS.s_records (MS.s_recordBlocks (MS.s_units (MS.s_seconds (MS.s_firsts (MS.s_recordSeries (MS.s_kinds x (va_up x.kinds x.records kd)) (va_up x.recordSeries x.records w)) (va_up x.firsts x.records a)) (va_up x.seconds x.records b)) (va_up x.units x.records n)) (va_up x.recordBlocks x.records (x.block + 1))) (x.records + 1)) x.records) (x.block + 1)) n) true : MS) = MS.s_fresh (MS.s_used (MS.s_block (MS.s_kept (MS.s_records (MS.s_recordBlocks (MS.s_units (MS.s_seconds (MS.s_firsts (MS.s_recordSeries (MS.s_kinds (MS.s_written (MS.s_cutLeft x (x.rCut n)) (x.rWr n)) (va_up x.kinds x.records kd)) (va_up x.recordSeries x.records w)) (va_up x.firsts x.records a)) (va_up x.seconds x.records b)) (va_up x.units x.records n)) (va_up x.recordBlocks x.records (x.rBlock n))) (x.records + 1)) (x.rKept n)) (x.rBlock n)) (x.rUsed n)) true := by rw [show (va_up x.recordBlocks x.records (x.rBlock n)) = (va_up x.recordBlocks x.records (x.block + 1)) from by simp [MS.rBlock, MS.rUsed, MS.rCut, MS.rWr, MS.rKept, *], show (x.rBlock n) = (x.block + 1) from by simp [MS.rBlock, MS.rUsed, MS.rCut, MS.rWr, MS.rKept, *], show (x.rKept n) = x.records from by simp [MS.rBlock, MS.rUsed, MS.rCut, MS.rWr, MS.rKept, *], show (x.rUsed n) = n from by simp [MS.rBlock, MS.rUsed, MS.rCut, MS.rWr, MS.rKept, *], show (x.rCut n) = x.cutLeft from by simp [MS.rBlock, MS.rUsed, MS.rCut, MS.rWr, MS.rKept, *], show (x.rWr n) = x.written from by simp [MS.rBlock, MS.rUsed, MS.rCut, MS.rWr, MS.rKept, *]] <;> rfl
      exact rfZ hx hb hr (bI_nar true) hlk hS () rfl (cvP e9 hP) (cvD e9 hD) (Nat.le_of_ble_eq_true rfl) (Nat.le_of_ble_eq_true rfl) d_M_record_129
    · refine jfI (rnV (As := []) (rest := []) hx hb hml hown hE hK (hN _ _ hS) hP hD (k_synced_1 l D dA H.size h ad x z1 z2) (q0 := 0) rfl rfl w341 w340 w342 w343 w328 rfl rfl ⟨⟨by decide, by decide⟩, rfl⟩ ⟨(Nat.le_of_ble_eq_true rfl), (Nat.le_of_ble_eq_true rfl)⟩ rfl hl.1 rfl (Nat.le_of_ble_eq_true rfl) d_M_record_13 ⟨(Nat.le_of_ble_eq_true rfl), (Nat.le_of_ble_eq_true rfl)⟩) hP hD hS hA (fun r4 u5 H locs hp9 hP hD hS => ?_)
      have hP : va_P D vwCl (MW dA h ad (MS.s_fresh (MS.s_kept (MS.s_written (MS.s_cutLeft x (cutF x.cutLeft)) (x.written + 1)) x.records) false)) H := hP
      have hD : va_D A (MW dA h ad (MS.s_fresh (MS.s_kept (MS.s_written (MS.s_cutLeft x (cutF x.cutLeft)) (x.written + 1)) x.records) false)) := hD
      replace hp9 : bI true = r4 := Eq.symm hp9
      subst hp9
      refine lv_if_ne hx hb d_M_record_16 (tgt := 21) rfl (fun _ => ?_) (fun h9 => absurd h9 (by decide))
      refine lv_aload_n hx hb d_M_record_21 rfl (lv_at hl 0 rfl) ?_
      refine lv_dup hx hb d_M_record_22 rfl ?_
      refine gF (v := .int (nI x.block)) hx hb hown hE hK hP 0 rfl rfl layM 39 (by decide) w423 rfl d_M_record_23 ?_
      refine lv_iconst (v := 1) hx hb d_M_record_26 (by decide) ?_
      refine lv_iadd hx hb d_M_record_27 (tpi (y := nI (x.block + 1)) (nI_add (x.block) (1)) ?_)
      refine pF (v := .int (nI (x.block + 1))) hx hb hown hE hK hP hD hS 0 rfl rfl layM tyM tokM nmM 39 (by decide) w423 rfl rfl rfl (Nat.le_of_ble_eq_true rfl) d_M_record_28 (fun H locs hP hD hS => ?_)
      have hP : va_P D vwCl (MW dA h ad (MS.s_fresh (MS.s_block (MS.s_kept (MS.s_written (MS.s_cutLeft x (cutF x.cutLeft)) (x.written + 1)) x.records) (x.block + 1)) false)) H := hP
      have hD : va_D A (MW dA h ad (MS.s_fresh (MS.s_block (MS.s_kept (MS.s_written (MS.s_cutLeft x (cutF x.cutLeft)) (x.written + 1)) x.records) (x.block + 1)) false)) := hD
      refine lv_aload_n hx hb d_M_record_31 rfl (lv_at hl 0 rfl) ?_
      refine lv_iconst (v := 0) hx hb d_M_record_32 (by decide) ?_
      refine pF (v := .int (nI 0)) hx hb hown hE hK hP hD hS 0 rfl rfl layM tyM tokM nmM 40 (by decide) w424 rfl rfl rfl (Nat.le_of_ble_eq_true rfl) d_M_record_33 (fun H locs hP hD hS => ?_)
      have hP : va_P D vwCl (MW dA h ad (MS.s_fresh (MS.s_used (MS.s_block (MS.s_kept (MS.s_written (MS.s_cutLeft x (cutF x.cutLeft)) (x.written + 1)) x.records) (x.block + 1)) 0) false)) H := hP
      have hD : va_D A (MW dA h ad (MS.s_fresh (MS.s_used (MS.s_block (MS.s_kept (MS.s_written (MS.s_cutLeft x (cutF x.cutLeft)) (x.written + 1)) x.records) (x.block + 1)) 0) false)) := hD
      refine lv_aload_n hx hb d_M_record_36 rfl (lv_at hl 0 rfl) ?_
      refine gF (v := .ref (ad 31)) hx hb hown hE hK hP 0 rfl rfl layM 31 (by decide) w511 rfl d_M_record_37 ?_
      refine lv_aload_n hx hb d_M_record_40 rfl (lv_at hl 0 rfl) ?_
      refine gF (v := .int (nI x.records)) hx hb hown hE hK hP 0 rfl rfl layM 37 (by decide) w338 rfl d_M_record_41 ?_
      refine lv_iload_n hx hb d_M_record_44 rfl (lv_at hl 1 rfl) ?_
      refine lv_i2b hx hb d_M_record_45 rfl ?_
      refine nbst hx hb hK hP hD hS 14 0 rfl rfl (x.records) (by omega) (by decide) kd (by rw [pk_vb]; exact hkd) d_M_record_46 (fun H locs hP hD hS => ?_)
      have hP : va_P D vwCl (MW dA h ad (MS.s_fresh (MS.s_used (MS.s_block (MS.s_kept (MS.s_kinds (MS.s_written (MS.s_cutLeft x (cutF x.cutLeft)) (x.written + 1)) (va_up x.kinds x.records kd)) x.records) (x.block + 1)) 0) false)) H := hP
      have hD : va_D A (MW dA h ad (MS.s_fresh (MS.s_used (MS.s_block (MS.s_kept (MS.s_kinds (MS.s_written (MS.s_cutLeft x (cutF x.cutLeft)) (x.written + 1)) (va_up x.kinds x.records kd)) x.records) (x.block + 1)) 0) false)) := hD
      refine lv_aload_n hx hb d_M_record_47 rfl (lv_at hl 0 rfl) ?_
      refine gF (v := .ref (ad 32)) hx hb hown hE hK hP 0 rfl rfl layM 32 (by decide) w512 rfl d_M_record_48 ?_
      refine lv_aload_n hx hb d_M_record_51 rfl (lv_at hl 0 rfl) ?_
      refine gF (v := .int (nI x.records)) hx hb hown hE hK hP 0 rfl rfl layM 37 (by decide) w338 rfl d_M_record_52 ?_
      refine lv_iload_n hx hb d_M_record_55 rfl (lv_at hl 2 rfl) ?_
      refine nistN (v := w) hx hb hK hP hD hS 15 1 rfl rfl (x.records) (by omega) (by decide) d_M_record_56 (fun H locs hP hD hS => ?_)
      have hP : va_P D vwCl (MW dA h ad (MS.s_fresh (MS.s_used (MS.s_block (MS.s_kept (MS.s_recordSeries (MS.s_kinds (MS.s_written (MS.s_cutLeft x (cutF x.cutLeft)) (x.written + 1)) (va_up x.kinds x.records kd)) (va_up x.recordSeries x.records w)) x.records) (x.block + 1)) 0) false)) H := hP
      have hD : va_D A (MW dA h ad (MS.s_fresh (MS.s_used (MS.s_block (MS.s_kept (MS.s_recordSeries (MS.s_kinds (MS.s_written (MS.s_cutLeft x (cutF x.cutLeft)) (x.written + 1)) (va_up x.kinds x.records kd)) (va_up x.recordSeries x.records w)) x.records) (x.block + 1)) 0) false)) := hD
      refine lv_aload_n hx hb d_M_record_57 rfl (lv_at hl 0 rfl) ?_
      refine gF (v := .ref (ad 33)) hx hb hown hE hK hP 0 rfl rfl layM 33 (by decide) w513 rfl d_M_record_58 ?_
      refine lv_aload_n hx hb d_M_record_61 rfl (lv_at hl 0 rfl) ?_
      refine gF (v := .int (nI x.records)) hx hb hown hE hK hP 0 rfl rfl layM 37 (by decide) w338 rfl d_M_record_62 ?_
      refine lv_lload_n hx hb d_M_record_65 rfl (lv_at hl 3 rfl) ?_
      refine nlst hx hb hK hP hD hS 16 2 rfl rfl (x.records) (by omega) (by decide) d_M_record_66 (fun H locs hP hD hS => ?_)
      have hP : va_P D vwCl (MW dA h ad (MS.s_fresh (MS.s_used (MS.s_block (MS.s_kept (MS.s_firsts (MS.s_recordSeries (MS.s_kinds (MS.s_written (MS.s_cutLeft x (cutF x.cutLeft)) (x.written + 1)) (va_up x.kinds x.records kd)) (va_up x.recordSeries x.records w)) (va_up x.firsts x.records a)) x.records) (x.block + 1)) 0) false)) H := hP
      have hD : va_D A (MW dA h ad (MS.s_fresh (MS.s_used (MS.s_block (MS.s_kept (MS.s_firsts (MS.s_recordSeries (MS.s_kinds (MS.s_written (MS.s_cutLeft x (cutF x.cutLeft)) (x.written + 1)) (va_up x.kinds x.records kd)) (va_up x.recordSeries x.records w)) (va_up x.firsts x.records a)) x.records) (x.block + 1)) 0) false)) := hD
      refine lv_aload_n hx hb d_M_record_67 rfl (lv_at hl 0 rfl) ?_
      refine gF (v := .ref (ad 34)) hx hb hown hE hK hP 0 rfl rfl layM 34 (by decide) w514 rfl d_M_record_68 ?_
      refine lv_aload_n hx hb d_M_record_71 rfl (lv_at hl 0 rfl) ?_
      refine gF (v := .int (nI x.records)) hx hb hown hE hK hP 0 rfl rfl layM 37 (by decide) w338 rfl d_M_record_72 ?_
      refine lv_lload hx hb d_M_record_75 (lv_at hl 4 rfl) ?_
      refine nlst hx hb hK hP hD hS 17 2 rfl rfl (x.records) (by omega) (by decide) d_M_record_77 (fun H locs hP hD hS => ?_)
      have hP : va_P D vwCl (MW dA h ad (MS.s_fresh (MS.s_used (MS.s_block (MS.s_kept (MS.s_seconds (MS.s_firsts (MS.s_recordSeries (MS.s_kinds (MS.s_written (MS.s_cutLeft x (cutF x.cutLeft)) (x.written + 1)) (va_up x.kinds x.records kd)) (va_up x.recordSeries x.records w)) (va_up x.firsts x.records a)) (va_up x.seconds x.records b)) x.records) (x.block + 1)) 0) false)) H := hP
      have hD : va_D A (MW dA h ad (MS.s_fresh (MS.s_used (MS.s_block (MS.s_kept (MS.s_seconds (MS.s_firsts (MS.s_recordSeries (MS.s_kinds (MS.s_written (MS.s_cutLeft x (cutF x.cutLeft)) (x.written + 1)) (va_up x.kinds x.records kd)) (va_up x.recordSeries x.records w)) (va_up x.firsts x.records a)) (va_up x.seconds x.records b)) x.records) (x.block + 1)) 0) false)) := hD
      refine lv_aload_n hx hb d_M_record_78 rfl (lv_at hl 0 rfl) ?_
      refine gF (v := .ref (ad 35)) hx hb hown hE hK hP 0 rfl rfl layM 35 (by decide) w515 rfl d_M_record_79 ?_
      refine lv_aload_n hx hb d_M_record_82 rfl (lv_at hl 0 rfl) ?_
      refine gF (v := .int (nI x.records)) hx hb hown hE hK hP 0 rfl rfl layM 37 (by decide) w338 rfl d_M_record_83 ?_
      refine lv_iload hx hb d_M_record_86 (lv_at hl 5 rfl) ?_
      refine nistN (v := n) hx hb hK hP hD hS 18 1 rfl rfl (x.records) (by omega) (by decide) d_M_record_88 (fun H locs hP hD hS => ?_)
      have hP : va_P D vwCl (MW dA h ad (MS.s_fresh (MS.s_used (MS.s_block (MS.s_kept (MS.s_units (MS.s_seconds (MS.s_firsts (MS.s_recordSeries (MS.s_kinds (MS.s_written (MS.s_cutLeft x (cutF x.cutLeft)) (x.written + 1)) (va_up x.kinds x.records kd)) (va_up x.recordSeries x.records w)) (va_up x.firsts x.records a)) (va_up x.seconds x.records b)) (va_up x.units x.records n)) x.records) (x.block + 1)) 0) false)) H := hP
      have hD : va_D A (MW dA h ad (MS.s_fresh (MS.s_used (MS.s_block (MS.s_kept (MS.s_units (MS.s_seconds (MS.s_firsts (MS.s_recordSeries (MS.s_kinds (MS.s_written (MS.s_cutLeft x (cutF x.cutLeft)) (x.written + 1)) (va_up x.kinds x.records kd)) (va_up x.recordSeries x.records w)) (va_up x.firsts x.records a)) (va_up x.seconds x.records b)) (va_up x.units x.records n)) x.records) (x.block + 1)) 0) false)) := hD
      refine lv_aload_n hx hb d_M_record_89 rfl (lv_at hl 0 rfl) ?_
      refine gF (v := .ref (ad 36)) hx hb hown hE hK hP 0 rfl rfl layM 36 (by decide) w516 rfl d_M_record_90 ?_
      refine lv_aload_n hx hb d_M_record_93 rfl (lv_at hl 0 rfl) ?_
      refine gF (v := .int (nI x.records)) hx hb hown hE hK hP 0 rfl rfl layM 37 (by decide) w338 rfl d_M_record_94 ?_
      refine lv_aload_n hx hb d_M_record_97 rfl (lv_at hl 0 rfl) ?_
      refine gF (v := .int (nI (x.block + 1))) hx hb hown hE hK hP 0 rfl rfl layM 39 (by decide) w423 rfl d_M_record_98 ?_
      refine nistN (v := x.block + 1) hx hb hK hP hD hS 19 1 rfl rfl (x.records) (by omega) (by decide) d_M_record_101 (fun H locs hP hD hS => ?_)
      have hP : va_P D vwCl (MW dA h ad (MS.s_fresh (MS.s_used (MS.s_block (MS.s_kept (MS.s_recordBlocks (MS.s_units (MS.s_seconds (MS.s_firsts (MS.s_recordSeries (MS.s_kinds (MS.s_written (MS.s_cutLeft x (cutF x.cutLeft)) (x.written + 1)) (va_up x.kinds x.records kd)) (va_up x.recordSeries x.records w)) (va_up x.firsts x.records a)) (va_up x.seconds x.records b)) (va_up x.units x.records n)) (va_up x.recordBlocks x.records (x.block + 1))) x.records) (x.block + 1)) 0) false)) H := hP
      have hD : va_D A (MW dA h ad (MS.s_fresh (MS.s_used (MS.s_block (MS.s_kept (MS.s_recordBlocks (MS.s_units (MS.s_seconds (MS.s_firsts (MS.s_recordSeries (MS.s_kinds (MS.s_written (MS.s_cutLeft x (cutF x.cutLeft)) (x.written + 1)) (va_up x.kinds x.records kd)) (va_up x.recordSeries x.records w)) (va_up x.firsts x.records a)) (va_up x.seconds x.records b)) (va_up x.units x.records n)) (va_up x.recordBlocks x.records (x.block + 1))) x.records) (x.block + 1)) 0) false)) := hD
      refine lv_aload_n hx hb d_M_record_102 rfl (lv_at hl 0 rfl) ?_
      refine lv_dup hx hb d_M_record_103 rfl ?_
      refine gF (v := .int (nI x.records)) hx hb hown hE hK hP 0 rfl rfl layM 37 (by decide) w338 rfl d_M_record_104 ?_
      refine lv_iconst (v := 1) hx hb d_M_record_107 (by decide) ?_
      refine lv_iadd hx hb d_M_record_108 (tpi (y := nI (x.records + 1)) (nI_add (x.records) (1)) ?_)
      refine pF (v := .int (nI (x.records + 1))) hx hb hown hE hK hP hD hS 0 rfl rfl layM tyM tokM nmM 37 (by decide) w338 rfl rfl rfl (Nat.le_of_ble_eq_true rfl) d_M_record_109 (fun H locs hP hD hS => ?_)
      have hP : va_P D vwCl (MW dA h ad (MS.s_fresh (MS.s_used (MS.s_block (MS.s_kept (MS.s_records (MS.s_recordBlocks (MS.s_units (MS.s_seconds (MS.s_firsts (MS.s_recordSeries (MS.s_kinds (MS.s_written (MS.s_cutLeft x (cutF x.cutLeft)) (x.written + 1)) (va_up x.kinds x.records kd)) (va_up x.recordSeries x.records w)) (va_up x.firsts x.records a)) (va_up x.seconds x.records b)) (va_up x.units x.records n)) (va_up x.recordBlocks x.records (x.block + 1))) (x.records + 1)) x.records) (x.block + 1)) 0) false)) H := hP
      have hD : va_D A (MW dA h ad (MS.s_fresh (MS.s_used (MS.s_block (MS.s_kept (MS.s_records (MS.s_recordBlocks (MS.s_units (MS.s_seconds (MS.s_firsts (MS.s_recordSeries (MS.s_kinds (MS.s_written (MS.s_cutLeft x (cutF x.cutLeft)) (x.written + 1)) (va_up x.kinds x.records kd)) (va_up x.recordSeries x.records w)) (va_up x.firsts x.records a)) (va_up x.seconds x.records b)) (va_up x.units x.records n)) (va_up x.recordBlocks x.records (x.block + 1))) (x.records + 1)) x.records) (x.block + 1)) 0) false)) := hD
      refine lv_aload_n hx hb d_M_record_112 rfl (lv_at hl 0 rfl) ?_
      refine lv_dup hx hb d_M_record_113 rfl ?_
      refine gF (v := .int 0) hx hb hown hE hK hP 0 rfl rfl layM 40 (by decide) w424 rfl d_M_record_114 ?_
      refine lv_iload hx hb d_M_record_117 (lv_at hl 5 rfl) ?_
      refine lv_iadd hx hb d_M_record_119 (tpi (y := nI (n)) ((nI_add 0 (n)).trans (congrArg nI (Nat.zero_add _))) ?_)
      refine pF (v := .int (nI n)) hx hb hown hE hK hP hD hS 0 rfl rfl layM tyM tokM nmM 40 (by decide) w424 rfl rfl rfl (Nat.le_of_ble_eq_true rfl) d_M_record_120 (fun H locs hP hD hS => ?_)
      have hP : va_P D vwCl (MW dA h ad (MS.s_fresh (MS.s_used (MS.s_block (MS.s_kept (MS.s_records (MS.s_recordBlocks (MS.s_units (MS.s_seconds (MS.s_firsts (MS.s_recordSeries (MS.s_kinds (MS.s_written (MS.s_cutLeft x (cutF x.cutLeft)) (x.written + 1)) (va_up x.kinds x.records kd)) (va_up x.recordSeries x.records w)) (va_up x.firsts x.records a)) (va_up x.seconds x.records b)) (va_up x.units x.records n)) (va_up x.recordBlocks x.records (x.block + 1))) (x.records + 1)) x.records) (x.block + 1)) n) false)) H := hP
      have hD : va_D A (MW dA h ad (MS.s_fresh (MS.s_used (MS.s_block (MS.s_kept (MS.s_records (MS.s_recordBlocks (MS.s_units (MS.s_seconds (MS.s_firsts (MS.s_recordSeries (MS.s_kinds (MS.s_written (MS.s_cutLeft x (cutF x.cutLeft)) (x.written + 1)) (va_up x.kinds x.records kd)) (va_up x.recordSeries x.records w)) (va_up x.firsts x.records a)) (va_up x.seconds x.records b)) (va_up x.units x.records n)) (va_up x.recordBlocks x.records (x.block + 1))) (x.records + 1)) x.records) (x.block + 1)) n) false)) := hD
      refine lv_aload_n hx hb d_M_record_123 rfl (lv_at hl 0 rfl) ?_
      refine lv_iconst (v := 1) hx hb d_M_record_124 (by decide) ?_
      refine pF (v := .int (bI true)) hx hb hown hE hK hP hD hS 0 rfl rfl layM tyM tokM nmM 41 (by decide) w337 rfl (bI_nar true) (bI_fit true) (Nat.le_of_ble_eq_true rfl) d_M_record_125 (fun H locs hP hD hS => ?_)
      have hP : va_P D vwCl (MW dA h ad (MS.s_fresh (MS.s_used (MS.s_block (MS.s_kept (MS.s_records (MS.s_recordBlocks (MS.s_units (MS.s_seconds (MS.s_firsts (MS.s_recordSeries (MS.s_kinds (MS.s_written (MS.s_cutLeft x (cutF x.cutLeft)) (x.written + 1)) (va_up x.kinds x.records kd)) (va_up x.recordSeries x.records w)) (va_up x.firsts x.records a)) (va_up x.seconds x.records b)) (va_up x.units x.records n)) (va_up x.recordBlocks x.records (x.block + 1))) (x.records + 1)) x.records) (x.block + 1)) n) true)) H := hP
      have hD : va_D A (MW dA h ad (MS.s_fresh (MS.s_used (MS.s_block (MS.s_kept (MS.s_records (MS.s_recordBlocks (MS.s_units (MS.s_seconds (MS.s_firsts (MS.s_recordSeries (MS.s_kinds (MS.s_written (MS.s_cutLeft x (cutF x.cutLeft)) (x.written + 1)) (va_up x.kinds x.records kd)) (va_up x.recordSeries x.records w)) (va_up x.firsts x.records a)) (va_up x.seconds x.records b)) (va_up x.units x.records n)) (va_up x.recordBlocks x.records (x.block + 1))) (x.records + 1)) x.records) (x.block + 1)) n) true)) := hD
      refine lv_iconst (v := 1) hx hb d_M_record_128 (by decide) ?_
      have e9 : (MS.s_fresh (MS.s_used (MS.s_block (MS.s_kept (MS.s_records (MS.s_recordBlocks (MS.s_units (MS.s_seconds (MS.s_firsts (MS.s_recordSeries (MS.s_kinds (MS.s_written (MS.s_cutLeft x (cutF x.cutLeft)) (x.written + 1)) (va_up x.kinds x.records kd)) (va_up x.recordSeries x.records w)) (va_up x.firsts x.records a)) (va_up x.seconds x.records b)) (va_up x.units x.records n)) (va_up x.recordBlocks x.records (x.block + 1))) (x.records + 1)) x.records) (x.block + 1)) n) true : MS) = MS.s_fresh (MS.s_used (MS.s_block (MS.s_kept (MS.s_records (MS.s_recordBlocks (MS.s_units (MS.s_seconds (MS.s_firsts (MS.s_recordSeries (MS.s_kinds (MS.s_written (MS.s_cutLeft x (x.rCut n)) (x.rWr n)) (va_up x.kinds x.records kd)) (va_up x.recordSeries x.records w)) (va_up x.firsts x.records a)) (va_up x.seconds x.records b)) (va_up x.units x.records n)) (va_up x.recordBlocks x.records (x.rBlock n))) (x.records + 1)) (x.rKept n)) (x.rBlock n)) (x.rUsed n)) true := by rw [show (va_up x.recordBlocks x.records (x.rBlock n)) = (va_up x.recordBlocks x.records (x.block + 1)) from by simp [MS.rBlock, MS.rUsed, MS.rCut, MS.rWr, MS.rKept, *], show (x.rBlock n) = (x.block + 1) from by simp [MS.rBlock, MS.rUsed, MS.rCut, MS.rWr, MS.rKept, *], show (x.rKept n) = x.records from by simp [MS.rBlock, MS.rUsed, MS.rCut, MS.rWr, MS.rKept, *], show (x.rUsed n) = n from by simp [MS.rBlock, MS.rUsed, MS.rCut, MS.rWr, MS.rKept, *], show (x.rCut n) = (cutF x.cutLeft) from by simp [MS.rBlock, MS.rUsed, MS.rCut, MS.rWr, MS.rKept, *], show (x.rWr n) = (x.written + 1) from by simp [MS.rBlock, MS.rUsed, MS.rCut, MS.rWr, MS.rKept, *]] <;> rfl
      exact rfZ hx hb hr (bI_nar true) hlk hS () rfl (cvP e9 hP) (cvD e9 hD) (Nat.le_of_ble_eq_true rfl) (Nat.le_of_ble_eq_true rfl) d_M_record_129
theorem d_M_record_19 : decode prog_14_method_11_code 19 = .ok (.iconst 0, 1) := by decide +kernel
theorem d_M_record_20 : decode prog_14_method_11_code 20 = .ok (.ireturn, 1) := by decide +kernel
set_option maxHeartbeats 4000000 in
set_option maxRecDepth 100000 in
theorem k_record_x (l : Launch) (D : va_G) (dA : Nat → ClassId) (sz : Nat) (h : Nat) (ad : Nat → Nat) (x : MS) (kd : Int32) (w : Nat) (a : Int64) (b : Int64) (n : Nat) (h2 : x.used + n < 2 ^ 31) (h4 : 126 < x.used + n) (hf : x.fresh = true) (hc : x.cutLeft = 0) : Met l ⟨"SeriesVaultModel", "record", "(IIJJI)Z"⟩ [Cond.code ⟨"SeriesVaultModel", "record", "(IIJJI)Z"⟩ prog_14_method_11_code 8 (some FieldType.boolean)] { frames := 3, cells := 0, slots := 0, locals := 40 } (pC D dA [.ref h, .int kd, .int (nI w), .long a, .long b, .int (nI n)] (MW dA h ad x) sz) (va_Qi (fun (r9 : Int32) (u9 : Unit) => r9 = bI false) (fun (u9 : Unit) t9 => bW D (va_A (MW dA h ad x) sz) (MW dA h ad (MS.s_cutLeft (MS.s_on x false) (-1))) t9) (va_A (MW dA h ad x) sz)) 0 0 (va_A (MW dA h ad x) sz) := by
  refine mkC (y := ⟨"SeriesVaultModel", "record", "(IIJJI)Z"⟩) (cc := prog_14_method_11_code) (maxL := 8) (av := [.ref h, .int kd, .int (nI w), .long a, .long b, .int (nI n)]) (ws := MW dA h ad x) (sz := sz) (Qc := fun A => va_Qi (fun (r9 : Int32) (u9 : Unit) => r9 = bI false) (fun (u9 : Unit) t9 => bW D A (MW dA h ad (MS.s_cutLeft (MS.s_on x false) (-1))) t9) A) (by decide) (Nat.le_of_ble_eq_true rfl) ?_
  intro A p e s m below meth c ls hsz hB
  obtain ⟨hx, hb, hr, hml, hown, hin, hlk, hE, hK, hP, hD, hS, hA, hN, hl⟩ := hB
  have hown : s.vm.findClass "SeriesVaultModel" = some m.cls := hown
  have hl : lv_has ls 8 [(0, .ref h), (1, .int kd), (2, .int (nI w)), (3, .long a), (5, .long b), (7, .int (nI n))] := hl
  obtain ⟨H, hH⟩ : ∃ z, z = s.heap := ⟨_, rfl⟩
  have hP : va_P D vwCl (MW dA h ad x) H := by rw [hH]; exact hP
  have hS : va_S A s.heap H [] := by rw [hH]; exact hS
  rw [← hH]
  refine lv_aload_n hx hb d_M_record_0 rfl (lv_at hl 0 rfl) ?_
  refine gF (v := .int (nI x.used)) hx hb hown hE hK hP 0 rfl rfl layM 40 (by decide) w424 rfl d_M_record_1 ?_
  refine lv_iload hx hb d_M_record_4 (lv_at hl 5 rfl) ?_
  refine lv_iadd hx hb d_M_record_6 (tpi (y := nI (x.used + n)) (nI_add (x.used) (n)) ?_)
  refine lv_bipush (v := 126) hx hb d_M_record_7 (by decide) ?_
  refine lv_icmp_le hx hb d_M_record_9 (tgt := 36) rfl (fun h9 => absurd h9 (mt (nI_leI (a := x.used + n) (b := 126) (by omega) (by omega)).mp (Nat.not_le.mpr h4))) (fun _ => ?_)
  refine lv_aload_n hx hb d_M_record_12 rfl (lv_at hl 0 rfl) ?_
  refine jfI (rnV (As := []) (rest := []) hx hb hml hown hE hK (hN _ _ hS) hP hD (k_synced_x l D dA H.size h ad x hf hc) (q0 := 0) rfl rfl w341 w340 w342 w343 w328 rfl rfl ⟨⟨by decide, by decide⟩, rfl⟩ ⟨(Nat.le_of_ble_eq_true rfl), (Nat.le_of_ble_eq_true rfl)⟩ rfl hl.1 rfl (Nat.le_of_ble_eq_true rfl) d_M_record_13 ⟨(Nat.le_of_ble_eq_true rfl), (Nat.le_of_ble_eq_true rfl)⟩) hP hD hS hA (fun r1 u2 H locs hp9 hP hD hS => ?_)
  have hP : va_P D vwCl (MW dA h ad (MS.s_cutLeft (MS.s_on x false) (-1))) H := hP
  have hD : va_D A (MW dA h ad (MS.s_cutLeft (MS.s_on x false) (-1))) := hD
  replace hp9 : bI false = r1 := Eq.symm hp9
  subst hp9
  refine lv_if_ne hx hb d_M_record_16 (tgt := 21) rfl (fun h9 => absurd (by decide) h9) (fun _ => ?_)
  refine lv_iconst (v := 0) hx hb d_M_record_19 (by decide) ?_
  exact rfZ hx hb hr (bI_nar false) hlk hS () rfl hP hD (Nat.le_of_ble_eq_true rfl) (Nat.le_of_ble_eq_true rfl) d_M_record_20
theorem d_M_come_0 : decode prog_14_method_16_code 0 = .ok (.aload_n 0, 1) := by decide +kernel
theorem d_M_come_1 : decode prog_14_method_16_code 1 = .ok (.getfield 36, 3) := by decide +kernel
theorem d_M_come_4 : decode prog_14_method_16_code 4 = .ok (.iload_n 1, 1) := by decide +kernel
theorem d_M_come_5 : decode prog_14_method_16_code 5 = .ok (.lload_n 2, 1) := by decide +kernel
theorem d_M_come_6 : decode prog_14_method_16_code 6 = .ok (.lastore, 1) := by decide +kernel
theorem d_M_come_7 : decode prog_14_method_16_code 7 = .ok (.lload_n 2, 1) := by decide +kernel
theorem d_M_come_8 : decode prog_14_method_16_code 8 = .ok (.aload_n 0, 1) := by decide +kernel
theorem d_M_come_9 : decode prog_14_method_16_code 9 = .ok (.getfield 172, 3) := by decide +kernel
theorem d_M_come_12 : decode prog_14_method_16_code 12 = .ok (.lcmp, 1) := by decide +kernel
theorem d_M_come_13 : decode prog_14_method_16_code 13 = .ok (.ifCond .ge 4, 3) := by decide +kernel
theorem d_M_come_16 : decode prog_14_method_16_code 16 = .ok (.return_, 1) := by decide +kernel
set_option maxHeartbeats 4000000 in
set_option maxRecDepth 100000 in
theorem k_come_0 (l : Launch) (D : va_G) (dA : Nat → ClassId) (sz : Nat) (h : Nat) (ad : Nat → Nat) (x : MS) (w : Nat) (a : Int64) (b : Int64) (hw : w < 256) (ht : a < x.horizon) : Met l ⟨"SeriesVaultModel", "come", "(IJJ)V"⟩ [Cond.code ⟨"SeriesVaultModel", "come", "(IJJ)V"⟩ prog_14_method_16_code 6 none] { frames := 1, cells := 0, slots := 0, locals := 0 } (pC D dA [.ref h, .int (nI w), .long a, .long b] (MW dA h ad x) sz) (va_Qv (fun (u9 : Unit) => True) (fun (u9 : Unit) t9 => bW D (va_A (MW dA h ad x) sz) (MW dA h ad (MS.s_lasts x (va_up x.lasts w a))) t9) (va_A (MW dA h ad x) sz)) 0 0 (va_A (MW dA h ad x) sz) := by
  refine mkC (y := ⟨"SeriesVaultModel", "come", "(IJJ)V"⟩) (cc := prog_14_method_16_code) (maxL := 6) (av := [.ref h, .int (nI w), .long a, .long b]) (ws := MW dA h ad x) (sz := sz) (Qc := fun A => va_Qv (fun (u9 : Unit) => True) (fun (u9 : Unit) t9 => bW D A (MW dA h ad (MS.s_lasts x (va_up x.lasts w a))) t9) A) (by decide) (Nat.le_of_ble_eq_true rfl) ?_
  intro A p e s m below meth c ls hsz hB
  obtain ⟨hx, hb, hr, hml, hown, hin, hlk, hE, hK, hP, hD, hS, hA, hN, hl⟩ := hB
  have hown : s.vm.findClass "SeriesVaultModel" = some m.cls := hown
  have hl : lv_has ls 6 [(0, .ref h), (1, .int (nI w)), (2, .long a), (4, .long b)] := hl
  obtain ⟨H, hH⟩ : ∃ z, z = s.heap := ⟨_, rfl⟩
  have hP : va_P D vwCl (MW dA h ad x) H := by rw [hH]; exact hP
  have hS : va_S A s.heap H [] := by rw [hH]; exact hS
  rw [← hH]
  refine lv_aload_n hx hb d_M_come_0 rfl (lv_at hl 0 rfl) ?_
  refine gF (v := .ref (ad 13)) hx hb hown hE hK hP 0 rfl rfl layM 13 (by decide) w501 rfl d_M_come_1 ?_
  refine lv_iload_n hx hb d_M_come_4 rfl (lv_at hl 1 rfl) ?_
  refine lv_lload_n hx hb d_M_come_5 rfl (lv_at hl 2 rfl) ?_
  refine nlst hx hb hK hP hD hS 4 2 rfl rfl (w) (by omega) (by decide) d_M_come_6 (fun H locs hP hD hS => ?_)
  have hP : va_P D vwCl (MW dA h ad (MS.s_lasts x (va_up x.lasts w a))) H := hP
  have hD : va_D A (MW dA h ad (MS.s_lasts x (va_up x.lasts w a))) := hD
  refine lv_lload_n hx hb d_M_come_7 rfl (lv_at hl 2 rfl) ?_
  refine lv_aload_n hx hb d_M_come_8 rfl (lv_at hl 0 rfl) ?_
  refine gF (v := .long x.horizon) hx hb hown hE hK hP 0 rfl rfl layM 24 (by decide) w421 rfl d_M_come_9 ?_
  refine W.lcmp hx hb d_M_come_12 ?_
  refine lv_if_ge hx hb d_M_come_13 (tgt := 17) rfl (fun h9 => absurd h9 (mt (lg_cmp_ge _ _).mp (Int64.not_le.mpr ht))) (fun _ => ?_)
  exact rfV hx hb hr hlk hS () trivial hP hD (Nat.le_of_ble_eq_true rfl) (Nat.le_of_ble_eq_true rfl) d_M_come_16
theorem d_M_come_17 : decode prog_14_method_16_code 17 = .ok (.aload_n 0, 1) := by decide +kernel
theorem d_M_come_18 : decode prog_14_method_16_code 18 = .ok (.getfield 43, 3) := by decide +kernel
theorem d_M_come_21 : decode prog_14_method_16_code 21 = .ok (.aload_n 0, 1) := by decide +kernel
theorem d_M_come_22 : decode prog_14_method_16_code 22 = .ok (.getfield 169, 3) := by decide +kernel
theorem d_M_come_25 : decode prog_14_method_16_code 25 = .ok (.iload_n 1, 1) := by decide +kernel
theorem d_M_come_26 : decode prog_14_method_16_code 26 = .ok (.iastore, 1) := by decide +kernel
theorem d_M_come_27 : decode prog_14_method_16_code 27 = .ok (.aload_n 0, 1) := by decide +kernel
theorem d_M_come_28 : decode prog_14_method_16_code 28 = .ok (.getfield 46, 3) := by decide +kernel
theorem d_M_come_31 : decode prog_14_method_16_code 31 = .ok (.aload_n 0, 1) := by decide +kernel
theorem d_M_come_32 : decode prog_14_method_16_code 32 = .ok (.getfield 169, 3) := by decide +kernel
theorem d_M_come_35 : decode prog_14_method_16_code 35 = .ok (.lload_n 2, 1) := by decide +kernel
theorem d_M_come_36 : decode prog_14_method_16_code 36 = .ok (.lastore, 1) := by decide +kernel
theorem d_M_come_37 : decode prog_14_method_16_code 37 = .ok (.aload_n 0, 1) := by decide +kernel
theorem d_M_come_38 : decode prog_14_method_16_code 38 = .ok (.getfield 49, 3) := by decide +kernel
theorem d_M_come_41 : decode prog_14_method_16_code 41 = .ok (.aload_n 0, 1) := by decide +kernel
theorem d_M_come_42 : decode prog_14_method_16_code 42 = .ok (.getfield 169, 3) := by decide +kernel
theorem d_M_come_45 : decode prog_14_method_16_code 45 = .ok (.lload 4, 2) := by decide +kernel
theorem d_M_come_47 : decode prog_14_method_16_code 47 = .ok (.lastore, 1) := by decide +kernel
theorem d_M_come_48 : decode prog_14_method_16_code 48 = .ok (.aload_n 0, 1) := by decide +kernel
theorem d_M_come_49 : decode prog_14_method_16_code 49 = .ok (.getfield 52, 3) := by decide +kernel
theorem d_M_come_52 : decode prog_14_method_16_code 52 = .ok (.aload_n 0, 1) := by decide +kernel
theorem d_M_come_53 : decode prog_14_method_16_code 53 = .ok (.getfield 169, 3) := by decide +kernel
theorem d_M_come_56 : decode prog_14_method_16_code 56 = .ok (.iconst (-1), 1) := by decide +kernel
theorem d_M_come_57 : decode prog_14_method_16_code 57 = .ok (.iastore, 1) := by decide +kernel
theorem d_M_come_58 : decode prog_14_method_16_code 58 = .ok (.aload_n 0, 1) := by decide +kernel
theorem d_M_come_59 : decode prog_14_method_16_code 59 = .ok (.getfield 55, 3) := by decide +kernel
theorem d_M_come_62 : decode prog_14_method_16_code 62 = .ok (.aload_n 0, 1) := by decide +kernel
theorem d_M_come_63 : decode prog_14_method_16_code 63 = .ok (.getfield 169, 3) := by decide +kernel
theorem d_M_come_66 : decode prog_14_method_16_code 66 = .ok (.iconst (-1), 1) := by decide +kernel
theorem d_M_come_67 : decode prog_14_method_16_code 67 = .ok (.iastore, 1) := by decide +kernel
theorem d_M_come_68 : decode prog_14_method_16_code 68 = .ok (.aload_n 0, 1) := by decide +kernel
theorem d_M_come_69 : decode prog_14_method_16_code 69 = .ok (.getfield 58, 3) := by decide +kernel
theorem d_M_come_72 : decode prog_14_method_16_code 72 = .ok (.aload_n 0, 1) := by decide +kernel
theorem d_M_come_73 : decode prog_14_method_16_code 73 = .ok (.getfield 169, 3) := by decide +kernel
theorem d_M_come_76 : decode prog_14_method_16_code 76 = .ok (.iconst (-1), 1) := by decide +kernel
theorem d_M_come_77 : decode prog_14_method_16_code 77 = .ok (.iastore, 1) := by decide +kernel
theorem d_M_come_78 : decode prog_14_method_16_code 78 = .ok (.aload_n 0, 1) := by decide +kernel
theorem d_M_come_79 : decode prog_14_method_16_code 79 = .ok (.dup, 1) := by decide +kernel
theorem d_M_come_80 : decode prog_14_method_16_code 80 = .ok (.getfield 169, 3) := by decide +kernel
theorem d_M_come_83 : decode prog_14_method_16_code 83 = .ok (.iconst 1, 1) := by decide +kernel
theorem d_M_come_84 : decode prog_14_method_16_code 84 = .ok (.iadd, 1) := by decide +kernel
theorem d_M_come_85 : decode prog_14_method_16_code 85 = .ok (.putfield 169, 3) := by decide +kernel
theorem d_M_come_88 : decode prog_14_method_16_code 88 = .ok (.return_, 1) := by decide +kernel
set_option maxHeartbeats 4000000 in
set_option maxRecDepth 100000 in
theorem k_come (l : Launch) (D : va_G) (dA : Nat → ClassId) (sz : Nat) (h : Nat) (ad : Nat → Nat) (x : MS) (w : Nat) (a : Int64) (b : Int64) (hw : w < 256) (ht : ¬ a < x.horizon) (h1 : x.points < 12000) : Met l ⟨"SeriesVaultModel", "come", "(IJJ)V"⟩ [Cond.code ⟨"SeriesVaultModel", "come", "(IJJ)V"⟩ prog_14_method_16_code 6 none] { frames := 1, cells := 0, slots := 0, locals := 0 } (pC D dA [.ref h, .int (nI w), .long a, .long b] (MW dA h ad x) sz) (va_Qv (fun (u9 : Unit) => True) (fun (u9 : Unit) t9 => bW D (va_A (MW dA h ad x) sz) (MW dA h ad (MS.s_points (MS.s_baseHidden (MS.s_hidden (MS.s_places (MS.s_pointValues (MS.s_pointTimes (MS.s_pointSeries (MS.s_lasts x (va_up x.lasts w a)) (va_up x.pointSeries x.points w)) (va_up x.pointTimes x.points a)) (va_up x.pointValues x.points b)) (va_up x.places x.points (-1))) (va_up x.hidden x.points (-1))) (va_up x.baseHidden x.points (-1))) (x.points + 1))) t9) (va_A (MW dA h ad x) sz)) 0 0 (va_A (MW dA h ad x) sz) := by
  refine mkC (y := ⟨"SeriesVaultModel", "come", "(IJJ)V"⟩) (cc := prog_14_method_16_code) (maxL := 6) (av := [.ref h, .int (nI w), .long a, .long b]) (ws := MW dA h ad x) (sz := sz) (Qc := fun A => va_Qv (fun (u9 : Unit) => True) (fun (u9 : Unit) t9 => bW D A (MW dA h ad (MS.s_points (MS.s_baseHidden (MS.s_hidden (MS.s_places (MS.s_pointValues (MS.s_pointTimes (MS.s_pointSeries (MS.s_lasts x (va_up x.lasts w a)) (va_up x.pointSeries x.points w)) (va_up x.pointTimes x.points a)) (va_up x.pointValues x.points b)) (va_up x.places x.points (-1))) (va_up x.hidden x.points (-1))) (va_up x.baseHidden x.points (-1))) (x.points + 1))) t9) A) (by decide) (Nat.le_of_ble_eq_true rfl) ?_
  intro A p e s m below meth c ls hsz hB
  obtain ⟨hx, hb, hr, hml, hown, hin, hlk, hE, hK, hP, hD, hS, hA, hN, hl⟩ := hB
  have hown : s.vm.findClass "SeriesVaultModel" = some m.cls := hown
  have hl : lv_has ls 6 [(0, .ref h), (1, .int (nI w)), (2, .long a), (4, .long b)] := hl
  obtain ⟨H, hH⟩ : ∃ z, z = s.heap := ⟨_, rfl⟩
  have hP : va_P D vwCl (MW dA h ad x) H := by rw [hH]; exact hP
  have hS : va_S A s.heap H [] := by rw [hH]; exact hS
  rw [← hH]
  refine lv_aload_n hx hb d_M_come_0 rfl (lv_at hl 0 rfl) ?_
  refine gF (v := .ref (ad 13)) hx hb hown hE hK hP 0 rfl rfl layM 13 (by decide) w501 rfl d_M_come_1 ?_
  refine lv_iload_n hx hb d_M_come_4 rfl (lv_at hl 1 rfl) ?_
  refine lv_lload_n hx hb d_M_come_5 rfl (lv_at hl 2 rfl) ?_
  refine nlst hx hb hK hP hD hS 4 2 rfl rfl (w) (by omega) (by decide) d_M_come_6 (fun H locs hP hD hS => ?_)
  have hP : va_P D vwCl (MW dA h ad (MS.s_lasts x (va_up x.lasts w a))) H := hP
  have hD : va_D A (MW dA h ad (MS.s_lasts x (va_up x.lasts w a))) := hD
  refine lv_lload_n hx hb d_M_come_7 rfl (lv_at hl 2 rfl) ?_
  refine lv_aload_n hx hb d_M_come_8 rfl (lv_at hl 0 rfl) ?_
  refine gF (v := .long x.horizon) hx hb hown hE hK hP 0 rfl rfl layM 24 (by decide) w421 rfl d_M_come_9 ?_
  refine W.lcmp hx hb d_M_come_12 ?_
  refine lv_if_ge hx hb d_M_come_13 (tgt := 17) rfl (fun _ => ?_) (fun h9 => absurd ((lg_cmp_ge _ _).mpr (Int64.not_lt.mp ht)) h9)
  refine lv_aload_n hx hb d_M_come_17 rfl (lv_at hl 0 rfl) ?_
  refine gF (v := .ref (ad 17)) hx hb hown hE hK hP 0 rfl rfl layM 17 (by decide) w503 rfl d_M_come_18 ?_
  refine lv_aload_n hx hb d_M_come_21 rfl (lv_at hl 0 rfl) ?_
  refine gF (v := .int (nI x.points)) hx hb hown hE hK hP 0 rfl rfl layM 23 (by decide) w420 rfl d_M_come_22 ?_
  refine lv_iload_n hx hb d_M_come_25 rfl (lv_at hl 1 rfl) ?_
  refine nistN (v := w) hx hb hK hP hD hS 6 1 rfl rfl (x.points) (by omega) (by decide) d_M_come_26 (fun H locs hP hD hS => ?_)
  have hP : va_P D vwCl (MW dA h ad (MS.s_pointSeries (MS.s_lasts x (va_up x.lasts w a)) (va_up x.pointSeries x.points w))) H := hP
  have hD : va_D A (MW dA h ad (MS.s_pointSeries (MS.s_lasts x (va_up x.lasts w a)) (va_up x.pointSeries x.points w))) := hD
  refine lv_aload_n hx hb d_M_come_27 rfl (lv_at hl 0 rfl) ?_
  refine gF (v := .ref (ad 18)) hx hb hown hE hK hP 0 rfl rfl layM 18 (by decide) w504 rfl d_M_come_28 ?_
  refine lv_aload_n hx hb d_M_come_31 rfl (lv_at hl 0 rfl) ?_
  refine gF (v := .int (nI x.points)) hx hb hown hE hK hP 0 rfl rfl layM 23 (by decide) w420 rfl d_M_come_32 ?_
  refine lv_lload_n hx hb d_M_come_35 rfl (lv_at hl 2 rfl) ?_
  refine nlst hx hb hK hP hD hS 7 2 rfl rfl (x.points) (by omega) (by decide) d_M_come_36 (fun H locs hP hD hS => ?_)
  have hP : va_P D vwCl (MW dA h ad (MS.s_pointTimes (MS.s_pointSeries (MS.s_lasts x (va_up x.lasts w a)) (va_up x.pointSeries x.points w)) (va_up x.pointTimes x.points a))) H := hP
  have hD : va_D A (MW dA h ad (MS.s_pointTimes (MS.s_pointSeries (MS.s_lasts x (va_up x.lasts w a)) (va_up x.pointSeries x.points w)) (va_up x.pointTimes x.points a))) := hD
  refine lv_aload_n hx hb d_M_come_37 rfl (lv_at hl 0 rfl) ?_
  refine gF (v := .ref (ad 19)) hx hb hown hE hK hP 0 rfl rfl layM 19 (by decide) w505 rfl d_M_come_38 ?_
  refine lv_aload_n hx hb d_M_come_41 rfl (lv_at hl 0 rfl) ?_
  refine gF (v := .int (nI x.points)) hx hb hown hE hK hP 0 rfl rfl layM 23 (by decide) w420 rfl d_M_come_42 ?_
  refine lv_lload hx hb d_M_come_45 (lv_at hl 3 rfl) ?_
  refine nlst hx hb hK hP hD hS 8 2 rfl rfl (x.points) (by omega) (by decide) d_M_come_47 (fun H locs hP hD hS => ?_)
  have hP : va_P D vwCl (MW dA h ad (MS.s_pointValues (MS.s_pointTimes (MS.s_pointSeries (MS.s_lasts x (va_up x.lasts w a)) (va_up x.pointSeries x.points w)) (va_up x.pointTimes x.points a)) (va_up x.pointValues x.points b))) H := hP
  have hD : va_D A (MW dA h ad (MS.s_pointValues (MS.s_pointTimes (MS.s_pointSeries (MS.s_lasts x (va_up x.lasts w a)) (va_up x.pointSeries x.points w)) (va_up x.pointTimes x.points a)) (va_up x.pointValues x.points b))) := hD
  refine lv_aload_n hx hb d_M_come_48 rfl (lv_at hl 0 rfl) ?_
  refine gF (v := .ref (ad 20)) hx hb hown hE hK hP 0 rfl rfl layM 20 (by decide) w506 rfl d_M_come_49 ?_
  refine lv_aload_n hx hb d_M_come_52 rfl (lv_at hl 0 rfl) ?_
  refine gF (v := .int (nI x.points)) hx hb hown hE hK hP 0 rfl rfl layM 23 (by decide) w420 rfl d_M_come_53 ?_
  refine lv_iconst (v := (-1)) hx hb d_M_come_56 (by decide) ?_
  refine nist hx hb hK hP hD hS 9 1 rfl rfl (x.points) (by omega) (by decide) d_M_come_57 (fun H locs hP hD hS => ?_)
  have hP : va_P D vwCl (MW dA h ad (MS.s_places (MS.s_pointValues (MS.s_pointTimes (MS.s_pointSeries (MS.s_lasts x (va_up x.lasts w a)) (va_up x.pointSeries x.points w)) (va_up x.pointTimes x.points a)) (va_up x.pointValues x.points b)) (va_up x.places x.points (-1)))) H := hP
  have hD : va_D A (MW dA h ad (MS.s_places (MS.s_pointValues (MS.s_pointTimes (MS.s_pointSeries (MS.s_lasts x (va_up x.lasts w a)) (va_up x.pointSeries x.points w)) (va_up x.pointTimes x.points a)) (va_up x.pointValues x.points b)) (va_up x.places x.points (-1)))) := hD
  refine lv_aload_n hx hb d_M_come_58 rfl (lv_at hl 0 rfl) ?_
  refine gF (v := .ref (ad 21)) hx hb hown hE hK hP 0 rfl rfl layM 21 (by decide) w507 rfl d_M_come_59 ?_
  refine lv_aload_n hx hb d_M_come_62 rfl (lv_at hl 0 rfl) ?_
  refine gF (v := .int (nI x.points)) hx hb hown hE hK hP 0 rfl rfl layM 23 (by decide) w420 rfl d_M_come_63 ?_
  refine lv_iconst (v := (-1)) hx hb d_M_come_66 (by decide) ?_
  refine nist hx hb hK hP hD hS 10 1 rfl rfl (x.points) (by omega) (by decide) d_M_come_67 (fun H locs hP hD hS => ?_)
  have hP : va_P D vwCl (MW dA h ad (MS.s_hidden (MS.s_places (MS.s_pointValues (MS.s_pointTimes (MS.s_pointSeries (MS.s_lasts x (va_up x.lasts w a)) (va_up x.pointSeries x.points w)) (va_up x.pointTimes x.points a)) (va_up x.pointValues x.points b)) (va_up x.places x.points (-1))) (va_up x.hidden x.points (-1)))) H := hP
  have hD : va_D A (MW dA h ad (MS.s_hidden (MS.s_places (MS.s_pointValues (MS.s_pointTimes (MS.s_pointSeries (MS.s_lasts x (va_up x.lasts w a)) (va_up x.pointSeries x.points w)) (va_up x.pointTimes x.points a)) (va_up x.pointValues x.points b)) (va_up x.places x.points (-1))) (va_up x.hidden x.points (-1)))) := hD
  refine lv_aload_n hx hb d_M_come_68 rfl (lv_at hl 0 rfl) ?_
  refine gF (v := .ref (ad 22)) hx hb hown hE hK hP 0 rfl rfl layM 22 (by decide) w508 rfl d_M_come_69 ?_
  refine lv_aload_n hx hb d_M_come_72 rfl (lv_at hl 0 rfl) ?_
  refine gF (v := .int (nI x.points)) hx hb hown hE hK hP 0 rfl rfl layM 23 (by decide) w420 rfl d_M_come_73 ?_
  refine lv_iconst (v := (-1)) hx hb d_M_come_76 (by decide) ?_
  refine nist hx hb hK hP hD hS 11 1 rfl rfl (x.points) (by omega) (by decide) d_M_come_77 (fun H locs hP hD hS => ?_)
  have hP : va_P D vwCl (MW dA h ad (MS.s_baseHidden (MS.s_hidden (MS.s_places (MS.s_pointValues (MS.s_pointTimes (MS.s_pointSeries (MS.s_lasts x (va_up x.lasts w a)) (va_up x.pointSeries x.points w)) (va_up x.pointTimes x.points a)) (va_up x.pointValues x.points b)) (va_up x.places x.points (-1))) (va_up x.hidden x.points (-1))) (va_up x.baseHidden x.points (-1)))) H := hP
  have hD : va_D A (MW dA h ad (MS.s_baseHidden (MS.s_hidden (MS.s_places (MS.s_pointValues (MS.s_pointTimes (MS.s_pointSeries (MS.s_lasts x (va_up x.lasts w a)) (va_up x.pointSeries x.points w)) (va_up x.pointTimes x.points a)) (va_up x.pointValues x.points b)) (va_up x.places x.points (-1))) (va_up x.hidden x.points (-1))) (va_up x.baseHidden x.points (-1)))) := hD
  refine lv_aload_n hx hb d_M_come_78 rfl (lv_at hl 0 rfl) ?_
  refine lv_dup hx hb d_M_come_79 rfl ?_
  refine gF (v := .int (nI x.points)) hx hb hown hE hK hP 0 rfl rfl layM 23 (by decide) w420 rfl d_M_come_80 ?_
  refine lv_iconst (v := 1) hx hb d_M_come_83 (by decide) ?_
  refine lv_iadd hx hb d_M_come_84 (tpi (y := nI (x.points + 1)) (nI_add (x.points) (1)) ?_)
  refine pF (v := .int (nI (x.points + 1))) hx hb hown hE hK hP hD hS 0 rfl rfl layM tyM tokM nmM 23 (by decide) w420 rfl rfl rfl (Nat.le_of_ble_eq_true rfl) d_M_come_85 (fun H locs hP hD hS => ?_)
  have hP : va_P D vwCl (MW dA h ad (MS.s_points (MS.s_baseHidden (MS.s_hidden (MS.s_places (MS.s_pointValues (MS.s_pointTimes (MS.s_pointSeries (MS.s_lasts x (va_up x.lasts w a)) (va_up x.pointSeries x.points w)) (va_up x.pointTimes x.points a)) (va_up x.pointValues x.points b)) (va_up x.places x.points (-1))) (va_up x.hidden x.points (-1))) (va_up x.baseHidden x.points (-1))) (x.points + 1))) H := hP
  have hD : va_D A (MW dA h ad (MS.s_points (MS.s_baseHidden (MS.s_hidden (MS.s_places (MS.s_pointValues (MS.s_pointTimes (MS.s_pointSeries (MS.s_lasts x (va_up x.lasts w a)) (va_up x.pointSeries x.points w)) (va_up x.pointTimes x.points a)) (va_up x.pointValues x.points b)) (va_up x.places x.points (-1))) (va_up x.hidden x.points (-1))) (va_up x.baseHidden x.points (-1))) (x.points + 1))) := hD
  exact rfV hx hb hr hlk hS () trivial hP hD (Nat.le_of_ble_eq_true rfl) (Nat.le_of_ble_eq_true rfl) d_M_come_88
theorem seen_mapT {x : MS} {k : Nat} {c : Nat → Bool} {g1 g2 : Nat → Int32} : (MS.s_hidden (MS.s_places x (mapT k c g2 x.places)) (mapT k c g1 x.hidden)).seen k = x.seen k := by
  unfold MS.seen
  show (!decide (mapT k c g2 x.places k ≤ -2) && (!decide (0 ≤ mapT k c g1 x.hidden k) && _)) = _
  rw [mapT_at _ _ _ (Nat.le_refl k), mapT_at _ _ _ (Nat.le_refl k)]
def MS.gH (x : MS) (z : Nat) : Int32 := if x.places z < 0 then (-1) else nI x.deletes
def MS.gP (x : MS) (z : Nat) : Int32 := if x.places z < 0 then (-2) else x.places z
theorem d_M_go_0 : decode prog_14_method_17_code 0 = .ok (.iconst 0, 1) := by decide +kernel
theorem d_M_go_1 : decode prog_14_method_17_code 1 = .ok (.istore 6, 2) := by decide +kernel
theorem d_M_go_3 : decode prog_14_method_17_code 3 = .ok (.iconst 0, 1) := by decide +kernel
theorem d_M_go_4 : decode prog_14_method_17_code 4 = .ok (.istore 7, 2) := by decide +kernel
theorem d_M_go_6 : decode prog_14_method_17_code 6 = .ok (.iload 7, 2) := by decide +kernel
theorem d_M_go_8 : decode prog_14_method_17_code 8 = .ok (.aload_n 0, 1) := by decide +kernel
theorem d_M_go_9 : decode prog_14_method_17_code 9 = .ok (.getfield 169, 3) := by decide +kernel
theorem d_M_go_12 : decode prog_14_method_17_code 12 = .ok (.if_icmp .ge 114, 3) := by decide +kernel
theorem d_M_go_126 : decode prog_14_method_17_code 126 = .ok (.aload_n 0, 1) := by decide +kernel
theorem d_M_go_127 : decode prog_14_method_17_code 127 = .ok (.dup, 1) := by decide +kernel
theorem d_M_go_128 : decode prog_14_method_17_code 128 = .ok (.getfield 211, 3) := by decide +kernel
theorem d_M_go_131 : decode prog_14_method_17_code 131 = .ok (.iconst 1, 1) := by decide +kernel
theorem d_M_go_132 : decode prog_14_method_17_code 132 = .ok (.iadd, 1) := by decide +kernel
theorem d_M_go_133 : decode prog_14_method_17_code 133 = .ok (.putfield 211, 3) := by decide +kernel
theorem d_M_go_136 : decode prog_14_method_17_code 136 = .ok (.iload 6, 2) := by decide +kernel
theorem d_M_go_138 : decode prog_14_method_17_code 138 = .ok (.ireturn, 1) := by decide +kernel
theorem d_M_go_15 : decode prog_14_method_17_code 15 = .ok (.aload_n 0, 1) := by decide +kernel
theorem d_M_go_16 : decode prog_14_method_17_code 16 = .ok (.getfield 43, 3) := by decide +kernel
theorem d_M_go_19 : decode prog_14_method_17_code 19 = .ok (.iload 7, 2) := by decide +kernel
theorem d_M_go_21 : decode prog_14_method_17_code 21 = .ok (.iaload, 1) := by decide +kernel
theorem d_M_go_22 : decode prog_14_method_17_code 22 = .ok (.iload_n 1, 1) := by decide +kernel
theorem d_M_go_23 : decode prog_14_method_17_code 23 = .ok (.if_icmp .ne 97, 3) := by decide +kernel
theorem d_M_go_120 : decode prog_14_method_17_code 120 = .ok (.iinc 7 1, 3) := by decide +kernel
theorem d_M_go_123 : decode prog_14_method_17_code 123 = .ok (.goto (-117), 3) := by decide +kernel
theorem d_M_go_26 : decode prog_14_method_17_code 26 = .ok (.aload_n 0, 1) := by decide +kernel
theorem d_M_go_27 : decode prog_14_method_17_code 27 = .ok (.iload 7, 2) := by decide +kernel
theorem d_M_go_29 : decode prog_14_method_17_code 29 = .ok (.invokevirtual 207, 3) := by decide +kernel
theorem d_M_go_32 : decode prog_14_method_17_code 32 = .ok (.ifCond .eq 88, 3) := by decide +kernel
theorem d_M_go_35 : decode prog_14_method_17_code 35 = .ok (.aload_n 0, 1) := by decide +kernel
theorem d_M_go_36 : decode prog_14_method_17_code 36 = .ok (.getfield 46, 3) := by decide +kernel
theorem d_M_go_39 : decode prog_14_method_17_code 39 = .ok (.iload 7, 2) := by decide +kernel
theorem d_M_go_41 : decode prog_14_method_17_code 41 = .ok (.laload, 1) := by decide +kernel
theorem d_M_go_42 : decode prog_14_method_17_code 42 = .ok (.lload_n 2, 1) := by decide +kernel
theorem d_M_go_43 : decode prog_14_method_17_code 43 = .ok (.lcmp, 1) := by decide +kernel
theorem d_M_go_44 : decode prog_14_method_17_code 44 = .ok (.ifCond .lt 76, 3) := by decide +kernel
theorem d_M_go_47 : decode prog_14_method_17_code 47 = .ok (.aload_n 0, 1) := by decide +kernel
theorem d_M_go_48 : decode prog_14_method_17_code 48 = .ok (.getfield 46, 3) := by decide +kernel
theorem d_M_go_51 : decode prog_14_method_17_code 51 = .ok (.iload 7, 2) := by decide +kernel
theorem d_M_go_53 : decode prog_14_method_17_code 53 = .ok (.laload, 1) := by decide +kernel
theorem d_M_go_54 : decode prog_14_method_17_code 54 = .ok (.lload 4, 2) := by decide +kernel
theorem d_M_go_56 : decode prog_14_method_17_code 56 = .ok (.lcmp, 1) := by decide +kernel
theorem d_M_go_57 : decode prog_14_method_17_code 57 = .ok (.ifCond .le 6, 3) := by decide +kernel
theorem d_M_go_63 : decode prog_14_method_17_code 63 = .ok (.iinc 6 1, 3) := by decide +kernel
theorem d_M_go_66 : decode prog_14_method_17_code 66 = .ok (.aload_n 0, 1) := by decide +kernel
theorem d_M_go_67 : decode prog_14_method_17_code 67 = .ok (.getfield 55, 3) := by decide +kernel
theorem d_M_go_70 : decode prog_14_method_17_code 70 = .ok (.iload 7, 2) := by decide +kernel
theorem d_M_go_72 : decode prog_14_method_17_code 72 = .ok (.aload_n 0, 1) := by decide +kernel
theorem d_M_go_73 : decode prog_14_method_17_code 73 = .ok (.getfield 52, 3) := by decide +kernel
theorem d_M_go_76 : decode prog_14_method_17_code 76 = .ok (.iload 7, 2) := by decide +kernel
theorem d_M_go_78 : decode prog_14_method_17_code 78 = .ok (.iaload, 1) := by decide +kernel
theorem d_M_go_79 : decode prog_14_method_17_code 79 = .ok (.ifCond .lt 10, 3) := by decide +kernel
theorem d_M_go_89 : decode prog_14_method_17_code 89 = .ok (.iconst (-1), 1) := by decide +kernel
theorem d_M_go_90 : decode prog_14_method_17_code 90 = .ok (.iastore, 1) := by decide +kernel
theorem d_M_go_91 : decode prog_14_method_17_code 91 = .ok (.aload_n 0, 1) := by decide +kernel
theorem d_M_go_92 : decode prog_14_method_17_code 92 = .ok (.getfield 52, 3) := by decide +kernel
theorem d_M_go_95 : decode prog_14_method_17_code 95 = .ok (.iload 7, 2) := by decide +kernel
theorem d_M_go_97 : decode prog_14_method_17_code 97 = .ok (.aload_n 0, 1) := by decide +kernel
theorem d_M_go_98 : decode prog_14_method_17_code 98 = .ok (.getfield 52, 3) := by decide +kernel
theorem d_M_go_101 : decode prog_14_method_17_code 101 = .ok (.iload 7, 2) := by decide +kernel
theorem d_M_go_103 : decode prog_14_method_17_code 103 = .ok (.iaload, 1) := by decide +kernel
theorem d_M_go_104 : decode prog_14_method_17_code 104 = .ok (.ifCond .lt 13, 3) := by decide +kernel
theorem d_M_go_117 : decode prog_14_method_17_code 117 = .ok (.bipush (-2), 2) := by decide +kernel
theorem d_M_go_119 : decode prog_14_method_17_code 119 = .ok (.iastore, 1) := by decide +kernel
theorem d_M_go_82 : decode prog_14_method_17_code 82 = .ok (.aload_n 0, 1) := by decide +kernel
theorem d_M_go_83 : decode prog_14_method_17_code 83 = .ok (.getfield 211, 3) := by decide +kernel
theorem d_M_go_86 : decode prog_14_method_17_code 86 = .ok (.goto 4, 3) := by decide +kernel
theorem d_M_go_107 : decode prog_14_method_17_code 107 = .ok (.aload_n 0, 1) := by decide +kernel
theorem d_M_go_108 : decode prog_14_method_17_code 108 = .ok (.getfield 52, 3) := by decide +kernel
theorem d_M_go_111 : decode prog_14_method_17_code 111 = .ok (.iload 7, 2) := by decide +kernel
theorem d_M_go_113 : decode prog_14_method_17_code 113 = .ok (.iaload, 1) := by decide +kernel
theorem d_M_go_114 : decode prog_14_method_17_code 114 = .ok (.goto 5, 3) := by decide +kernel
theorem d_M_go_60 : decode prog_14_method_17_code 60 = .ok (.goto 60, 3) := by decide +kernel
theorem w865 : Cond.fieldLink "SeriesVaultModel" 211 "SeriesVaultModel" "deletes" "I" ∈ aW := aw_of (tb_8 (List.mem_of_getElem? (i := 204) rfl)) rfl
set_option maxHeartbeats 4000000 in
set_option maxRecDepth 100000 in
theorem k_go (l : Launch) (D : va_G) (dA : Nat → ClassId) (sz : Nat) (h : Nat) (ad : Nat → Nat) (x : MS) (w : Nat) (a : Int64) (b : Int64) (h1 : x.points ≤ 12000) (h2 : x.deletes < 2 ^ 30) (hw : w < 256) (hs : ∀ q : Nat, q < x.points → x.pointSeries q < 256) : Met l ⟨"SeriesVaultModel", "go", "(IJJ)I"⟩ [Cond.code ⟨"SeriesVaultModel", "go", "(IJJ)I"⟩ prog_14_method_17_code 8 (some FieldType.int)] { frames := 2, cells := 0, slots := 0, locals := 21 } (pC D dA [.ref h, .int (nI w), .long a, .long b] (MW dA h ad x) sz) (va_Qi (fun (r9 : Int32) (u9 : Unit) => r9 = nI (cnt x.points (x.hit w a b))) (fun (u9 : Unit) t9 => bW D (va_A (MW dA h ad x) sz) (MW dA h ad (MS.s_deletes (MS.s_hidden (MS.s_places x (mapT x.points (x.hit w a b) x.gP x.places)) (mapT x.points (x.hit w a b) x.gH x.hidden)) (x.deletes + 1))) t9) (va_A (MW dA h ad x) sz)) 0 0 (va_A (MW dA h ad x) sz) := by
  refine mkC (y := ⟨"SeriesVaultModel", "go", "(IJJ)I"⟩) (cc := prog_14_method_17_code) (maxL := 8) (av := [.ref h, .int (nI w), .long a, .long b]) (ws := MW dA h ad x) (sz := sz) (Qc := fun A => va_Qi (fun (r9 : Int32) (u9 : Unit) => r9 = nI (cnt x.points (x.hit w a b))) (fun (u9 : Unit) t9 => bW D A (MW dA h ad (MS.s_deletes (MS.s_hidden (MS.s_places x (mapT x.points (x.hit w a b) x.gP x.places)) (mapT x.points (x.hit w a b) x.gH x.hidden)) (x.deletes + 1))) t9) A) (by decide) (Nat.le_of_ble_eq_true rfl) ?_
  intro A p e s m below meth c ls hsz hB
  obtain ⟨hx, hb, hr, hml, hown, hin, hlk, hE, hK, hP, hD, hS, hA, hN, hl⟩ := hB
  have hown : s.vm.findClass "SeriesVaultModel" = some m.cls := hown
  have hl : lv_has ls 8 [(0, .ref h), (1, .int (nI w)), (2, .long a), (4, .long b)] := hl
  obtain ⟨H, hH⟩ : ∃ z, z = s.heap := ⟨_, rfl⟩
  have hP : va_P D vwCl (MW dA h ad x) H := by rw [hH]; exact hP
  have hS : va_S A s.heap H [] := by rw [hH]; exact hS
  rw [← hH]
  refine lv_iconst (v := 0) hx hb d_M_go_0 (by decide) ?_
  refine lv_istore hx hb d_M_go_1 hl (by decide) rfl (fun ls hl => ?_)
  have hl : lv_has ls 8 [(6, .int 0), (0, .ref h), (1, .int (nI w)), (2, .long a), (4, .long b)] := hl
  refine lv_iconst (v := 0) hx hb d_M_go_3 (by decide) ?_
  refine lv_istore hx hb d_M_go_4 hl (by decide) rfl (fun ls hl => ?_)
  have hl : lv_has ls 8 [(7, .int 0), (6, .int 0), (0, .ref h), (1, .int (nI w)), (2, .long a), (4, .long b)] := hl
  have L6 : ∀ (k9 : Nat) (q : Nat) (n : Nat) (i1 : q ≤ x.points) (i2 : n = cnt q (x.hit w a b)) (hk9 : x.points - q = k9), ∀ (H : Heap) (locs : List Loc) (ls : Array Slot) (hP : va_P D vwCl (MW dA h ad (MS.s_hidden (MS.s_places x (mapT q (x.hit w a b) x.gP x.places)) (mapT q (x.hit w a b) x.gH x.hidden))) H) (hD : va_D A (MW dA h ad (MS.s_hidden (MS.s_places x (mapT q (x.hit w a b) x.gP x.places)) (mapT q (x.hit w a b) x.gH x.hidden)))) (hS : va_S A s.heap H locs) (hl : lv_has ls 8 [(7, .int (nI q)), (6, .int (nI n)), (0, .ref h), (1, .int (nI w)), (2, .long a), (4, .long b)]), W p l e ({ frames := 2, cells := 0, slots := 0, locals := 21 } : Room) s m ([.ref h, .int (nI w), .long a, .long b] : List Value).toArray below meth c H locs 0 0 (MQ below (va_Qi (fun (r9 : Int32) (u9 : Unit) => r9 = nI (cnt x.points (x.hit w a b))) (fun (u9 : Unit) t9 => bW D A (MW dA h ad (MS.s_deletes (MS.s_hidden (MS.s_places x (mapT x.points (x.hit w a b) x.gP x.places)) (mapT x.points (x.hit w a b) x.gH x.hidden)) (x.deletes + 1))) t9) A) ([.ref h, .int (nI w), .long a, .long b] : List Value).toArray s 0 0 A) (F0 m 6 ls []) := by
    intro k9
    induction k9 using Nat.strongRecOn with
    | ind k9 ih6 =>
      intro q n i1 i2 hk9 H locs ls hP hD hS hl
      refine lv_iload hx hb d_M_go_6 (lv_at hl 0 rfl) ?_
      refine lv_aload_n hx hb d_M_go_8 rfl (lv_at hl 2 rfl) ?_
      refine gF (v := .int (nI x.points)) hx hb hown hE hK hP 0 rfl rfl layM 23 (by decide) w420 rfl d_M_go_9 ?_
      refine lv_icmp_ge hx hb d_M_go_12 (tgt := 126) rfl (fun g1 => ?_) (fun g1 => ?_)
      · have g1 := (nI_leI (a := x.points) (b := q) (by omega) (by omega)).mp g1
        refine lv_aload_n hx hb d_M_go_126 rfl (lv_at hl 2 rfl) ?_
        refine lv_dup hx hb d_M_go_127 rfl ?_
        refine gF (v := .int (nI x.deletes)) hx hb hown hE hK hP 0 rfl rfl layM 30 (by decide) w865 rfl d_M_go_128 ?_
        refine lv_iconst (v := 1) hx hb d_M_go_131 (by decide) ?_
        refine lv_iadd hx hb d_M_go_132 (tpi (y := nI (x.deletes + 1)) (nI_add (x.deletes) (1)) ?_)
        refine pF (v := .int (nI (x.deletes + 1))) hx hb hown hE hK hP hD hS 0 rfl rfl layM tyM tokM nmM 30 (by decide) w865 rfl rfl rfl (Nat.le_of_ble_eq_true rfl) d_M_go_133 (fun H locs hP hD hS => ?_)
        have hP : va_P D vwCl (MW dA h ad (MS.s_deletes (MS.s_hidden (MS.s_places x (mapT q (x.hit w a b) x.gP x.places)) (mapT q (x.hit w a b) x.gH x.hidden)) (x.deletes + 1))) H := hP
        have hD : va_D A (MW dA h ad (MS.s_deletes (MS.s_hidden (MS.s_places x (mapT q (x.hit w a b) x.gP x.places)) (mapT q (x.hit w a b) x.gH x.hidden)) (x.deletes + 1))) := hD
        refine lv_iload hx hb d_M_go_136 (lv_at hl 1 rfl) ?_
        have e9 : (MS.s_deletes (MS.s_hidden (MS.s_places x (mapT q (x.hit w a b) x.gP x.places)) (mapT q (x.hit w a b) x.gH x.hidden)) (x.deletes + 1) : MS) = MS.s_deletes (MS.s_hidden (MS.s_places x (mapT x.points (x.hit w a b) x.gP x.places)) (mapT x.points (x.hit w a b) x.gH x.hidden)) (x.deletes + 1) := by rw [show (mapT x.points (x.hit w a b) x.gH x.hidden) = (mapT q (x.hit w a b) x.gH x.hidden) from by (rw [show q = x.points by omega]), show (mapT x.points (x.hit w a b) x.gP x.places) = (mapT q (x.hit w a b) x.gP x.places) from by (rw [show q = x.points by omega])] <;> rfl
        exact rfI hx hb hr hlk hS () (by rw [i2, show q = x.points by omega]) (cvP e9 hP) (cvD e9 hD) (Nat.le_of_ble_eq_true rfl) (Nat.le_of_ble_eq_true rfl) d_M_go_138
      · have g1 := mt (nI_leI (a := x.points) (b := q) (by omega) (by omega)).mpr g1
        refine lv_aload_n hx hb d_M_go_15 rfl (lv_at hl 2 rfl) ?_
        refine gF (v := .ref (ad 17)) hx hb hown hE hK hP 0 rfl rfl layM 17 (by decide) w503 rfl d_M_go_16 ?_
        refine lv_iload hx hb d_M_go_19 (lv_at hl 0 rfl) ?_
        refine nild (f := (fun z9 => nI (x.pointSeries z9))) hx hb hK hP 6 1 rfl rfl (q) (by omega) (by decide) d_M_go_21 ?_
        refine lv_iload_n hx hb d_M_go_22 rfl (lv_at hl 3 rfl) ?_
        have b1 := hs q (by omega)
        refine lv_icmp_ne hx hb d_M_go_23 (tgt := 120) rfl (fun g2 => ?_) (fun g2 => ?_)
        · have g2 := mt (nI_eq (a := x.pointSeries q) (b := w) (by omega) (by omega)).mpr g2
          refine lv_iinc (k := 0) (v := nI (q + 1)) hx hb d_M_go_120 hl rfl (iincN (q) 1 1 (by decide)) (by decide) rfl (fun ls hl => ?_)
          have hl : lv_has ls 8 [(7, .int (nI (q + 1))), (6, .int (nI n)), (0, .ref h), (1, .int (nI w)), (2, .long a), (4, .long b)] := hl
          refine lv_goto hx hb d_M_go_123 (tgt := 6) rfl ?_
          have e9 : (MS.s_hidden (MS.s_places x (mapT q (x.hit w a b) x.gP x.places)) (mapT q (x.hit w a b) x.gH x.hidden) : MS) = MS.s_hidden (MS.s_places x (mapT (q + 1) (x.hit w a b) x.gP x.places)) (mapT (q + 1) (x.hit w a b) x.gH x.hidden) := by rw [show (mapT (q + 1) (x.hit w a b) x.gH x.hidden) = (mapT q (x.hit w a b) x.gH x.hidden) from (by first | exact mapT_0 _ _ _ | exact mapT_f (by simp [MS.hit, *]) | exact mapT_t (by simp [MS.hit, *]) (by simp [MS.gH, MS.gP, *])), show (mapT (q + 1) (x.hit w a b) x.gP x.places) = (mapT q (x.hit w a b) x.gP x.places) from (by first | exact mapT_0 _ _ _ | exact mapT_f (by simp [MS.hit, *]) | exact mapT_t (by simp [MS.hit, *]) (by simp [MS.gH, MS.gP, *]))] <;> rfl
          exact ih6 _ (by omega) (q + 1) n (by omega) (by simp [cnt, MS.hit, *]) rfl H _ ls (cvP e9 hP) (cvD e9 hD) hS (lv_sub hl [0, 1, 2, 3, 4, 5] rfl)
        · have g2 := (nI_eq (a := x.pointSeries q) (b := w) (by omega) (by omega)).mp g2
          refine lv_aload_n hx hb d_M_go_26 rfl (lv_at hl 2 rfl) ?_
          refine lv_iload hx hb d_M_go_27 (lv_at hl 0 rfl) ?_
          refine jfI (rnV (As := [.int (nI q)]) (rest := []) hx hb hml hown hE hK (hN _ _ hS) hP hD (k_isSeen l D dA H.size h ad (MS.s_hidden (MS.s_places x (mapT q (x.hit w a b) x.gP x.places)) (mapT q (x.hit w a b) x.gH x.hidden)) q (show q < 12000 from by omega)) (q0 := 0) rfl rfl w861 w860 w862 w863 w328 rfl rfl ⟨⟨by decide, by decide⟩, rfl⟩ ⟨(Nat.le_of_ble_eq_true rfl), (Nat.le_of_ble_eq_true rfl)⟩ rfl hl.1 rfl (Nat.le_of_ble_eq_true rfl) d_M_go_29 ⟨(Nat.le_of_ble_eq_true rfl), (Nat.le_of_ble_eq_true rfl)⟩) hP hD hS hA (fun r3 u4 H locs hp9 hP hD hS => ?_)
          have hP : va_P D vwCl (MW dA h ad (MS.s_hidden (MS.s_places x (mapT q (x.hit w a b) x.gP x.places)) (mapT q (x.hit w a b) x.gH x.hidden))) H := hP
          have hD : va_D A (MW dA h ad (MS.s_hidden (MS.s_places x (mapT q (x.hit w a b) x.gP x.places)) (mapT q (x.hit w a b) x.gH x.hidden))) := hD
          replace hp9 : bI ((MS.s_hidden (MS.s_places x (mapT q (x.hit w a b) x.gP x.places)) (mapT q (x.hit w a b) x.gH x.hidden)).seen q) = r3 := Eq.symm hp9
          subst hp9
          rw [seen_mapT]
          refine lv_if_eq hx hb d_M_go_32 (tgt := 120) rfl (fun g5 => ?_) (fun g5 => ?_)
          · have g5 := bI_0 g5
            refine lv_iinc (k := 0) (v := nI (q + 1)) hx hb d_M_go_120 hl rfl (iincN (q) 1 1 (by decide)) (by decide) rfl (fun ls hl => ?_)
            have hl : lv_has ls 8 [(7, .int (nI (q + 1))), (6, .int (nI n)), (0, .ref h), (1, .int (nI w)), (2, .long a), (4, .long b)] := hl
            refine lv_goto hx hb d_M_go_123 (tgt := 6) rfl ?_
            have e9 : (MS.s_hidden (MS.s_places x (mapT q (x.hit w a b) x.gP x.places)) (mapT q (x.hit w a b) x.gH x.hidden) : MS) = MS.s_hidden (MS.s_places x (mapT (q + 1) (x.hit w a b) x.gP x.places)) (mapT (q + 1) (x.hit w a b) x.gH x.hidden) := by rw [show (mapT (q + 1) (x.hit w a b) x.gH x.hidden) = (mapT q (x.hit w a b) x.gH x.hidden) from (by first | exact mapT_0 _ _ _ | exact mapT_f (by simp [MS.hit, *]) | exact mapT_t (by simp [MS.hit, *]) (by simp [MS.gH, MS.gP, *])), show (mapT (q + 1) (x.hit w a b) x.gP x.places) = (mapT q (x.hit w a b) x.gP x.places) from (by first | exact mapT_0 _ _ _ | exact mapT_f (by simp [MS.hit, *]) | exact mapT_t (by simp [MS.hit, *]) (by simp [MS.gH, MS.gP, *]))] <;> rfl
            exact ih6 _ (by omega) (q + 1) n (by omega) (by simp [cnt, MS.hit, *]) rfl H _ ls (cvP e9 hP) (cvD e9 hD) hS (lv_sub hl [0, 1, 2, 3, 4, 5] rfl)
          · have g5 := bI_n0 g5
            refine lv_aload_n hx hb d_M_go_35 rfl (lv_at hl 2 rfl) ?_
            refine gF (v := .ref (ad 18)) hx hb hown hE hK hP 0 rfl rfl layM 18 (by decide) w504 rfl d_M_go_36 ?_
            refine lv_iload hx hb d_M_go_39 (lv_at hl 0 rfl) ?_
            refine nlld (f := x.pointTimes) hx hb hK hP 7 2 rfl rfl (q) (by omega) (by decide) d_M_go_41 ?_
            refine lv_lload_n hx hb d_M_go_42 rfl (lv_at hl 4 rfl) ?_
            refine W.lcmp hx hb d_M_go_43 ?_
            refine lv_if_lt hx hb d_M_go_44 (tgt := 120) rfl (fun g6 => ?_) (fun g6 => ?_)
            · have g6 := (lg_cmp_lt _ _).mp g6
              refine lv_iinc (k := 0) (v := nI (q + 1)) hx hb d_M_go_120 hl rfl (iincN (q) 1 1 (by decide)) (by decide) rfl (fun ls hl => ?_)
              have hl : lv_has ls 8 [(7, .int (nI (q + 1))), (6, .int (nI n)), (0, .ref h), (1, .int (nI w)), (2, .long a), (4, .long b)] := hl
              refine lv_goto hx hb d_M_go_123 (tgt := 6) rfl ?_
              have e9 : (MS.s_hidden (MS.s_places x (mapT q (x.hit w a b) x.gP x.places)) (mapT q (x.hit w a b) x.gH x.hidden) : MS) = MS.s_hidden (MS.s_places x (mapT (q + 1) (x.hit w a b) x.gP x.places)) (mapT (q + 1) (x.hit w a b) x.gH x.hidden) := by rw [show (mapT (q + 1) (x.hit w a b) x.gH x.hidden) = (mapT q (x.hit w a b) x.gH x.hidden) from (by first | exact mapT_0 _ _ _ | exact mapT_f (by simp [MS.hit, *]) | exact mapT_t (by simp [MS.hit, *]) (by simp [MS.gH, MS.gP, *])), show (mapT (q + 1) (x.hit w a b) x.gP x.places) = (mapT q (x.hit w a b) x.gP x.places) from (by first | exact mapT_0 _ _ _ | exact mapT_f (by simp [MS.hit, *]) | exact mapT_t (by simp [MS.hit, *]) (by simp [MS.gH, MS.gP, *]))] <;> rfl
              exact ih6 _ (by omega) (q + 1) n (by omega) (by simp [cnt, MS.hit, *]) rfl H _ ls (cvP e9 hP) (cvD e9 hD) hS (lv_sub hl [0, 1, 2, 3, 4, 5] rfl)
            · have g6 := mt (lg_cmp_lt _ _).mpr g6
              refine lv_aload_n hx hb d_M_go_47 rfl (lv_at hl 2 rfl) ?_
              refine gF (v := .ref (ad 18)) hx hb hown hE hK hP 0 rfl rfl layM 18 (by decide) w504 rfl d_M_go_48 ?_
              refine lv_iload hx hb d_M_go_51 (lv_at hl 0 rfl) ?_
              refine nlld (f := x.pointTimes) hx hb hK hP 7 2 rfl rfl (q) (by omega) (by decide) d_M_go_53 ?_
              refine lv_lload hx hb d_M_go_54 (lv_at hl 5 rfl) ?_
              refine W.lcmp hx hb d_M_go_56 ?_
              refine lv_if_le hx hb d_M_go_57 (tgt := 63) rfl (fun g7 => ?_) (fun g7 => ?_)
              · have g7 := (lg_cmp_le _ _).mp g7
                refine lv_iinc (k := 1) (v := nI (n + 1)) hx hb d_M_go_63 hl rfl (iincN (n) 1 1 (by decide)) (by decide) rfl (fun ls hl => ?_)
                have hl : lv_has ls 8 [(6, .int (nI (n + 1))), (7, .int (nI q)), (0, .ref h), (1, .int (nI w)), (2, .long a), (4, .long b)] := hl
                refine lv_aload_n hx hb d_M_go_66 rfl (lv_at hl 2 rfl) ?_
                refine gF (v := .ref (ad 21)) hx hb hown hE hK hP 0 rfl rfl layM 21 (by decide) w507 rfl d_M_go_67 ?_
                refine lv_iload hx hb d_M_go_70 (lv_at hl 1 rfl) ?_
                refine lv_aload_n hx hb d_M_go_72 rfl (lv_at hl 2 rfl) ?_
                refine gF (v := .ref (ad 20)) hx hb hown hE hK hP 0 rfl rfl layM 20 (by decide) w506 rfl d_M_go_73 ?_
                refine lv_iload hx hb d_M_go_76 (lv_at hl 1 rfl) ?_
                refine nild (f := (mapT q (x.hit w a b) x.gP x.places)) hx hb hK hP 9 1 rfl rfl (q) (by omega) (by decide) d_M_go_78 ?_
                refine tpi (y := (x.places q)) (mapT_at _ _ _ (Nat.le_refl q)) ?_
                refine lv_if_lt hx hb d_M_go_79 (tgt := 89) rfl (fun g8 => ?_) (fun g8 => ?_)
                · have g8 := g8
                  refine lv_iconst (v := (-1)) hx hb d_M_go_89 (by decide) ?_
                  refine nist hx hb hK hP hD hS 10 1 rfl rfl (q) (by omega) (by decide) d_M_go_90 (fun H locs hP hD hS => ?_)
                  have hP : va_P D vwCl (MW dA h ad (MS.s_hidden (MS.s_places x (mapT q (x.hit w a b) x.gP x.places)) (va_up (mapT q (x.hit w a b) x.gH x.hidden) q (-1)))) H := hP
                  have hD : va_D A (MW dA h ad (MS.s_hidden (MS.s_places x (mapT q (x.hit w a b) x.gP x.places)) (va_up (mapT q (x.hit w a b) x.gH x.hidden) q (-1)))) := hD
                  refine lv_aload_n hx hb d_M_go_91 rfl (lv_at hl 2 rfl) ?_
                  refine gF (v := .ref (ad 20)) hx hb hown hE hK hP 0 rfl rfl layM 20 (by decide) w506 rfl d_M_go_92 ?_
                  refine lv_iload hx hb d_M_go_95 (lv_at hl 1 rfl) ?_
                  refine lv_aload_n hx hb d_M_go_97 rfl (lv_at hl 2 rfl) ?_
                  refine gF (v := .ref (ad 20)) hx hb hown hE hK hP 0 rfl rfl layM 20 (by decide) w506 rfl d_M_go_98 ?_
                  refine lv_iload hx hb d_M_go_101 (lv_at hl 1 rfl) ?_
                  refine nild (f := (mapT q (x.hit w a b) x.gP x.places)) hx hb hK hP 9 1 rfl rfl (q) (by omega) (by decide) d_M_go_103 ?_
                  refine tpi (y := (x.places q)) (mapT_at _ _ _ (Nat.le_refl q)) ?_
                  refine lv_if_lt hx hb d_M_go_104 (tgt := 117) rfl (fun _ => ?_) (fun h9 => absurd g8 h9)
                  refine lv_bipush (v := (-2)) hx hb d_M_go_117 (by decide) ?_
                  refine nist hx hb hK hP hD hS 9 1 rfl rfl (q) (by omega) (by decide) d_M_go_119 (fun H locs hP hD hS => ?_)
                  have hP : va_P D vwCl (MW dA h ad (MS.s_hidden (MS.s_places x (va_up (mapT q (x.hit w a b) x.gP x.places) q (-2))) (va_up (mapT q (x.hit w a b) x.gH x.hidden) q (-1)))) H := hP
                  have hD : va_D A (MW dA h ad (MS.s_hidden (MS.s_places x (va_up (mapT q (x.hit w a b) x.gP x.places) q (-2))) (va_up (mapT q (x.hit w a b) x.gH x.hidden) q (-1)))) := hD
                  refine lv_iinc (k := 1) (v := nI (q + 1)) hx hb d_M_go_120 hl rfl (iincN (q) 1 1 (by decide)) (by decide) rfl (fun ls hl => ?_)
                  have hl : lv_has ls 8 [(7, .int (nI (q + 1))), (6, .int (nI (n + 1))), (0, .ref h), (1, .int (nI w)), (2, .long a), (4, .long b)] := hl
                  refine lv_goto hx hb d_M_go_123 (tgt := 6) rfl ?_
                  have e9 : (MS.s_hidden (MS.s_places x (va_up (mapT q (x.hit w a b) x.gP x.places) q (-2))) (va_up (mapT q (x.hit w a b) x.gH x.hidden) q (-1)) : MS) = MS.s_hidden (MS.s_places x (mapT (q + 1) (x.hit w a b) x.gP x.places)) (mapT (q + 1) (x.hit w a b) x.gH x.hidden) := by rw [show (mapT (q + 1) (x.hit w a b) x.gH x.hidden) = (va_up (mapT q (x.hit w a b) x.gH x.hidden) q (-1)) from (by first | exact mapT_0 _ _ _ | exact mapT_f (by simp [MS.hit, *]) | exact mapT_t (by simp [MS.hit, *]) (by simp [MS.gH, MS.gP, *])), show (mapT (q + 1) (x.hit w a b) x.gP x.places) = (va_up (mapT q (x.hit w a b) x.gP x.places) q (-2)) from (by first | exact mapT_0 _ _ _ | exact mapT_f (by simp [MS.hit, *]) | exact mapT_t (by simp [MS.hit, *]) (by simp [MS.gH, MS.gP, *]))] <;> rfl
                  exact ih6 _ (by omega) (q + 1) (n + 1) (by omega) (by simp [cnt, MS.hit, *]) rfl H _ ls (cvP e9 hP) (cvD e9 hD) hS (lv_sub hl [0, 1, 2, 3, 4, 5] rfl)
                · have g8 := g8
                  refine lv_aload_n hx hb d_M_go_82 rfl (lv_at hl 2 rfl) ?_
                  refine gF (v := .int (nI x.deletes)) hx hb hown hE hK hP 0 rfl rfl layM 30 (by decide) w865 rfl d_M_go_83 ?_
                  refine lv_goto hx hb d_M_go_86 (tgt := 90) rfl ?_
                  refine nist hx hb hK hP hD hS 10 1 rfl rfl (q) (by omega) (by decide) d_M_go_90 (fun H locs hP hD hS => ?_)
                  have hP : va_P D vwCl (MW dA h ad (MS.s_hidden (MS.s_places x (mapT q (x.hit w a b) x.gP x.places)) (va_up (mapT q (x.hit w a b) x.gH x.hidden) q (nI x.deletes)))) H := hP
                  have hD : va_D A (MW dA h ad (MS.s_hidden (MS.s_places x (mapT q (x.hit w a b) x.gP x.places)) (va_up (mapT q (x.hit w a b) x.gH x.hidden) q (nI x.deletes)))) := hD
                  refine lv_aload_n hx hb d_M_go_91 rfl (lv_at hl 2 rfl) ?_
                  refine gF (v := .ref (ad 20)) hx hb hown hE hK hP 0 rfl rfl layM 20 (by decide) w506 rfl d_M_go_92 ?_
                  refine lv_iload hx hb d_M_go_95 (lv_at hl 1 rfl) ?_
                  refine lv_aload_n hx hb d_M_go_97 rfl (lv_at hl 2 rfl) ?_
                  refine gF (v := .ref (ad 20)) hx hb hown hE hK hP 0 rfl rfl layM 20 (by decide) w506 rfl d_M_go_98 ?_
                  refine lv_iload hx hb d_M_go_101 (lv_at hl 1 rfl) ?_
                  refine nild (f := (mapT q (x.hit w a b) x.gP x.places)) hx hb hK hP 9 1 rfl rfl (q) (by omega) (by decide) d_M_go_103 ?_
                  refine tpi (y := (x.places q)) (mapT_at _ _ _ (Nat.le_refl q)) ?_
                  refine lv_if_lt hx hb d_M_go_104 (tgt := 117) rfl (fun h9 => absurd h9 g8) (fun _ => ?_)
                  refine lv_aload_n hx hb d_M_go_107 rfl (lv_at hl 2 rfl) ?_
                  refine gF (v := .ref (ad 20)) hx hb hown hE hK hP 0 rfl rfl layM 20 (by decide) w506 rfl d_M_go_108 ?_
                  refine lv_iload hx hb d_M_go_111 (lv_at hl 1 rfl) ?_
                  refine nild (f := (mapT q (x.hit w a b) x.gP x.places)) hx hb hK hP 9 1 rfl rfl (q) (by omega) (by decide) d_M_go_113 ?_
                  refine tpi (y := (x.places q)) (mapT_at _ _ _ (Nat.le_refl q)) ?_
                  refine lv_goto hx hb d_M_go_114 (tgt := 119) rfl ?_
                  refine nist hx hb hK hP hD hS 9 1 rfl rfl (q) (by omega) (by decide) d_M_go_119 (fun H locs hP hD hS => ?_)
                  have hP : va_P D vwCl (MW dA h ad (MS.s_hidden (MS.s_places x (va_up (mapT q (x.hit w a b) x.gP x.places) q (x.places q))) (va_up (mapT q (x.hit w a b) x.gH x.hidden) q (nI x.deletes)))) H := hP
                  have hD : va_D A (MW dA h ad (MS.s_hidden (MS.s_places x (va_up (mapT q (x.hit w a b) x.gP x.places) q (x.places q))) (va_up (mapT q (x.hit w a b) x.gH x.hidden) q (nI x.deletes)))) := hD
                  refine lv_iinc (k := 1) (v := nI (q + 1)) hx hb d_M_go_120 hl rfl (iincN (q) 1 1 (by decide)) (by decide) rfl (fun ls hl => ?_)
                  have hl : lv_has ls 8 [(7, .int (nI (q + 1))), (6, .int (nI (n + 1))), (0, .ref h), (1, .int (nI w)), (2, .long a), (4, .long b)] := hl
                  refine lv_goto hx hb d_M_go_123 (tgt := 6) rfl ?_
                  have e9 : (MS.s_hidden (MS.s_places x (va_up (mapT q (x.hit w a b) x.gP x.places) q (x.places q))) (va_up (mapT q (x.hit w a b) x.gH x.hidden) q (nI x.deletes)) : MS) = MS.s_hidden (MS.s_places x (mapT (q + 1) (x.hit w a b) x.gP x.places)) (mapT (q + 1) (x.hit w a b) x.gH x.hidden) := by rw [show (mapT (q + 1) (x.hit w a b) x.gH x.hidden) = (va_up (mapT q (x.hit w a b) x.gH x.hidden) q (nI x.deletes)) from (by first | exact mapT_0 _ _ _ | exact mapT_f (by simp [MS.hit, *]) | exact mapT_t (by simp [MS.hit, *]) (by simp [MS.gH, MS.gP, *])), show (mapT (q + 1) (x.hit w a b) x.gP x.places) = (va_up (mapT q (x.hit w a b) x.gP x.places) q (x.places q)) from (by first | exact mapT_0 _ _ _ | exact mapT_f (by simp [MS.hit, *]) | exact mapT_t (by simp [MS.hit, *]) (by simp [MS.gH, MS.gP, *]))] <;> rfl
                  exact ih6 _ (by omega) (q + 1) (n + 1) (by omega) (by simp [cnt, MS.hit, *]) rfl H _ ls (cvP e9 hP) (cvD e9 hD) hS (lv_sub hl [0, 1, 2, 3, 4, 5] rfl)
              · have g7 := mt (lg_cmp_le _ _).mpr g7
                refine lv_goto hx hb d_M_go_60 (tgt := 120) rfl ?_
                refine lv_iinc (k := 0) (v := nI (q + 1)) hx hb d_M_go_120 hl rfl (iincN (q) 1 1 (by decide)) (by decide) rfl (fun ls hl => ?_)
                have hl : lv_has ls 8 [(7, .int (nI (q + 1))), (6, .int (nI n)), (0, .ref h), (1, .int (nI w)), (2, .long a), (4, .long b)] := hl
                refine lv_goto hx hb d_M_go_123 (tgt := 6) rfl ?_
                have e9 : (MS.s_hidden (MS.s_places x (mapT q (x.hit w a b) x.gP x.places)) (mapT q (x.hit w a b) x.gH x.hidden) : MS) = MS.s_hidden (MS.s_places x (mapT (q + 1) (x.hit w a b) x.gP x.places)) (mapT (q + 1) (x.hit w a b) x.gH x.hidden) := by rw [show (mapT (q + 1) (x.hit w a b) x.gH x.hidden) = (mapT q (x.hit w a b) x.gH x.hidden) from (by first | exact mapT_0 _ _ _ | exact mapT_f (by simp [MS.hit, *]) | exact mapT_t (by simp [MS.hit, *]) (by simp [MS.gH, MS.gP, *])), show (mapT (q + 1) (x.hit w a b) x.gP x.places) = (mapT q (x.hit w a b) x.gP x.places) from (by first | exact mapT_0 _ _ _ | exact mapT_f (by simp [MS.hit, *]) | exact mapT_t (by simp [MS.hit, *]) (by simp [MS.gH, MS.gP, *]))] <;> rfl
                exact ih6 _ (by omega) (q + 1) n (by omega) (by simp [cnt, MS.hit, *]) rfl H _ ls (cvP e9 hP) (cvD e9 hD) hS (lv_sub hl [0, 1, 2, 3, 4, 5] rfl)
  have e9 : (x : MS) = MS.s_hidden (MS.s_places x (mapT 0 (x.hit w a b) x.gP x.places)) (mapT 0 (x.hit w a b) x.gH x.hidden) := by rw [show (mapT 0 (x.hit w a b) x.gH x.hidden) = x.hidden from (by first | exact mapT_0 _ _ _ | exact mapT_f (by simp [MS.hit, *]) | exact mapT_t (by simp [MS.hit, *]) (by simp [MS.gH, MS.gP, *])), show (mapT 0 (x.hit w a b) x.gP x.places) = x.places from (by first | exact mapT_0 _ _ _ | exact mapT_f (by simp [MS.hit, *]) | exact mapT_t (by simp [MS.hit, *]) (by simp [MS.gH, MS.gP, *]))] <;> rfl
  exact L6 _ 0 0 (by omega) rfl rfl H _ ls (cvP e9 hP) (cvD e9 hD) hS (lv_sub hl [0, 1, 2, 3, 4, 5] rfl)
end
