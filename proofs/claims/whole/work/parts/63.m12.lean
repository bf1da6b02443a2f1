def MS.rtC (x : MS) (t : Int64) (z : Nat) : Bool := x.seen z && !decide (t ≤ x.pointTimes z)
def MS.rtH (x : MS) (t : Int64) (z : Nat) : Bool := decide (x.places z = (-1)) && !decide (t ≤ x.pointTimes z)
/-- has point z nothing to say against letting parcel i go -/
def MS.rtA (x : MS) (t : Int64) (i z : Nat) : Bool := !decide (x.places z = nI (x.parcels i)) || !decide (t ≤ x.pointTimes z)
def MS.rtP (x : MS) (i z : Nat) : Bool := decide (x.places z = nI (x.parcels i))
def m2F (_ : Nat) : Int32 := -2
theorem nI_m1 {k : Nat} (h : 0 < k) : nI k - 1 = nI (k - 1) := by
  obtain ⟨j, rfl⟩ : ∃ j, k = j + 1 := ⟨k - 1, by omega⟩
  exact nI_pred j
theorem nI_mm {k : Nat} (h : 0 < k) : nI k - 1 + Int32.ofInt (-1) = nI (k - 1) - 1 := by
  rw [nI_m1 h, show Int32.ofInt (-1) = -1 from by decide, Int32.sub_eq_add_neg]
theorem rmS_pc (x : MS) (k : Nat) : (x.rmS k).parcelCount = x.parcelCount - 1 := rfl
def MS.rtK (x : MS) (t : Int64) (i : Nat) : MS := bif allB x.points (x.rtA t i) then (x.s_places (mapT x.points (x.rtP i) m2F x.places)).rmS i else x
/-- j parcels looked at, from number n down -/
def MS.rtJ (x : MS) (t : Int64) (n : Nat) : Nat → MS
  | 0 => x
  | j + 1 => (x.rtJ t n j).rtK t (n - 1 - j)
theorem allB_s (q : Nat) (f : Nat → Bool) : allB (q + 1) f = (allB q f && f q) := rfl
theorem d_M_retain_8 : decode prog_14_method_47_code 8 = .ok (.iconst 1, 1) := by decide +kernel
theorem d_M_retain_9 : decode prog_14_method_47_code 9 = .ok (.goto 25, 3) := by decide +kernel
set_option maxHeartbeats 4000000 in
set_option maxRecDepth 100000 in
theorem k_retain_1 (l : Launch) (D : va_G) (dA : Nat → ClassId) (sz : Nat) (h : Nat) (ad : Nat → Nat) (x : MS) (t : Int64) (ho : x.on = false) : Met l ⟨"SeriesVaultModel", "retain", "(J)I"⟩ [Cond.code ⟨"SeriesVaultModel", "retain", "(J)I"⟩ prog_14_method_47_code 7 (some FieldType.int)] { frames := 1, cells := 0, slots := 0, locals := 0 } (pC D dA [.ref h, .long t] (MW dA h ad x) sz) (va_Qi (fun (r9 : Int32) (u9 : Unit) => r9 = 0) (fun (u9 : Unit) t9 => bW D (va_A (MW dA h ad x) sz) (MW dA h ad (MS.s_cod x 1)) t9) (va_A (MW dA h ad x) sz)) 0 0 (va_A (MW dA h ad x) sz) := by
  refine mkC (y := ⟨"SeriesVaultModel", "retain", "(J)I"⟩) (cc := prog_14_method_47_code) (maxL := 7) (av := [.ref h, .long t]) (ws := MW dA h ad x) (sz := sz) (Qc := fun A => va_Qi (fun (r9 : Int32) (u9 : Unit) => r9 = 0) (fun (u9 : Unit) t9 => bW D A (MW dA h ad (MS.s_cod x 1)) t9) A) (by decide) (Nat.le_of_ble_eq_true rfl) ?_
  intro A p e s m below meth c ls hsz hB
  obtain ⟨hx, hb, hr, hml, hown, hin, hlk, hE, hK, hP, hD, hS, hA, hN, hl⟩ := hB
  have hown : s.vm.findClass "SeriesVaultModel" = some m.cls := hown
  have hl : lv_has ls 7 [(0, .ref h), (1, .long t)] := hl
  obtain ⟨H, hH⟩ : ∃ z, z = s.heap := ⟨_, rfl⟩
  have hP : va_P D vwCl (MW dA h ad x) H := by rw [hH]; exact hP
  have hS : va_S A s.heap H [] := by rw [hH]; exact hS
  rw [← hH]
  refine lv_aload_n hx hb d_M_retain_0 rfl (lv_at hl 0 rfl) ?_
  refine lv_aload_n hx hb d_M_retain_1 rfl (lv_at hl 0 rfl) ?_
  refine gF (v := .int (bI x.on)) hx hb hown hE hK hP 0 rfl rfl layM 7 (by decide) w324 rfl d_M_retain_2 ?_
  refine lv_if_ne hx hb d_M_retain_5 (tgt := 12) rfl (fun h9 => absurd (by rw [ho]; decide) h9) (fun _ => ?_)
  refine lv_iconst (v := 1) hx hb d_M_retain_8 (by decide) ?_
  refine lv_goto hx hb d_M_retain_9 (tgt := 34) rfl ?_
  refine pF (v := .int 1) hx hb hown hE hK hP hD hS 0 rfl rfl layM tyM tokM nmM 0 (by decide) w319 rfl rfl rfl (Nat.le_of_ble_eq_true rfl) d_M_retain_34 (fun H locs hP hD hS => ?_)
  have hP : va_P D vwCl (MW dA h ad (MS.s_cod x 1)) H := hP
  have hD : va_D A (MW dA h ad (MS.s_cod x 1)) := hD
  refine lv_aload_n hx hb d_M_retain_37 rfl (lv_at hl 0 rfl) ?_
  refine gF (v := .int 1) hx hb hown hE hK hP 0 rfl rfl layM 0 (by decide) w319 rfl d_M_retain_38 ?_
  refine lv_if_gt hx hb d_M_retain_41 (tgt := 53) rfl (fun _ => ?_) (fun h9 => absurd (by decide) h9)
  refine lv_iconst (v := 0) hx hb d_M_retain_53 (by decide) ?_
  exact rfI hx hb hr hlk hS () rfl hP hD (Nat.le_of_ble_eq_true rfl) (Nat.le_of_ble_eq_true rfl) d_M_retain_54
set_option maxHeartbeats 4000000 in
set_option maxRecDepth 100000 in
theorem k_retain_2 (l : Launch) (D : va_G) (dA : Nat → ClassId) (sz : Nat) (h : Nat) (ad : Nat → Nat) (x : MS) (t : Int64) (ho : x.on = true) (h0 : t < x.horizon ∨ 1099511627775 < t) : Met l ⟨"SeriesVaultModel", "retain", "(J)I"⟩ [Cond.code ⟨"SeriesVaultModel", "retain", "(J)I"⟩ prog_14_method_47_code 7 (some FieldType.int)] { frames := 1, cells := 0, slots := 0, locals := 0 } (pC D dA [.ref h, .long t] (MW dA h ad x) sz) (va_Qi (fun (r9 : Int32) (u9 : Unit) => r9 = 0) (fun (u9 : Unit) t9 => bW D (va_A (MW dA h ad x) sz) (MW dA h ad (MS.s_cod x 2)) t9) (va_A (MW dA h ad x) sz)) 0 0 (va_A (MW dA h ad x) sz) := by
  refine mkC (y := ⟨"SeriesVaultModel", "retain", "(J)I"⟩) (cc := prog_14_method_47_code) (maxL := 7) (av := [.ref h, .long t]) (ws := MW dA h ad x) (sz := sz) (Qc := fun A => va_Qi (fun (r9 : Int32) (u9 : Unit) => r9 = 0) (fun (u9 : Unit) t9 => bW D A (MW dA h ad (MS.s_cod x 2)) t9) A) (by decide) (Nat.le_of_ble_eq_true rfl) ?_
  intro A p e s m below meth c ls hsz hB
  obtain ⟨hx, hb, hr, hml, hown, hin, hlk, hE, hK, hP, hD, hS, hA, hN, hl⟩ := hB
  have hown : s.vm.findClass "SeriesVaultModel" = some m.cls := hown
  have hl : lv_has ls 7 [(0, .ref h), (1, .long t)] := hl
  obtain ⟨H, hH⟩ : ∃ z, z = s.heap := ⟨_, rfl⟩
  have hP : va_P D vwCl (MW dA h ad x) H := by rw [hH]; exact hP
  have hS : va_S A s.heap H [] := by rw [hH]; exact hS
  rw [← hH]
  refine lv_aload_n hx hb d_M_retain_0 rfl (lv_at hl 0 rfl) ?_
  refine lv_aload_n hx hb d_M_retain_1 rfl (lv_at hl 0 rfl) ?_
  refine gF (v := .int (bI x.on)) hx hb hown hE hK hP 0 rfl rfl layM 7 (by decide) w324 rfl d_M_retain_2 ?_
  refine lv_if_ne hx hb d_M_retain_5 (tgt := 12) rfl (fun _ => ?_) (fun h9 => absurd h9 (by rw [ho]; decide))
  refine lv_lload_n hx hb d_M_retain_12 rfl (lv_at hl 1 rfl) ?_
  refine lv_aload_n hx hb d_M_retain_13 rfl (lv_at hl 0 rfl) ?_
  refine gF (v := .long x.horizon) hx hb hown hE hK hP 0 rfl rfl layM 24 (by decide) w421 rfl d_M_retain_14 ?_
  refine W.lcmp hx hb d_M_retain_17 ?_
  refine lv_if_lt hx hb d_M_retain_18 (tgt := 29) rfl (fun g1 => ?_) (fun g1 => ?_)
  · have g1 := (lg_cmp_lt _ _).mp g1
    refine lv_iconst (v := 2) hx hb d_M_retain_29 (by decide) ?_
    refine lv_goto hx hb d_M_retain_30 (tgt := 34) rfl ?_
    refine pF (v := .int 2) hx hb hown hE hK hP hD hS 0 rfl rfl layM tyM tokM nmM 0 (by decide) w319 rfl rfl rfl (Nat.le_of_ble_eq_true rfl) d_M_retain_34 (fun H locs hP hD hS => ?_)
    have hP : va_P D vwCl (MW dA h ad (MS.s_cod x 2)) H := hP
    have hD : va_D A (MW dA h ad (MS.s_cod x 2)) := hD
    refine lv_aload_n hx hb d_M_retain_37 rfl (lv_at hl 0 rfl) ?_
    refine gF (v := .int 2) hx hb hown hE hK hP 0 rfl rfl layM 0 (by decide) w319 rfl d_M_retain_38 ?_
    refine lv_if_gt hx hb d_M_retain_41 (tgt := 53) rfl (fun _ => ?_) (fun h9 => absurd (by decide) h9)
    refine lv_iconst (v := 0) hx hb d_M_retain_53 (by decide) ?_
    exact rfI hx hb hr hlk hS () rfl hP hD (Nat.le_of_ble_eq_true rfl) (Nat.le_of_ble_eq_true rfl) d_M_retain_54
  · have g1 := mt (lg_cmp_lt _ _).mpr g1
    refine lv_lload_n hx hb d_M_retain_21 rfl (lv_at hl 1 rfl) ?_
    refine lv_ldc2 (v := 1099511627775) hx hb hown (hE.t w450 rfl) d_M_retain_22 ?_
    refine W.lcmp hx hb d_M_retain_25 ?_
    refine lv_if_le hx hb d_M_retain_26 (tgt := 33) rfl (fun h9 => absurd h9 (mt (lg_cmp_le _ _).mp (Int64.not_le.mpr (h0.resolve_left (by assumption))))) (fun _ => ?_)
    refine lv_iconst (v := 2) hx hb d_M_retain_29 (by decide) ?_
    refine lv_goto hx hb d_M_retain_30 (tgt := 34) rfl ?_
    refine pF (v := .int 2) hx hb hown hE hK hP hD hS 0 rfl rfl layM tyM tokM nmM 0 (by decide) w319 rfl rfl rfl (Nat.le_of_ble_eq_true rfl) d_M_retain_34 (fun H locs hP hD hS => ?_)
    have hP : va_P D vwCl (MW dA h ad (MS.s_cod x 2)) H := hP
    have hD : va_D A (MW dA h ad (MS.s_cod x 2)) := hD
    refine lv_aload_n hx hb d_M_retain_37 rfl (lv_at hl 0 rfl) ?_
    refine gF (v := .int 2) hx hb hown hE hK hP 0 rfl rfl layM 0 (by decide) w319 rfl d_M_retain_38 ?_
    refine lv_if_gt hx hb d_M_retain_41 (tgt := 53) rfl (fun _ => ?_) (fun h9 => absurd (by decide) h9)
    refine lv_iconst (v := 0) hx hb d_M_retain_53 (by decide) ?_
    exact rfI hx hb hr hlk hS () rfl hP hD (Nat.le_of_ble_eq_true rfl) (Nat.le_of_ble_eq_true rfl) d_M_retain_54
set_option maxHeartbeats 4000000 in
set_option maxRecDepth 100000 in
theorem k_retain_n (l : Launch) (D : va_G) (dA : Nat → ClassId) (sz : Nat) (h : Nat) (ad : Nat → Nat) (x : MS) (t : Int64) (ho : x.on = true) (h3 : x.horizon ≤ t) (h4 : t ≤ 1099511627775) (h5 : t = x.horizon) : Met l ⟨"SeriesVaultModel", "retain", "(J)I"⟩ [Cond.code ⟨"SeriesVaultModel", "retain", "(J)I"⟩ prog_14_method_47_code 7 (some FieldType.int)] { frames := 1, cells := 0, slots := 0, locals := 0 } (pC D dA [.ref h, .long t] (MW dA h ad x) sz) (va_Qi (fun (r9 : Int32) (u9 : Unit) => r9 = 0) (fun (u9 : Unit) t9 => bW D (va_A (MW dA h ad x) sz) (MW dA h ad (MS.s_cod x 0)) t9) (va_A (MW dA h ad x) sz)) 0 0 (va_A (MW dA h ad x) sz) := by
  refine mkC (y := ⟨"SeriesVaultModel", "retain", "(J)I"⟩) (cc := prog_14_method_47_code) (maxL := 7) (av := [.ref h, .long t]) (ws := MW dA h ad x) (sz := sz) (Qc := fun A => va_Qi (fun (r9 : Int32) (u9 : Unit) => r9 = 0) (fun (u9 : Unit) t9 => bW D A (MW dA h ad (MS.s_cod x 0)) t9) A) (by decide) (Nat.le_of_ble_eq_true rfl) ?_
  intro A p e s m below meth c ls hsz hB
  obtain ⟨hx, hb, hr, hml, hown, hin, hlk, hE, hK, hP, hD, hS, hA, hN, hl⟩ := hB
  have hown : s.vm.findClass "SeriesVaultModel" = some m.cls := hown
  have hl : lv_has ls 7 [(0, .ref h), (1, .long t)] := hl
  obtain ⟨H, hH⟩ : ∃ z, z = s.heap := ⟨_, rfl⟩
  have hP : va_P D vwCl (MW dA h ad x) H := by rw [hH]; exact hP
  have hS : va_S A s.heap H [] := by rw [hH]; exact hS
  rw [← hH]
  refine lv_aload_n hx hb d_M_retain_0 rfl (lv_at hl 0 rfl) ?_
  refine lv_aload_n hx hb d_M_retain_1 rfl (lv_at hl 0 rfl) ?_
  refine gF (v := .int (bI x.on)) hx hb hown hE hK hP 0 rfl rfl layM 7 (by decide) w324 rfl d_M_retain_2 ?_
  refine lv_if_ne hx hb d_M_retain_5 (tgt := 12) rfl (fun _ => ?_) (fun h9 => absurd h9 (by rw [ho]; decide))
  refine lv_lload_n hx hb d_M_retain_12 rfl (lv_at hl 1 rfl) ?_
  refine lv_aload_n hx hb d_M_retain_13 rfl (lv_at hl 0 rfl) ?_
  refine gF (v := .long x.horizon) hx hb hown hE hK hP 0 rfl rfl layM 24 (by decide) w421 rfl d_M_retain_14 ?_
  refine W.lcmp hx hb d_M_retain_17 ?_
  refine lv_if_lt hx hb d_M_retain_18 (tgt := 29) rfl (fun h9 => absurd h9 (mt (lg_cmp_lt _ _).mp (Int64.not_lt.mpr h3))) (fun _ => ?_)
  refine lv_lload_n hx hb d_M_retain_21 rfl (lv_at hl 1 rfl) ?_
  refine lv_ldc2 (v := 1099511627775) hx hb hown (hE.t w450 rfl) d_M_retain_22 ?_
  refine W.lcmp hx hb d_M_retain_25 ?_
  refine lv_if_le hx hb d_M_retain_26 (tgt := 33) rfl (fun _ => ?_) (fun h9 => absurd ((lg_cmp_le _ _).mpr h4) h9)
  refine lv_iconst (v := 0) hx hb d_M_retain_33 (by decide) ?_
  refine pF (v := .int 0) hx hb hown hE hK hP hD hS 0 rfl rfl layM tyM tokM nmM 0 (by decide) w319 rfl rfl rfl (Nat.le_of_ble_eq_true rfl) d_M_retain_34 (fun H locs hP hD hS => ?_)
  have hP : va_P D vwCl (MW dA h ad (MS.s_cod x 0)) H := hP
  have hD : va_D A (MW dA h ad (MS.s_cod x 0)) := hD
  refine lv_aload_n hx hb d_M_retain_37 rfl (lv_at hl 0 rfl) ?_
  refine gF (v := .int 0) hx hb hown hE hK hP 0 rfl rfl layM 0 (by decide) w319 rfl d_M_retain_38 ?_
  refine lv_if_gt hx hb d_M_retain_41 (tgt := 53) rfl (fun h9 => absurd h9 (by decide)) (fun _ => ?_)
  refine lv_lload_n hx hb d_M_retain_44 rfl (lv_at hl 1 rfl) ?_
  refine lv_aload_n hx hb d_M_retain_45 rfl (lv_at hl 0 rfl) ?_
  refine gF (v := .long x.horizon) hx hb hown hE hK hP 0 rfl rfl layM 24 (by decide) w421 rfl d_M_retain_46 ?_
  refine W.lcmp hx hb d_M_retain_49 ?_
  refine lv_if_ne hx hb d_M_retain_50 (tgt := 55) rfl (fun h9 => absurd ((lg_cmp_eq _ _).mpr h5) h9) (fun _ => ?_)
  refine lv_iconst (v := 0) hx hb d_M_retain_53 (by decide) ?_
  exact rfI hx hb hr hlk hS () rfl hP hD (Nat.le_of_ble_eq_true rfl) (Nat.le_of_ble_eq_true rfl) d_M_retain_54
theorem d_M_retain_69 : decode prog_14_method_47_code 69 = .ok (.aload_n 0, 1) := by decide +kernel
theorem d_M_retain_70 : decode prog_14_method_47_code 70 = .ok (.iconst 1, 1) := by decide +kernel
theorem d_M_retain_71 : decode prog_14_method_47_code 71 = .ok (.putfield 145, 3) := by decide +kernel
theorem d_M_retain_74 : decode prog_14_method_47_code 74 = .ok (.iconst 0, 1) := by decide +kernel
theorem d_M_retain_75 : decode prog_14_method_47_code 75 = .ok (.ireturn, 1) := by decide +kernel
set_option maxHeartbeats 4000000 in
set_option maxRecDepth 100000 in
theorem k_retain_5a (l : Launch) (D : va_G) (dA : Nat → ClassId) (sz : Nat) (h : Nat) (ad : Nat → Nat) (x : MS) (t : Int64) (ho : x.on = true) (h3 : x.horizon ≤ t) (h4 : t ≤ 1099511627775) (h5 : ¬ t = x.horizon) (hf : x.fresh = true) (hc : x.cutLeft = 0) : Met l ⟨"SeriesVaultModel", "retain", "(J)I"⟩ [Cond.code ⟨"SeriesVaultModel", "retain", "(J)I"⟩ prog_14_method_47_code 7 (some FieldType.int)] { frames := 3, cells := 0, slots := 0, locals := 40 } (pC D dA [.ref h, .long t] (MW dA h ad x) sz) (va_Qi (fun (r9 : Int32) (u9 : Unit) => r9 = 0) (fun (u9 : Unit) t9 => bW D (va_A (MW dA h ad x) sz) (MW dA h ad (MS.s_cutLeft (MS.s_on (MS.s_cod x 1) false) (-1))) t9) (va_A (MW dA h ad x) sz)) 0 0 (va_A (MW dA h ad x) sz) := by
  refine mkC (y := ⟨"SeriesVaultModel", "retain", "(J)I"⟩) (cc := prog_14_method_47_code) (maxL := 7) (av := [.ref h, .long t]) (ws := MW dA h ad x) (sz := sz) (Qc := fun A => va_Qi (fun (r9 : Int32) (u9 : Unit) => r9 = 0) (fun (u9 : Unit) t9 => bW D A (MW dA h ad (MS.s_cutLeft (MS.s_on (MS.s_cod x 1) false) (-1))) t9) A) (by decide) (Nat.le_of_ble_eq_true rfl) ?_
  intro A p e s m below meth c ls hsz hB
  obtain ⟨hx, hb, hr, hml, hown, hin, hlk, hE, hK, hP, hD, hS, hA, hN, hl⟩ := hB
  have hown : s.vm.findClass "SeriesVaultModel" = some m.cls := hown
  have hl : lv_has ls 7 [(0, .ref h), (1, .long t)] := hl
  obtain ⟨H, hH⟩ : ∃ z, z = s.heap := ⟨_, rfl⟩
  have hP : va_P D vwCl (MW dA h ad x) H := by rw [hH]; exact hP
  have hS : va_S A s.heap H [] := by rw [hH]; exact hS
  rw [← hH]
  refine lv_aload_n hx hb d_M_retain_0 rfl (lv_at hl 0 rfl) ?_
  refine lv_aload_n hx hb d_M_retain_1 rfl (lv_at hl 0 rfl) ?_
  refine gF (v := .int (bI x.on)) hx hb hown hE hK hP 0 rfl rfl layM 7 (by decide) w324 rfl d_M_retain_2 ?_
  refine lv_if_ne hx hb d_M_retain_5 (tgt := 12) rfl (fun _ => ?_) (fun h9 => absurd h9 (by rw [ho]; decide))
  refine lv_lload_n hx hb d_M_retain_12 rfl (lv_at hl 1 rfl) ?_
  refine lv_aload_n hx hb d_M_retain_13 rfl (lv_at hl 0 rfl) ?_
  refine gF (v := .long x.horizon) hx hb hown hE hK hP 0 rfl rfl layM 24 (by decide) w421 rfl d_M_retain_14 ?_
  refine W.lcmp hx hb d_M_retain_17 ?_
  refine lv_if_lt hx hb d_M_retain_18 (tgt := 29) rfl (fun h9 => absurd h9 (mt (lg_cmp_lt _ _).mp (Int64.not_lt.mpr h3))) (fun _ => ?_)
  refine lv_lload_n hx hb d_M_retain_21 rfl (lv_at hl 1 rfl) ?_
  refine lv_ldc2 (v := 1099511627775) hx hb hown (hE.t w450 rfl) d_M_retain_22 ?_
  refine W.lcmp hx hb d_M_retain_25 ?_
  refine lv_if_le hx hb d_M_retain_26 (tgt := 33) rfl (fun _ => ?_) (fun h9 => absurd ((lg_cmp_le _ _).mpr h4) h9)
  refine lv_iconst (v := 0) hx hb d_M_retain_33 (by decide) ?_
  refine pF (v := .int 0) hx hb hown hE hK hP hD hS 0 rfl rfl layM tyM tokM nmM 0 (by decide) w319 rfl rfl rfl (Nat.le_of_ble_eq_true rfl) d_M_retain_34 (fun H locs hP hD hS => ?_)
  have hP : va_P D vwCl (MW dA h ad (MS.s_cod x 0)) H := hP
  have hD : va_D A (MW dA h ad (MS.s_cod x 0)) := hD
  refine lv_aload_n hx hb d_M_retain_37 rfl (lv_at hl 0 rfl) ?_
  refine gF (v := .int 0) hx hb hown hE hK hP 0 rfl rfl layM 0 (by decide) w319 rfl d_M_retain_38 ?_
  refine lv_if_gt hx hb d_M_retain_41 (tgt := 53) rfl (fun h9 => absurd h9 (by decide)) (fun _ => ?_)
  refine lv_lload_n hx hb d_M_retain_44 rfl (lv_at hl 1 rfl) ?_
  refine lv_aload_n hx hb d_M_retain_45 rfl (lv_at hl 0 rfl) ?_
  refine gF (v := .long x.horizon) hx hb hown hE hK hP 0 rfl rfl layM 24 (by decide) w421 rfl d_M_retain_46 ?_
  refine W.lcmp hx hb d_M_retain_49 ?_
  refine lv_if_ne hx hb d_M_retain_50 (tgt := 55) rfl (fun _ => ?_) (fun h9 => absurd h9 (mt (lg_cmp_eq _ _).mp h5))
  refine lv_aload_n hx hb d_M_retain_55 rfl (lv_at hl 0 rfl) ?_
  refine jfI (rnV (As := []) (rest := []) hx hb hml hown hE hK (hN _ _ hS) hP hD (k_synced_x l D dA H.size h ad (MS.s_cod x 0) hf hc) (q0 := 0) rfl rfl w341 w340 w342 w343 w328 rfl rfl ⟨⟨by decide, by decide⟩, rfl⟩ ⟨(Nat.le_of_ble_eq_true rfl), (Nat.le_of_ble_eq_true rfl)⟩ rfl hl.1 rfl (Nat.le_of_ble_eq_true rfl) d_M_retain_56 ⟨(Nat.le_of_ble_eq_true rfl), (Nat.le_of_ble_eq_true rfl)⟩) hP hD hS hA (fun r1 u2 H locs hp9 hP hD hS => ?_)
  have hP : va_P D vwCl (MW dA h ad (MS.s_cutLeft (MS.s_on (MS.s_cod x 0) false) (-1))) H := hP
  have hD : va_D A (MW dA h ad (MS.s_cutLeft (MS.s_on (MS.s_cod x 0) false) (-1))) := hD
  replace hp9 : bI false = r1 := Eq.symm hp9
  subst hp9
  refine lv_if_eq hx hb d_M_retain_59 (tgt := 69) rfl (fun _ => ?_) (fun h9 => absurd (by decide) h9)
  refine lv_aload_n hx hb d_M_retain_69 rfl (lv_at hl 0 rfl) ?_
  refine lv_iconst (v := 1) hx hb d_M_retain_70 (by decide) ?_
  refine pF (v := .int 1) hx hb hown hE hK hP hD hS 0 rfl rfl layM tyM tokM nmM 0 (by decide) w319 rfl rfl rfl (Nat.le_of_ble_eq_true rfl) d_M_retain_71 (fun H locs hP hD hS => ?_)
  have hP : va_P D vwCl (MW dA h ad (MS.s_cutLeft (MS.s_on (MS.s_cod x 1) false) (-1))) H := hP
  have hD : va_D A (MW dA h ad (MS.s_cutLeft (MS.s_on (MS.s_cod x 1) false) (-1))) := hD
  refine lv_iconst (v := 0) hx hb d_M_retain_74 (by decide) ?_
  exact rfI hx hb hr hlk hS () rfl hP hD (Nat.le_of_ble_eq_true rfl) (Nat.le_of_ble_eq_true rfl) d_M_retain_75
set_option maxHeartbeats 4000000 in
set_option maxRecDepth 100000 in
theorem k_retain_5b (l : Launch) (D : va_G) (dA : Nat → ClassId) (sz : Nat) (h : Nat) (ad : Nat → Nat) (x : MS) (t : Int64) (ho : x.on = true) (h3 : x.horizon ≤ t) (h4 : t ≤ 1099511627775) (h5 : ¬ t = x.horizon) (hsy : x.fresh = false ∨ ¬ x.cutLeft = 0) (hc : x.syCut = 0) : Met l ⟨"SeriesVaultModel", "retain", "(J)I"⟩ [Cond.code ⟨"SeriesVaultModel", "retain", "(J)I"⟩ prog_14_method_47_code 7 (some FieldType.int)] { frames := 3, cells := 0, slots := 0, locals := 40 } (pC D dA [.ref h, .long t] (MW dA h ad x) sz) (va_Qi (fun (r9 : Int32) (u9 : Unit) => r9 = 0) (fun (u9 : Unit) t9 => bW D (va_A (MW dA h ad x) sz) (MW dA h ad (MS.s_fresh (MS.s_kept (MS.s_written (MS.s_cutLeft (MS.s_on (MS.s_cod x 1) false) (-1)) x.syWr) x.records) false)) t9) (va_A (MW dA h ad x) sz)) 0 0 (va_A (MW dA h ad x) sz) := by
  refine mkC (y := ⟨"SeriesVaultModel", "retain", "(J)I"⟩) (cc := prog_14_method_47_code) (maxL := 7) (av := [.ref h, .long t]) (ws := MW dA h ad x) (sz := sz) (Qc := fun A => va_Qi (fun (r9 : Int32) (u9 : Unit) => r9 = 0) (fun (u9 : Unit) t9 => bW D A (MW dA h ad (MS.s_fresh (MS.s_kept (MS.s_written (MS.s_cutLeft (MS.s_on (MS.s_cod x 1) false) (-1)) x.syWr) x.records) false)) t9) A) (by decide) (Nat.le_of_ble_eq_true rfl) ?_
  intro A p e s m below meth c ls hsz hB
  obtain ⟨hx, hb, hr, hml, hown, hin, hlk, hE, hK, hP, hD, hS, hA, hN, hl⟩ := hB
  have hown : s.vm.findClass "SeriesVaultModel" = some m.cls := hown
  have hl : lv_has ls 7 [(0, .ref h), (1, .long t)] := hl
  obtain ⟨H, hH⟩ : ∃ z, z = s.heap := ⟨_, rfl⟩
  have hP : va_P D vwCl (MW dA h ad x) H := by rw [hH]; exact hP
  have hS : va_S A s.heap H [] := by rw [hH]; exact hS
  rw [← hH]
  refine lv_aload_n hx hb d_M_retain_0 rfl (lv_at hl 0 rfl) ?_
  refine lv_aload_n hx hb d_M_retain_1 rfl (lv_at hl 0 rfl) ?_
  refine gF (v := .int (bI x.on)) hx hb hown hE hK hP 0 rfl rfl layM 7 (by decide) w324 rfl d_M_retain_2 ?_
  refine lv_if_ne hx hb d_M_retain_5 (tgt := 12) rfl (fun _ => ?_) (fun h9 => absurd h9 (by rw [ho]; decide))
  refine lv_lload_n hx hb d_M_retain_12 rfl (lv_at hl 1 rfl) ?_
  refine lv_aload_n hx hb d_M_retain_13 rfl (lv_at hl 0 rfl) ?_
  refine gF (v := .long x.horizon) hx hb hown hE hK hP 0 rfl rfl layM 24 (by decide) w421 rfl d_M_retain_14 ?_
  refine W.lcmp hx hb d_M_retain_17 ?_
  refine lv_if_lt hx hb d_M_retain_18 (tgt := 29) rfl (fun h9 => absurd h9 (mt (lg_cmp_lt _ _).mp (Int64.not_lt.mpr h3))) (fun _ => ?_)
  refine lv_lload_n hx hb d_M_retain_21 rfl (lv_at hl 1 rfl) ?_
  refine lv_ldc2 (v := 1099511627775) hx hb hown (hE.t w450 rfl) d_M_retain_22 ?_
  refine W.lcmp hx hb d_M_retain_25 ?_
  refine lv_if_le hx hb d_M_retain_26 (tgt := 33) rfl (fun _ => ?_) (fun h9 => absurd ((lg_cmp_le _ _).mpr h4) h9)
  refine lv_iconst (v := 0) hx hb d_M_retain_33 (by decide) ?_
  refine pF (v := .int 0) hx hb hown hE hK hP hD hS 0 rfl rfl layM tyM tokM nmM 0 (by decide) w319 rfl rfl rfl (Nat.le_of_ble_eq_true rfl) d_M_retain_34 (fun H locs hP hD hS => ?_)
  have hP : va_P D vwCl (MW dA h ad (MS.s_cod x 0)) H := hP
  have hD : va_D A (MW dA h ad (MS.s_cod x 0)) := hD
  refine lv_aload_n hx hb d_M_retain_37 rfl (lv_at hl 0 rfl) ?_
  refine gF (v := .int 0) hx hb hown hE hK hP 0 rfl rfl layM 0 (by decide) w319 rfl d_M_retain_38 ?_
  refine lv_if_gt hx hb d_M_retain_41 (tgt := 53) rfl (fun h9 => absurd h9 (by decide)) (fun _ => ?_)
  refine lv_lload_n hx hb d_M_retain_44 rfl (lv_at hl 1 rfl) ?_
  refine lv_aload_n hx hb d_M_retain_45 rfl (lv_at hl 0 rfl) ?_
  refine gF (v := .long x.horizon) hx hb hown hE hK hP 0 rfl rfl layM 24 (by decide) w421 rfl d_M_retain_46 ?_
  refine W.lcmp hx hb d_M_retain_49 ?_
  refine lv_if_ne hx hb d_M_retain_50 (tgt := 55) rfl (fun _ => ?_) (fun h9 => absurd h9 (mt (lg_cmp_eq _ _).mp h5))
  refine lv_aload_n hx hb d_M_retain_55 rfl (lv_at hl 0 rfl) ?_
  refine jfI (rnV (As := []) (rest := []) hx hb hml hown hE hK (hN _ _ hS) hP hD (k_synced l D dA H.size h ad (MS.s_cod x 0) hsy) (q0 := 0) rfl rfl w341 w340 w342 w343 w328 rfl rfl ⟨⟨by decide, by decide⟩, rfl⟩ ⟨(Nat.le_of_ble_eq_true rfl), (Nat.le_of_ble_eq_true rfl)⟩ rfl hl.1 rfl (Nat.le_of_ble_eq_true rfl) d_M_retain_56 ⟨(Nat.le_of_ble_eq_true rfl), (Nat.le_of_ble_eq_true rfl)⟩) hP hD hS hA (fun r1 u2 H locs hp9 hP hD hS => ?_)
  have hP : va_P D vwCl (MW dA h ad (MS.s_fresh (MS.s_kept (MS.s_written (MS.s_cutLeft (MS.s_cod x 0) x.syCut) x.syWr) x.records) false)) H := hP
  have hD : va_D A (MW dA h ad (MS.s_fresh (MS.s_kept (MS.s_written (MS.s_cutLeft (MS.s_cod x 0) x.syCut) x.syWr) x.records) false)) := hD
  replace hp9 : bI true = r1 := Eq.symm hp9
  subst hp9
  refine lv_if_eq hx hb d_M_retain_59 (tgt := 69) rfl (fun h9 => absurd h9 (by decide)) (fun _ => ?_)
  refine lv_aload_n hx hb d_M_retain_62 rfl (lv_at hl 0 rfl) ?_
  refine jfI (rnV (As := []) (rest := []) hx hb hml hown hE hK (hN _ _ hS) hP hD (k_write_x l D dA H.size h ad (MS.s_fresh (MS.s_kept (MS.s_written (MS.s_cutLeft (MS.s_cod x 0) x.syCut) x.syWr) x.records) false) hc) (q0 := 0) rfl rfl w452 w451 w453 w454 w328 rfl rfl ⟨⟨by decide, by decide⟩, rfl⟩ ⟨(Nat.le_of_ble_eq_true rfl), (Nat.le_of_ble_eq_true rfl)⟩ rfl hl.1 rfl (Nat.le_of_ble_eq_true rfl) d_M_retain_63 ⟨(Nat.le_of_ble_eq_true rfl), (Nat.le_of_ble_eq_true rfl)⟩) hP hD hS hA (fun r3 u4 H locs hp9 hP hD hS => ?_)
  have hP : va_P D vwCl (MW dA h ad (MS.s_fresh (MS.s_kept (MS.s_written (MS.s_cutLeft (MS.s_on (MS.s_cod x 0) false) (-1)) x.syWr) x.records) false)) H := hP
  have hD : va_D A (MW dA h ad (MS.s_fresh (MS.s_kept (MS.s_written (MS.s_cutLeft (MS.s_on (MS.s_cod x 0) false) (-1)) x.syWr) x.records) false)) := hD
  replace hp9 : bI false = r3 := Eq.symm hp9
  subst hp9
  refine lv_if_ne hx hb d_M_retain_66 (tgt := 76) rfl (fun h9 => absurd (by decide) h9) (fun _ => ?_)
  refine lv_aload_n hx hb d_M_retain_69 rfl (lv_at hl 0 rfl) ?_
  refine lv_iconst (v := 1) hx hb d_M_retain_70 (by decide) ?_
  refine pF (v := .int 1) hx hb hown hE hK hP hD hS 0 rfl rfl layM tyM tokM nmM 0 (by decide) w319 rfl rfl rfl (Nat.le_of_ble_eq_true rfl) d_M_retain_71 (fun H locs hP hD hS => ?_)
  have hP : va_P D vwCl (MW dA h ad (MS.s_fresh (MS.s_kept (MS.s_written (MS.s_cutLeft (MS.s_on (MS.s_cod x 1) false) (-1)) x.syWr) x.records) false)) H := hP
  have hD : va_D A (MW dA h ad (MS.s_fresh (MS.s_kept (MS.s_written (MS.s_cutLeft (MS.s_on (MS.s_cod x 1) false) (-1)) x.syWr) x.records) false)) := hD
  refine lv_iconst (v := 0) hx hb d_M_retain_74 (by decide) ?_
  exact rfI hx hb hr hlk hS () rfl hP hD (Nat.le_of_ble_eq_true rfl) (Nat.le_of_ble_eq_true rfl) d_M_retain_75
def MS.rt1 (x : MS) (t : Int64) : MS := MS.s_fresh (MS.s_kept (MS.s_horizon (MS.s_places (MS.s_written (MS.s_cutLeft (MS.s_cod x 0) (cutF x.syCut)) (x.syWr + 1)) (mapT x.points (x.rtH t) m2F x.places)) t) x.records) false
def MS.rtS (x : MS) (t : Int64) : MS := (((x.rt1 t).rtJ t x.parcelCount x.parcelCount).tidS).shoS
theorem d_M_retain_335 : decode prog_14_method_47_code 335 = .ok (.iinc 4 (-1), 3) := by decide +kernel
theorem d_M_retain_338 : decode prog_14_method_47_code 338 = .ok (.goto (-140), 3) := by decide +kernel
theorem d_M_retain_265 : decode prog_14_method_47_code 265 = .ok (.iconst 0, 1) := by decide +kernel
theorem d_M_retain_266 : decode prog_14_method_47_code 266 = .ok (.istore 6, 2) := by decide +kernel
theorem d_M_retain_268 : decode prog_14_method_47_code 268 = .ok (.iload 6, 2) := by decide +kernel
theorem d_M_retain_270 : decode prog_14_method_47_code 270 = .ok (.aload_n 0, 1) := by decide +kernel
theorem d_M_retain_271 : decode prog_14_method_47_code 271 = .ok (.getfield 169, 3) := by decide +kernel
theorem d_M_retain_274 : decode prog_14_method_47_code 274 = .ok (.if_icmp .ge 50, 3) := by decide +kernel
theorem d_M_retain_324 : decode prog_14_method_47_code 324 = .ok (.iload 5, 2) := by decide +kernel
theorem d_M_retain_326 : decode prog_14_method_47_code 326 = .ok (.ifCond .eq 9, 3) := by decide +kernel
theorem d_M_retain_329 : decode prog_14_method_47_code 329 = .ok (.aload_n 0, 1) := by decide +kernel
theorem d_M_retain_330 : decode prog_14_method_47_code 330 = .ok (.iload 4, 2) := by decide +kernel
theorem d_M_retain_332 : decode prog_14_method_47_code 332 = .ok (.invokevirtual 338, 3) := by decide +kernel
theorem d_M_retain_277 : decode prog_14_method_47_code 277 = .ok (.iload 5, 2) := by decide +kernel
theorem d_M_retain_279 : decode prog_14_method_47_code 279 = .ok (.ifCond .eq 45, 3) := by decide +kernel
theorem d_M_retain_282 : decode prog_14_method_47_code 282 = .ok (.aload_n 0, 1) := by decide +kernel
theorem d_M_retain_283 : decode prog_14_method_47_code 283 = .ok (.getfield 52, 3) := by decide +kernel
theorem d_M_retain_286 : decode prog_14_method_47_code 286 = .ok (.iload 6, 2) := by decide +kernel
theorem d_M_retain_288 : decode prog_14_method_47_code 288 = .ok (.aload_n 0, 1) := by decide +kernel
theorem d_M_retain_289 : decode prog_14_method_47_code 289 = .ok (.getfield 52, 3) := by decide +kernel
theorem d_M_retain_292 : decode prog_14_method_47_code 292 = .ok (.iload 6, 2) := by decide +kernel
theorem d_M_retain_294 : decode prog_14_method_47_code 294 = .ok (.iaload, 1) := by decide +kernel
theorem d_M_retain_295 : decode prog_14_method_47_code 295 = .ok (.aload_n 0, 1) := by decide +kernel
theorem d_M_retain_296 : decode prog_14_method_47_code 296 = .ok (.getfield 61, 3) := by decide +kernel
theorem d_M_retain_299 : decode prog_14_method_47_code 299 = .ok (.iload 4, 2) := by decide +kernel
theorem d_M_retain_301 : decode prog_14_method_47_code 301 = .ok (.iaload, 1) := by decide +kernel
theorem d_M_retain_302 : decode prog_14_method_47_code 302 = .ok (.if_icmp .ne 8, 3) := by decide +kernel
theorem d_M_retain_310 : decode prog_14_method_47_code 310 = .ok (.aload_n 0, 1) := by decide +kernel
theorem d_M_retain_311 : decode prog_14_method_47_code 311 = .ok (.getfield 52, 3) := by decide +kernel
theorem d_M_retain_314 : decode prog_14_method_47_code 314 = .ok (.iload 6, 2) := by decide +kernel
theorem d_M_retain_316 : decode prog_14_method_47_code 316 = .ok (.iaload, 1) := by decide +kernel
theorem d_M_retain_317 : decode prog_14_method_47_code 317 = .ok (.iastore, 1) := by decide +kernel
theorem d_M_retain_318 : decode prog_14_method_47_code 318 = .ok (.iinc 6 1, 3) := by decide +kernel
theorem d_M_retain_321 : decode prog_14_method_47_code 321 = .ok (.goto (-53), 3) := by decide +kernel
theorem d_M_retain_305 : decode prog_14_method_47_code 305 = .ok (.bipush (-2), 2) := by decide +kernel
theorem d_M_retain_307 : decode prog_14_method_47_code 307 = .ok (.goto 10, 3) := by decide +kernel
theorem d_M_retain_203 : decode prog_14_method_47_code 203 = .ok (.iconst 1, 1) := by decide +kernel
theorem d_M_retain_204 : decode prog_14_method_47_code 204 = .ok (.istore 5, 2) := by decide +kernel
theorem d_M_retain_206 : decode prog_14_method_47_code 206 = .ok (.iconst 0, 1) := by decide +kernel
theorem d_M_retain_207 : decode prog_14_method_47_code 207 = .ok (.istore 6, 2) := by decide +kernel
theorem d_M_retain_209 : decode prog_14_method_47_code 209 = .ok (.iload 6, 2) := by decide +kernel
theorem d_M_retain_211 : decode prog_14_method_47_code 211 = .ok (.aload_n 0, 1) := by decide +kernel
theorem d_M_retain_212 : decode prog_14_method_47_code 212 = .ok (.getfield 169, 3) := by decide +kernel
theorem d_M_retain_215 : decode prog_14_method_47_code 215 = .ok (.if_icmp .ge 50, 3) := by decide +kernel
theorem d_M_retain_218 : decode prog_14_method_47_code 218 = .ok (.iload 5, 2) := by decide +kernel
theorem d_M_retain_220 : decode prog_14_method_47_code 220 = .ok (.ifCond .eq 36, 3) := by decide +kernel
theorem d_M_retain_256 : decode prog_14_method_47_code 256 = .ok (.iconst 0, 1) := by decide +kernel
theorem d_M_retain_257 : decode prog_14_method_47_code 257 = .ok (.istore 5, 2) := by decide +kernel
theorem d_M_retain_259 : decode prog_14_method_47_code 259 = .ok (.iinc 6 1, 3) := by decide +kernel
theorem d_M_retain_262 : decode prog_14_method_47_code 262 = .ok (.goto (-53), 3) := by decide +kernel
theorem d_M_retain_223 : decode prog_14_method_47_code 223 = .ok (.aload_n 0, 1) := by decide +kernel
theorem d_M_retain_224 : decode prog_14_method_47_code 224 = .ok (.getfield 52, 3) := by decide +kernel
theorem d_M_retain_227 : decode prog_14_method_47_code 227 = .ok (.iload 6, 2) := by decide +kernel
theorem d_M_retain_229 : decode prog_14_method_47_code 229 = .ok (.iaload, 1) := by decide +kernel
theorem d_M_retain_230 : decode prog_14_method_47_code 230 = .ok (.aload_n 0, 1) := by decide +kernel
theorem d_M_retain_231 : decode prog_14_method_47_code 231 = .ok (.getfield 61, 3) := by decide +kernel
theorem d_M_retain_234 : decode prog_14_method_47_code 234 = .ok (.iload 4, 2) := by decide +kernel
theorem d_M_retain_236 : decode prog_14_method_47_code 236 = .ok (.iaload, 1) := by decide +kernel
theorem d_M_retain_237 : decode prog_14_method_47_code 237 = .ok (.if_icmp .ne 15, 3) := by decide +kernel
theorem d_M_retain_252 : decode prog_14_method_47_code 252 = .ok (.iconst 1, 1) := by decide +kernel
theorem d_M_retain_253 : decode prog_14_method_47_code 253 = .ok (.goto 4, 3) := by decide +kernel
theorem d_M_retain_240 : decode prog_14_method_47_code 240 = .ok (.aload_n 0, 1) := by decide +kernel
theorem d_M_retain_241 : decode prog_14_method_47_code 241 = .ok (.getfield 46, 3) := by decide +kernel
theorem d_M_retain_244 : decode prog_14_method_47_code 244 = .ok (.iload 6, 2) := by decide +kernel
theorem d_M_retain_246 : decode prog_14_method_47_code 246 = .ok (.laload, 1) := by decide +kernel
theorem d_M_retain_247 : decode prog_14_method_47_code 247 = .ok (.lload_n 1, 1) := by decide +kernel
theorem d_M_retain_248 : decode prog_14_method_47_code 248 = .ok (.lcmp, 1) := by decide +kernel
theorem d_M_retain_249 : decode prog_14_method_47_code 249 = .ok (.ifCond .ge 7, 3) := by decide +kernel
theorem d_M_retain_142 : decode prog_14_method_47_code 142 = .ok (.aload_n 0, 1) := by decide +kernel
theorem d_M_retain_143 : decode prog_14_method_47_code 143 = .ok (.getfield 52, 3) := by decide +kernel
theorem d_M_retain_146 : decode prog_14_method_47_code 146 = .ok (.iload 4, 2) := by decide +kernel
theorem d_M_retain_148 : decode prog_14_method_47_code 148 = .ok (.aload_n 0, 1) := by decide +kernel
theorem d_M_retain_149 : decode prog_14_method_47_code 149 = .ok (.getfield 52, 3) := by decide +kernel
theorem d_M_retain_152 : decode prog_14_method_47_code 152 = .ok (.iload 4, 2) := by decide +kernel
theorem d_M_retain_154 : decode prog_14_method_47_code 154 = .ok (.iaload, 1) := by decide +kernel
theorem d_M_retain_155 : decode prog_14_method_47_code 155 = .ok (.iconst (-1), 1) := by decide +kernel
theorem d_M_retain_156 : decode prog_14_method_47_code 156 = .ok (.if_icmp .ne 20, 3) := by decide +kernel
theorem d_M_retain_176 : decode prog_14_method_47_code 176 = .ok (.aload_n 0, 1) := by decide +kernel
theorem d_M_retain_177 : decode prog_14_method_47_code 177 = .ok (.getfield 52, 3) := by decide +kernel
theorem d_M_retain_180 : decode prog_14_method_47_code 180 = .ok (.iload 4, 2) := by decide +kernel
theorem d_M_retain_182 : decode prog_14_method_47_code 182 = .ok (.iaload, 1) := by decide +kernel
theorem d_M_retain_183 : decode prog_14_method_47_code 183 = .ok (.iastore, 1) := by decide +kernel
theorem d_M_retain_184 : decode prog_14_method_47_code 184 = .ok (.iinc 4 1, 3) := by decide +kernel
theorem d_M_retain_187 : decode prog_14_method_47_code 187 = .ok (.goto (-54), 3) := by decide +kernel
theorem d_M_retain_159 : decode prog_14_method_47_code 159 = .ok (.aload_n 0, 1) := by decide +kernel
theorem d_M_retain_160 : decode prog_14_method_47_code 160 = .ok (.getfield 46, 3) := by decide +kernel
theorem d_M_retain_163 : decode prog_14_method_47_code 163 = .ok (.iload 4, 2) := by decide +kernel
theorem d_M_retain_165 : decode prog_14_method_47_code 165 = .ok (.laload, 1) := by decide +kernel
theorem d_M_retain_166 : decode prog_14_method_47_code 166 = .ok (.lload_n 1, 1) := by decide +kernel
theorem d_M_retain_167 : decode prog_14_method_47_code 167 = .ok (.lcmp, 1) := by decide +kernel
theorem d_M_retain_168 : decode prog_14_method_47_code 168 = .ok (.ifCond .ge 8, 3) := by decide +kernel
theorem d_M_retain_171 : decode prog_14_method_47_code 171 = .ok (.bipush (-2), 2) := by decide +kernel
theorem d_M_retain_173 : decode prog_14_method_47_code 173 = .ok (.goto 10, 3) := by decide +kernel
theorem d_M_retain_90 : decode prog_14_method_47_code 90 = .ok (.iload_n 3, 1) := by decide +kernel
theorem d_M_retain_91 : decode prog_14_method_47_code 91 = .ok (.aload_n 0, 1) := by decide +kernel
theorem d_M_retain_92 : decode prog_14_method_47_code 92 = .ok (.iload 4, 2) := by decide +kernel
theorem d_M_retain_94 : decode prog_14_method_47_code 94 = .ok (.invokevirtual 207, 3) := by decide +kernel
theorem d_M_retain_97 : decode prog_14_method_47_code 97 = .ok (.ifCond .eq 19, 3) := by decide +kernel
theorem d_M_retain_116 : decode prog_14_method_47_code 116 = .ok (.iconst 0, 1) := by decide +kernel
theorem d_M_retain_117 : decode prog_14_method_47_code 117 = .ok (.iadd, 1) := by decide +kernel
theorem d_M_retain_118 : decode prog_14_method_47_code 118 = .ok (.istore_n 3, 1) := by decide +kernel
theorem d_M_retain_119 : decode prog_14_method_47_code 119 = .ok (.iinc 4 1, 3) := by decide +kernel
theorem d_M_retain_122 : decode prog_14_method_47_code 122 = .ok (.goto (-41), 3) := by decide +kernel
theorem d_M_retain_100 : decode prog_14_method_47_code 100 = .ok (.aload_n 0, 1) := by decide +kernel
theorem d_M_retain_101 : decode prog_14_method_47_code 101 = .ok (.getfield 46, 3) := by decide +kernel
theorem d_M_retain_104 : decode prog_14_method_47_code 104 = .ok (.iload 4, 2) := by decide +kernel
theorem d_M_retain_106 : decode prog_14_method_47_code 106 = .ok (.laload, 1) := by decide +kernel
theorem d_M_retain_107 : decode prog_14_method_47_code 107 = .ok (.lload_n 1, 1) := by decide +kernel
theorem d_M_retain_108 : decode prog_14_method_47_code 108 = .ok (.lcmp, 1) := by decide +kernel
theorem d_M_retain_109 : decode prog_14_method_47_code 109 = .ok (.ifCond .ge 7, 3) := by decide +kernel
theorem d_M_retain_112 : decode prog_14_method_47_code 112 = .ok (.iconst 1, 1) := by decide +kernel
theorem d_M_retain_113 : decode prog_14_method_47_code 113 = .ok (.goto 4, 3) := by decide +kernel
set_option maxHeartbeats 4000000 in
set_option maxRecDepth 100000 in
theorem k_retain_0 (l : Launch) (D : va_G) (dA : Nat → ClassId) (sz : Nat) (h : Nat) (ad : Nat → Nat) (x : MS) (t : Int64) (ho : x.on = true) (h3 : x.horizon ≤ t) (h4 : t ≤ 1099511627775) (h5 : ¬ t = x.horizon) (hsy : x.fresh = false ∨ ¬ x.cutLeft = 0) (hc : ¬ x.syCut = 0) (h1 : x.points ≤ 12000) (f1 : x.parcelCount ≤ 40) : Met l ⟨"SeriesVaultModel", "retain", "(J)I"⟩ [Cond.code ⟨"SeriesVaultModel", "retain", "(J)I"⟩ prog_14_method_47_code 7 (some FieldType.int)] { frames := 3, cells := 0, slots := 0, locals := 40 } (pC D dA [.ref h, .long t] (MW dA h ad x) sz) (va_Qi (fun (r9 : Int32) (u9 : MS) => r9 = nI (cnt x.points (x.rtC t)) ∧ u9 = x.rtS t) (fun (u9 : MS) t9 => bW D (va_A (MW dA h ad x) sz) (MW dA h ad u9) t9) (va_A (MW dA h ad x) sz)) 0 0 (va_A (MW dA h ad x) sz) := by
  refine mkC (y := ⟨"SeriesVaultModel", "retain", "(J)I"⟩) (cc := prog_14_method_47_code) (maxL := 7) (av := [.ref h, .long t]) (ws := MW dA h ad x) (sz := sz) (Qc := fun A => va_Qi (fun (r9 : Int32) (u9 : MS) => r9 = nI (cnt x.points (x.rtC t)) ∧ u9 = x.rtS t) (fun (u9 : MS) t9 => bW D A (MW dA h ad u9) t9) A) (by decide) (Nat.le_of_ble_eq_true rfl) ?_
  intro A p e s m below meth c ls hsz hB
  obtain ⟨hx, hb, hr, hml, hown, hin, hlk, hE, hK, hP, hD, hS, hA, hN, hl⟩ := hB
  have hown : s.vm.findClass "SeriesVaultModel" = some m.cls := hown
  have hl : lv_has ls 7 [(0, .ref h), (1, .long t)] := hl
  obtain ⟨H, hH⟩ : ∃ z, z = s.heap := ⟨_, rfl⟩
  have hP : va_P D vwCl (MW dA h ad x) H := by rw [hH]; exact hP
  have hS : va_S A s.heap H [] := by rw [hH]; exact hS
  rw [← hH]
  refine lv_aload_n hx hb d_M_retain_0 rfl (lv_at hl 0 rfl) ?_
  refine lv_aload_n hx hb d_M_retain_1 rfl (lv_at hl 0 rfl) ?_
  refine gF (v := .int (bI x.on)) hx hb hown hE hK hP 0 rfl rfl layM 7 (by decide) w324 rfl d_M_retain_2 ?_
  refine lv_if_ne hx hb d_M_retain_5 (tgt := 12) rfl (fun _ => ?_) (fun h9 => absurd h9 (by rw [ho]; decide))
  refine lv_lload_n hx hb d_M_retain_12 rfl (lv_at hl 1 rfl) ?_
  refine lv_aload_n hx hb d_M_retain_13 rfl (lv_at hl 0 rfl) ?_
  refine gF (v := .long x.horizon) hx hb hown hE hK hP 0 rfl rfl layM 24 (by decide) w421 rfl d_M_retain_14 ?_
  refine W.lcmp hx hb d_M_retain_17 ?_
  refine lv_if_lt hx hb d_M_retain_18 (tgt := 29) rfl (fun h9 => absurd h9 (mt (lg_cmp_lt _ _).mp (Int64.not_lt.mpr h3))) (fun _ => ?_)
  refine lv_lload_n hx hb d_M_retain_21 rfl (lv_at hl 1 rfl) ?_
  refine lv_ldc2 (v := 1099511627775) hx hb hown (hE.t w450 rfl) d_M_retain_22 ?_
  refine W.lcmp hx hb d_M_retain_25 ?_
  refine lv_if_le hx hb d_M_retain_26 (tgt := 33) rfl (fun _ => ?_) (fun h9 => absurd ((lg_cmp_le _ _).mpr h4) h9)
  refine lv_iconst (v := 0) hx hb d_M_retain_33 (by decide) ?_
  refine pF (v := .int 0) hx hb hown hE hK hP hD hS 0 rfl rfl layM tyM tokM nmM 0 (by decide) w319 rfl rfl rfl (Nat.le_of_ble_eq_true rfl) d_M_retain_34 (fun H locs hP hD hS => ?_)
  have hP : va_P D vwCl (MW dA h ad (MS.s_cod x 0)) H := hP
  have hD : va_D A (MW dA h ad (MS.s_cod x 0)) := hD
  refine lv_aload_n hx hb d_M_retain_37 rfl (lv_at hl 0 rfl) ?_
  refine gF (v := .int 0) hx hb hown hE hK hP 0 rfl rfl layM 0 (by decide) w319 rfl d_M_retain_38 ?_
  refine lv_if_gt hx hb d_M_retain_41 (tgt := 53) rfl (fun h9 => absurd h9 (by decide)) (fun _ => ?_)
  refine lv_lload_n hx hb d_M_retain_44 rfl (lv_at hl 1 rfl) ?_
  refine lv_aload_n hx hb d_M_retain_45 rfl (lv_at hl 0 rfl) ?_
  refine gF (v := .long x.horizon) hx hb hown hE hK hP 0 rfl rfl layM 24 (by decide) w421 rfl d_M_retain_46 ?_
  refine W.lcmp hx hb d_M_retain_49 ?_
  refine lv_if_ne hx hb d_M_retain_50 (tgt := 55) rfl (fun _ => ?_) (fun h9 => absurd h9 (mt (lg_cmp_eq _ _).mp h5))
  refine lv_aload_n hx hb d_M_retain_55 rfl (lv_at hl 0 rfl) ?_
  refine jfI (rnV (As := []) (rest := []) hx hb hml hown hE hK (hN _ _ hS) hP hD (k_synced l D dA H.size h ad (MS.s_cod x 0) hsy) (q0 := 0) rfl rfl w341 w340 w342 w343 w328 rfl rfl ⟨⟨by decide, by decide⟩, rfl⟩ ⟨(Nat.le_of_ble_eq_true rfl), (Nat.le_of_ble_eq_true rfl)⟩ rfl hl.1 rfl (Nat.le_of_ble_eq_true rfl) d_M_retain_56 ⟨(Nat.le_of_ble_eq_true rfl), (Nat.le_of_ble_eq_true rfl)⟩) hP hD hS hA (fun r1 u2 H locs hp9 hP hD hS => ?_)
  have hP : va_P D vwCl (MW dA h ad (MS.s_fresh (MS.s_kept (MS.s_written (MS.s_cutLeft (MS.s_cod x 0) x.syCut) x.syWr) x.records) false)) H := hP
  have hD : va_D A (MW dA h ad (MS.s_fresh (MS.s_kept (MS.s_written (MS.s_cutLeft (MS.s_cod x 0) x.syCut) x.syWr) x.records) false)) := hD
  replace hp9 : bI true = r1 := Eq.symm hp9
  subst hp9
  refine lv_if_eq hx hb d_M_retain_59 (tgt := 69) rfl (fun h9 => absurd h9 (by decide)) (fun _ => ?_)
  refine lv_aload_n hx hb d_M_retain_62 rfl (lv_at hl 0 rfl) ?_
  refine jfI (rnV (As := []) (rest := []) hx hb hml hown hE hK (hN _ _ hS) hP hD (k_write l D dA H.size h ad (MS.s_fresh (MS.s_kept (MS.s_written (MS.s_cutLeft (MS.s_cod x 0) x.syCut) x.syWr) x.records) false) hc) (q0 := 0) rfl rfl w452 w451 w453 w454 w328 rfl rfl ⟨⟨by decide, by decide⟩, rfl⟩ ⟨(Nat.le_of_ble_eq_true rfl), (Nat.le_of_ble_eq_true rfl)⟩ rfl hl.1 rfl (Nat.le_of_ble_eq_true rfl) d_M_retain_63 ⟨(Nat.le_of_ble_eq_true rfl), (Nat.le_of_ble_eq_true rfl)⟩) hP hD hS hA (fun r3 u4 H locs hp9 hP hD hS => ?_)
  have hP : va_P D vwCl (MW dA h ad (MS.s_fresh (MS.s_kept (MS.s_written (MS.s_cutLeft (MS.s_cod x 0) (cutF x.syCut)) (x.syWr + 1)) x.records) false)) H := hP
  have hD : va_D A (MW dA h ad (MS.s_fresh (MS.s_kept (MS.s_written (MS.s_cutLeft (MS.s_cod x 0) (cutF x.syCut)) (x.syWr + 1)) x.records) false)) := hD
  replace hp9 : bI true = r3 := Eq.symm hp9
  subst hp9
  refine lv_if_ne hx hb d_M_retain_66 (tgt := 76) rfl (fun _ => ?_) (fun h9 => absurd h9 (by decide))
  have J125 : ∀ (n : Nat) (i2 : n = cnt x.points (x.rtC t)), ∀ (H : Heap) (locs : List Loc) (ls : Array Slot) (hP : va_P D vwCl (MW dA h ad (MS.s_fresh (MS.s_kept (MS.s_written (MS.s_cutLeft (MS.s_cod x 0) (cutF x.syCut)) (x.syWr + 1)) x.records) false)) H) (hD : va_D A (MW dA h ad (MS.s_fresh (MS.s_kept (MS.s_written (MS.s_cutLeft (MS.s_cod x 0) (cutF x.syCut)) (x.syWr + 1)) x.records) false))) (hS : va_S A s.heap H locs) (hl : lv_has ls 7 [(3, .int (nI n)), (1, .long t), (0, .ref h)]), W p l e ({ frames := 3, cells := 0, slots := 0, locals := 40 } : Room) s m ([.ref h, .long t] : List Value).toArray below meth c H locs 0 0 (MQ below (va_Qi (fun (r9 : Int32) (u9 : MS) => r9 = nI (cnt x.points (x.rtC t)) ∧ u9 = x.rtS t) (fun (u9 : MS) t9 => bW D A (MW dA h ad u9) t9) A) ([.ref h, .long t] : List Value).toArray s 0 0 A) (F0 m 125 ls []) := by
    intro n i2 H locs ls hP hD hS hl
    have J190 : ∀ (y : MS) (ey : y = x.rt1 t) (y1 : y.points = x.points) (y2 : y.parcelCount = x.parcelCount), ∀ (H : Heap) (locs : List Loc) (ls : Array Slot) (hP : va_P D vwCl (MW dA h ad y) H) (hD : va_D A (MW dA h ad y)) (hS : va_S A s.heap H locs) (hl : lv_has ls 7 [(3, .int (nI n)), (1, .long t), (0, .ref h)]), W p l e ({ frames := 3, cells := 0, slots := 0, locals := 40 } : Room) s m ([.ref h, .long t] : List Value).toArray below meth c H locs 0 0 (MQ below (va_Qi (fun (r9 : Int32) (u9 : MS) => r9 = nI (cnt x.points (x.rtC t)) ∧ u9 = x.rtS t) (fun (u9 : MS) t9 => bW D A (MW dA h ad u9) t9) A) ([.ref h, .long t] : List Value).toArray s 0 0 A) (F0 m 190 ls []) := by
      intro y ey y1 y2 H locs ls hP hD hS hl
      refine lv_aload_n hx hb d_M_retain_190 rfl (lv_at hl 2 rfl) ?_
      refine gF (v := .int (nI y.parcelCount)) hx hb hown hE hK hP 0 rfl rfl layM 28 (by decide) w344 rfl d_M_retain_191 ?_
      refine lv_iconst (v := 1) hx hb d_M_retain_194 (by decide) ?_
      refine lv_isub hx hb d_M_retain_195 ?_
      refine lv_istore hx hb d_M_retain_196 hl (by decide) rfl (fun ls hl => ?_)
      have hl : lv_has ls 7 [(4, .int ((nI y.parcelCount) - 1)), (3, .int (nI n)), (1, .long t), (0, .ref h)] := hl
      have L198 : ∀ (k9 : Nat) (k : Nat) (j : Nat) (z : MS) (k1 : k + j = x.parcelCount) (ez : z = y.rtJ t x.parcelCount j) (z1 : z.points = x.points) (z2 : z.parcelCount ≤ 40) (z3 : k ≤ z.parcelCount) (hk9 : k = k9), ∀ (H : Heap) (locs : List Loc) (ls : Array Slot) (hP : va_P D vwCl (MW dA h ad z) H) (hD : va_D A (MW dA h ad z)) (hS : va_S A s.heap H locs) (hl : lv_has ls 7 [(4, .int (nI k - 1)), (3, .int (nI n)), (1, .long t), (0, .ref h)]), W p l e ({ frames := 3, cells := 0, slots := 0, locals := 40 } : Room) s m ([.ref h, .long t] : List Value).toArray below meth c H locs 0 0 (MQ below (va_Qi (fun (r9 : Int32) (u9 : MS) => r9 = nI (cnt x.points (x.rtC t)) ∧ u9 = x.rtS t) (fun (u9 : MS) t9 => bW D A (MW dA h ad u9) t9) A) ([.ref h, .long t] : List Value).toArray s 0 0 A) (F0 m 198 ls []) := by
        intro k9
        induction k9 using Nat.strongRecOn with
        | ind k9 ih198 =>
          intro k j z k1 ez z1 z2 z3 hk9 H locs ls hP hD hS hl
          rcases (Nat.eq_zero_or_pos k) with z0 | z0
          · refine lv_iload hx hb d_M_retain_198 (lv_at hl 0 rfl) ?_
            refine lv_if_lt hx hb d_M_retain_200 (tgt := 341) rfl (fun _ => ?_) (fun h9 => absurd (by rw [z0]; decide) h9)
            refine lv_aload_n hx hb d_M_retain_341 rfl (lv_at hl 3 rfl) ?_
            refine jfV (rnV (As := []) (rest := []) hx hb hml hown hE hK (hN _ _ hS) hP hD (k_tidy l D dA H.size h ad z (show z.points ≤ 12000 from by omega)) (q0 := 0) rfl rfl w456 w455 w457 w458 w328 rfl rfl ⟨⟨by decide, by decide⟩, rfl⟩ ⟨(Nat.le_of_ble_eq_true rfl), (Nat.le_of_ble_eq_true rfl)⟩ rfl hl.1 rfl (Nat.le_of_ble_eq_true rfl) d_M_retain_342 ⟨(Nat.le_of_ble_eq_true rfl), (Nat.le_of_ble_eq_true rfl)⟩) hP hD hS hA (fun u6 H locs hp9 hP hD hS => ?_)
            have hP : va_P D vwCl (MW dA h ad (MS.s_points (MS.s_baseHidden (MS.s_hidden (MS.s_places (MS.s_pointValues (MS.s_pointTimes (MS.s_pointSeries z (tdT z.stay z.pointSeries z.points)) (tdT z.stay z.pointTimes z.points)) (tdT z.stay z.pointValues z.points)) (tdT z.stay z.places z.points)) (tdT z.stay z.hidden z.points)) (tdT z.stay z.baseHidden z.points)) (cnt z.points z.stay))) H := hP
            have hD : va_D A (MW dA h ad (MS.s_points (MS.s_baseHidden (MS.s_hidden (MS.s_places (MS.s_pointValues (MS.s_pointTimes (MS.s_pointSeries z (tdT z.stay z.pointSeries z.points)) (tdT z.stay z.pointTimes z.points)) (tdT z.stay z.pointValues z.points)) (tdT z.stay z.places z.points)) (tdT z.stay z.hidden z.points)) (tdT z.stay z.baseHidden z.points)) (cnt z.points z.stay))) := hD
            refine lv_aload_n hx hb d_M_retain_345 rfl (lv_at hl 3 rfl) ?_
            have z4 := cnt_le z.points z.stay
            refine jfV (rnV (As := []) (rest := []) hx hb hml hown hE hK (hN _ _ hS) hP hD (k_shown l D dA H.size h ad (MS.s_points (MS.s_baseHidden (MS.s_hidden (MS.s_places (MS.s_pointValues (MS.s_pointTimes (MS.s_pointSeries z (tdT z.stay z.pointSeries z.points)) (tdT z.stay z.pointTimes z.points)) (tdT z.stay z.pointValues z.points)) (tdT z.stay z.places z.points)) (tdT z.stay z.hidden z.points)) (tdT z.stay z.baseHidden z.points)) (cnt z.points z.stay)) (show (cnt z.points z.stay) ≤ 12000 from by omega)) (q0 := 0) rfl rfl w460 w459 w461 w462 w328 rfl rfl ⟨⟨by decide, by decide⟩, rfl⟩ ⟨(Nat.le_of_ble_eq_true rfl), (Nat.le_of_ble_eq_true rfl)⟩ rfl hl.1 rfl (Nat.le_of_ble_eq_true rfl) d_M_retain_346 ⟨(Nat.le_of_ble_eq_true rfl), (Nat.le_of_ble_eq_true rfl)⟩) hP hD hS hA (fun u8 H locs hp9 hP hD hS => ?_)
            have hP : va_P D vwCl (MW dA h ad (MS.s_baseHorizon (MS.s_points (MS.s_baseHidden (MS.s_hidden (MS.s_places (MS.s_pointValues (MS.s_pointTimes (MS.s_pointSeries z (tdT z.stay z.pointSeries z.points)) (tdT z.stay z.pointTimes z.points)) (tdT z.stay z.pointValues z.points)) (tdT z.stay z.places z.points)) (tdT z.stay z.hidden z.points)) (mapT (cnt z.points z.stay) (fun _ => true) (tdT z.stay z.hidden z.points) (tdT z.stay z.baseHidden z.points))) (cnt z.points z.stay)) z.horizon)) H := hP
            have hD : va_D A (MW dA h ad (MS.s_baseHorizon (MS.s_points (MS.s_baseHidden (MS.s_hidden (MS.s_places (MS.s_pointValues (MS.s_pointTimes (MS.s_pointSeries z (tdT z.stay z.pointSeries z.points)) (tdT z.stay z.pointTimes z.points)) (tdT z.stay z.pointValues z.points)) (tdT z.stay z.places z.points)) (tdT z.stay z.hidden z.points)) (mapT (cnt z.points z.stay) (fun _ => true) (tdT z.stay z.hidden z.points) (tdT z.stay z.baseHidden z.points))) (cnt z.points z.stay)) z.horizon)) := hD
            refine lv_iload_n hx hb d_M_retain_349 rfl (lv_at hl 1 rfl) ?_
            exact rfI hx hb hr hlk hS (MS.s_baseHorizon (MS.s_points (MS.s_baseHidden (MS.s_hidden (MS.s_places (MS.s_pointValues (MS.s_pointTimes (MS.s_pointSeries z (tdT z.stay z.pointSeries z.points)) (tdT z.stay z.pointTimes z.points)) (tdT z.stay z.pointValues z.points)) (tdT z.stay z.places z.points)) (tdT z.stay z.hidden z.points)) (mapT (cnt z.points z.stay) (fun _ => true) (tdT z.stay z.hidden z.points) (tdT z.stay z.baseHidden z.points))) (cnt z.points z.stay)) z.horizon) ⟨by rw [i2], by subst ez; rw [show j = x.parcelCount by omega]; subst ey; rfl⟩ hP hD (Nat.le_of_ble_eq_true rfl) (Nat.le_of_ble_eq_true rfl) d_M_retain_350
          · refine lv_iload hx hb d_M_retain_198 (lv_at hl 0 rfl) ?_
            refine tpi (y := nI (k - 1)) (nI_m1 z0) ?_
            refine lv_if_lt hx hb d_M_retain_200 (tgt := 341) rfl (fun h9 => absurd h9 (nI_pos (n := k - 1) (by omega))) (fun _ => ?_)
            have J265 : ∀ (v : Bool) (m3 : allB z.points (z.rtA t (k - 1)) = v), ∀ (H : Heap) (locs : List Loc) (ls : Array Slot) (hP : va_P D vwCl (MW dA h ad z) H) (hD : va_D A (MW dA h ad z)) (hS : va_S A s.heap H locs) (hl : lv_has ls 7 [(5, .int (bI v)), (4, .int (nI k - 1)), (3, .int (nI n)), (1, .long t), (0, .ref h)]), W p l e ({ frames := 3, cells := 0, slots := 0, locals := 40 } : Room) s m ([.ref h, .long t] : List Value).toArray below meth c H locs 0 0 (MQ below (va_Qi (fun (r9 : Int32) (u9 : MS) => r9 = nI (cnt x.points (x.rtC t)) ∧ u9 = x.rtS t) (fun (u9 : MS) t9 => bW D A (MW dA h ad u9) t9) A) ([.ref h, .long t] : List Value).toArray s 0 0 A) (F0 m 265 ls []) := by
              intro v m3 H locs ls hP hD hS hl
              have J335 : ∀ (z7 : MS) (ez7 : z7 = z.rtK t (k - 1)) (z5 : z7.points = x.points) (z6 : k - 1 ≤ z7.parcelCount ∧ z7.parcelCount ≤ 40), ∀ (H : Heap) (locs : List Loc) (ls : Array Slot) (hP : va_P D vwCl (MW dA h ad z7) H) (hD : va_D A (MW dA h ad z7)) (hS : va_S A s.heap H locs) (hl : lv_has ls 7 [(4, .int (nI k - 1)), (3, .int (nI n)), (1, .long t), (0, .ref h)]), W p l e ({ frames := 3, cells := 0, slots := 0, locals := 40 } : Room) s m ([.ref h, .long t] : List Value).toArray below meth c H locs 0 0 (MQ below (va_Qi (fun (r9 : Int32) (u9 : MS) => r9 = nI (cnt x.points (x.rtC t)) ∧ u9 = x.rtS t) (fun (u9 : MS) t9 => bW D A (MW dA h ad u9) t9) A) ([.ref h, .long t] : List Value).toArray s 0 0 A) (F0 m 335 ls []) := by
                intro z7 ez7 z5 z6 H locs ls hP hD hS hl
                have ez2 : z7 = y.rtJ t x.parcelCount (j + 1) := by rw [ez7, ez]; show _ = (y.rtJ t x.parcelCount j).rtK t (x.parcelCount - 1 - j); rw [show x.parcelCount - 1 - j = k - 1 by omega]
                refine lv_iinc (k := 0) (v := nI (k - 1) - 1) hx hb d_M_retain_335 hl rfl (nI_mm z0) (by decide) rfl (fun ls hl => ?_)
                have hl : lv_has ls 7 [(4, .int (nI (k - 1) - 1)), (3, .int (nI n)), (1, .long t), (0, .ref h)] := hl
                refine lv_goto hx hb d_M_retain_338 (tgt := 198) rfl ?_
                exact ih198 _ (by omega) (k - 1) (j + 1) z7 (by omega) ez2 z5 (by omega) (by omega) rfl H _ ls hP hD hS (lv_sub hl [0, 1, 2, 3] rfl)
              refine lv_iconst (v := 0) hx hb d_M_retain_265 (by decide) ?_
              refine lv_istore hx hb d_M_retain_266 hl (by decide) rfl (fun ls hl => ?_)
              have hl : lv_has ls 7 [(6, .int 0), (5, .int (bI v)), (4, .int (nI k - 1)), (3, .int (nI n)), (1, .long t), (0, .ref h)] := hl
              have L268 : ∀ (k9 : Nat) (r : Nat) (m1 : r ≤ z.points) (m4 : r = 0 ∨ v = true) (hk9 : z.points - r = k9), ∀ (H : Heap) (locs : List Loc) (ls : Array Slot) (hP : va_P D vwCl (MW dA h ad (MS.s_places z (mapT r (z.rtP (k - 1)) m2F z.places))) H) (hD : va_D A (MW dA h ad (MS.s_places z (mapT r (z.rtP (k - 1)) m2F z.places)))) (hS : va_S A s.heap H locs) (hl : lv_has ls 7 [(6, .int (nI r)), (5, .int (bI v)), (4, .int (nI k - 1)), (3, .int (nI n)), (1, .long t), (0, .ref h)]), W p l e ({ frames := 3, cells := 0, slots := 0, locals := 40 } : Room) s m ([.ref h, .long t] : List Value).toArray below meth c H locs 0 0 (MQ below (va_Qi (fun (r9 : Int32) (u9 : MS) => r9 = nI (cnt x.points (x.rtC t)) ∧ u9 = x.rtS t) (fun (u9 : MS) t9 => bW D A (MW dA h ad u9) t9) A) ([.ref h, .long t] : List Value).toArray s 0 0 A) (F0 m 268 ls []) := by
                intro k9
                induction k9 using Nat.strongRecOn with
                | ind k9 ih268 =>
                  intro r m1 m4 hk9 H locs ls hP hD hS hl
                  refine lv_iload hx hb d_M_retain_268 (lv_at hl 0 rfl) ?_
                  refine lv_aload_n hx hb d_M_retain_270 rfl (lv_at hl 5 rfl) ?_
                  refine gF (v := .int (nI z.points)) hx hb hown hE hK hP 0 rfl rfl layM 23 (by decide) w420 rfl d_M_retain_271 ?_
                  refine lv_icmp_ge hx hb d_M_retain_274 (tgt := 324) rfl (fun g9 => ?_) (fun g9 => ?_)
                  · have g9 := (nI_leI (a := z.points) (b := r) (by omega) (by omega)).mp g9
                    refine lv_iload hx hb d_M_retain_324 (lv_at hl 1 rfl) ?_
                    refine lv_if_eq hx hb d_M_retain_326 (tgt := 335) rfl (fun g10 => ?_) (fun g10 => ?_)
                    · have g10 := bI_0 g10
                      exact J335 (MS.s_places z (mapT r (z.rtP (k - 1)) m2F z.places)) (by unfold MS.rtK; rw [m3, g10]; rw [show r = 0 from m4.resolve_right (by rw [g10]; decide), mapT_0]; rfl) z1 (show k - 1 ≤ z.parcelCount ∧ z.parcelCount ≤ 40 from by omega) H _ ls hP hD hS (lv_sub hl [2, 3, 4, 5] rfl)
                    · have g10 := bI_n0 g10
                      refine lv_aload_n hx hb d_M_retain_329 rfl (lv_at hl 5 rfl) ?_
                      refine lv_iload hx hb d_M_retain_330 (lv_at hl 2 rfl) ?_
                      refine tpi (y := nI (k - 1)) (nI_m1 z0) ?_
                      refine jfV (rnV (As := [.int (nI (k - 1))]) (rest := []) hx hb hml hown hE hK (hN _ _ hS) hP hD (k_remove l D dA H.size h ad (MS.s_places z (mapT r (z.rtP (k - 1)) m2F z.places)) (k - 1) (show (k - 1) < z.parcelCount from by omega) (show z.parcelCount ≤ 40 from by omega)) (q0 := 0) rfl rfl w931 w930 w932 w933 w328 rfl rfl ⟨⟨by decide, by decide⟩, rfl⟩ ⟨(Nat.le_of_ble_eq_true rfl), (Nat.le_of_ble_eq_true rfl)⟩ rfl hl.1 rfl (Nat.le_of_ble_eq_true rfl) d_M_retain_332 ⟨(Nat.le_of_ble_eq_true rfl), (Nat.le_of_ble_eq_true rfl)⟩) hP hD hS hA (fun u12 H locs hp9 hP hD hS => ?_)
                      have hP : va_P D vwCl (MW dA h ad (MS.s_parcelCount (MS.s_parcelBlocks (MS.s_parcels (MS.s_places z (mapT r (z.rtP (k - 1)) m2F z.places)) (rmT (k - 1) z.parcels (z.parcelCount - 1))) (rmT (k - 1) z.parcelBlocks (z.parcelCount - 1))) (z.parcelCount - 1))) H := hP
                      have hD : va_D A (MW dA h ad (MS.s_parcelCount (MS.s_parcelBlocks (MS.s_parcels (MS.s_places z (mapT r (z.rtP (k - 1)) m2F z.places)) (rmT (k - 1) z.parcels (z.parcelCount - 1))) (rmT (k - 1) z.parcelBlocks (z.parcelCount - 1))) (z.parcelCount - 1))) := hD
                      exact J335 (MS.s_parcelCount (MS.s_parcelBlocks (MS.s_parcels (MS.s_places z (mapT r (z.rtP (k - 1)) m2F z.places)) (rmT (k - 1) z.parcels (z.parcelCount - 1))) (rmT (k - 1) z.parcelBlocks (z.parcelCount - 1))) (z.parcelCount - 1)) (by unfold MS.rtK; rw [m3, g10]; rw [show r = z.points by omega]; rfl) z1 (show k - 1 ≤ z.parcelCount - 1 ∧ z.parcelCount - 1 ≤ 40 from by omega) H _ ls hP hD hS (lv_sub hl [2, 3, 4, 5] rfl)
                  · have g9 := mt (nI_leI (a := z.points) (b := r) (by omega) (by omega)).mpr g9
                    refine lv_iload hx hb d_M_retain_277 (lv_at hl 1 rfl) ?_
                    refine lv_if_eq hx hb d_M_retain_279 (tgt := 324) rfl (fun g13 => ?_) (fun g13 => ?_)
                    · have g13 := bI_0 g13
                      refine lv_iload hx hb d_M_retain_324 (lv_at hl 1 rfl) ?_
                      refine lv_if_eq hx hb d_M_retain_326 (tgt := 335) rfl (fun _ => ?_) (fun h9 => absurd (by rw [g13]; decide) h9)
                      exact J335 (MS.s_places z (mapT r (z.rtP (k - 1)) m2F z.places)) (by unfold MS.rtK; rw [m3, g13]; rw [show r = 0 from m4.resolve_right (by rw [g13]; decide), mapT_0]; rfl) z1 (show k - 1 ≤ z.parcelCount ∧ z.parcelCount ≤ 40 from by omega) H _ ls hP hD hS (lv_sub hl [2, 3, 4, 5] rfl)
                    · have g13 := bI_n0 g13
                      refine lv_aload_n hx hb d_M_retain_282 rfl (lv_at hl 5 rfl) ?_
                      refine gF (v := .ref (ad 20)) hx hb hown hE hK hP 0 rfl rfl layM 20 (by decide) w506 rfl d_M_retain_283 ?_
                      refine lv_iload hx hb d_M_retain_286 (lv_at hl 0 rfl) ?_
                      refine lv_aload_n hx hb d_M_retain_288 rfl (lv_at hl 5 rfl) ?_
                      refine gF (v := .ref (ad 20)) hx hb hown hE hK hP 0 rfl rfl layM 20 (by decide) w506 rfl d_M_retain_289 ?_
                      refine lv_iload hx hb d_M_retain_292 (lv_at hl 0 rfl) ?_
                      refine nild (f := (mapT r (z.rtP (k - 1)) m2F z.places)) hx hb hK hP 9 1 rfl rfl (r) (by omega) (by decide) d_M_retain_294 ?_
                      refine tpi (y := (z.places r)) (mapT_at _ _ _ (Nat.le_refl r)) ?_
                      refine lv_aload_n hx hb d_M_retain_295 rfl (lv_at hl 5 rfl) ?_
                      refine gF (v := .ref (ad 26)) hx hb hown hE hK hP 0 rfl rfl layM 26 (by decide) w509 rfl d_M_retain_296 ?_
                      refine lv_iload hx hb d_M_retain_299 (lv_at hl 2 rfl) ?_
                      refine tpi (y := nI (k - 1)) (nI_m1 z0) ?_
                      refine nild (f := (fun z9 => nI (z.parcels z9))) hx hb hK hP 12 1 rfl rfl (k - 1) (by omega) (by decide) d_M_retain_301 ?_
                      refine lv_icmp_ne hx hb d_M_retain_302 (tgt := 310) rfl (fun g14 => ?_) (fun g14 => ?_)
                      · have g14 := g14
                        refine lv_aload_n hx hb d_M_retain_310 rfl (lv_at hl 5 rfl) ?_
                        refine gF (v := .ref (ad 20)) hx hb hown hE hK hP 0 rfl rfl layM 20 (by decide) w506 rfl d_M_retain_311 ?_
                        refine lv_iload hx hb d_M_retain_314 (lv_at hl 0 rfl) ?_
                        refine nild (f := (mapT r (z.rtP (k - 1)) m2F z.places)) hx hb hK hP 9 1 rfl rfl (r) (by omega) (by decide) d_M_retain_316 ?_
                        refine tpi (y := (z.places r)) (mapT_at _ _ _ (Nat.le_refl r)) ?_
                        refine nist hx hb hK hP hD hS 9 1 rfl rfl (r) (by omega) (by decide) d_M_retain_317 (fun H locs hP hD hS => ?_)
                        have hP : va_P D vwCl (MW dA h ad (MS.s_places z (va_up (mapT r (z.rtP (k - 1)) m2F z.places) r (z.places r)))) H := hP
                        have hD : va_D A (MW dA h ad (MS.s_places z (va_up (mapT r (z.rtP (k - 1)) m2F z.places) r (z.places r)))) := hD
                        refine lv_iinc (k := 0) (v := nI (r + 1)) hx hb d_M_retain_318 hl rfl (iincN (r) 1 1 (by decide)) (by decide) rfl (fun ls hl => ?_)
                        have hl : lv_has ls 7 [(6, .int (nI (r + 1))), (5, .int (bI v)), (4, .int (nI k - 1)), (3, .int (nI n)), (1, .long t), (0, .ref h)] := hl
                        refine lv_goto hx hb d_M_retain_321 (tgt := 268) rfl ?_
                        have e9 : (MS.s_places z (va_up (mapT r (z.rtP (k - 1)) m2F z.places) r (z.places r)) : MS) = MS.s_places z (mapT (r + 1) (z.rtP (k - 1)) m2F z.places) := by rw [show (mapT (r + 1) (z.rtP (k - 1)) m2F z.places) = (va_up (mapT r (z.rtP (k - 1)) m2F z.places) r (z.places r)) from (mapT_u (decide_eq_false g14) rfl)] <;> rfl
                        exact ih268 _ (by omega) (r + 1) (by omega) (Or.inr (by assumption)) rfl H _ ls (cvP e9 hP) (cvD e9 hD) hS (lv_sub hl [0, 1, 2, 3, 4, 5] rfl)
                      · have g14 := g14
                        refine lv_bipush (v := (-2)) hx hb d_M_retain_305 (by decide) ?_
                        refine lv_goto hx hb d_M_retain_307 (tgt := 317) rfl ?_
                        refine nist hx hb hK hP hD hS 9 1 rfl rfl (r) (by omega) (by decide) d_M_retain_317 (fun H locs hP hD hS => ?_)
                        have hP : va_P D vwCl (MW dA h ad (MS.s_places z (va_up (mapT r (z.rtP (k - 1)) m2F z.places) r (-2)))) H := hP
                        have hD : va_D A (MW dA h ad (MS.s_places z (va_up (mapT r (z.rtP (k - 1)) m2F z.places) r (-2)))) := hD
                        refine lv_iinc (k := 0) (v := nI (r + 1)) hx hb d_M_retain_318 hl rfl (iincN (r) 1 1 (by decide)) (by decide) rfl (fun ls hl => ?_)
                        have hl : lv_has ls 7 [(6, .int (nI (r + 1))), (5, .int (bI v)), (4, .int (nI k - 1)), (3, .int (nI n)), (1, .long t), (0, .ref h)] := hl
                        refine lv_goto hx hb d_M_retain_321 (tgt := 268) rfl ?_
                        have e9 : (MS.s_places z (va_up (mapT r (z.rtP (k - 1)) m2F z.places) r (-2)) : MS) = MS.s_places z (mapT (r + 1) (z.rtP (k - 1)) m2F z.places) := by rw [show (mapT (r + 1) (z.rtP (k - 1)) m2F z.places) = (va_up (mapT r (z.rtP (k - 1)) m2F z.places) r (-2)) from (mapT_t (decide_eq_true g14) rfl)] <;> rfl
                        exact ih268 _ (by omega) (r + 1) (by omega) (Or.inr (by assumption)) rfl H _ ls (cvP e9 hP) (cvD e9 hD) hS (lv_sub hl [0, 1, 2, 3, 4, 5] rfl)
              have e9 : (z : MS) = MS.s_places z (mapT 0 (z.rtP (k - 1)) m2F z.places) := by rw [show (mapT 0 (z.rtP (k - 1)) m2F z.places) = z.places from (mapT_0 _ _ _)] <;> rfl
              exact L268 _ 0 (Nat.zero_le _) (Or.inl rfl) rfl H _ ls (cvP e9 hP) (cvD e9 hD) hS (lv_sub hl [0, 1, 2, 3, 4, 5] rfl)
            refine lv_iconst (v := 1) hx hb d_M_retain_203 (by decide) ?_
            refine lv_istore hx hb d_M_retain_204 hl (by decide) rfl (fun ls hl => ?_)
            have hl : lv_has ls 7 [(5, .int 1), (4, .int (nI k - 1)), (3, .int (nI n)), (1, .long t), (0, .ref h)] := hl
            refine lv_iconst (v := 0) hx hb d_M_retain_206 (by decide) ?_
            refine lv_istore hx hb d_M_retain_207 hl (by decide) rfl (fun ls hl => ?_)
            have hl : lv_has ls 7 [(6, .int 0), (5, .int 1), (4, .int (nI k - 1)), (3, .int (nI n)), (1, .long t), (0, .ref h)] := hl
            have L209 : ∀ (k9 : Nat) (r : Nat) (v : Bool) (m1 : r ≤ z.points) (m2 : allB r (z.rtA t (k - 1)) = v) (hk9 : z.points - r = k9), ∀ (H : Heap) (locs : List Loc) (ls : Array Slot) (hP : va_P D vwCl (MW dA h ad z) H) (hD : va_D A (MW dA h ad z)) (hS : va_S A s.heap H locs) (hl : lv_has ls 7 [(6, .int (nI r)), (5, .int (bI v)), (4, .int (nI k - 1)), (3, .int (nI n)), (1, .long t), (0, .ref h)]), W p l e ({ frames := 3, cells := 0, slots := 0, locals := 40 } : Room) s m ([.ref h, .long t] : List Value).toArray below meth c H locs 0 0 (MQ below (va_Qi (fun (r9 : Int32) (u9 : MS) => r9 = nI (cnt x.points (x.rtC t)) ∧ u9 = x.rtS t) (fun (u9 : MS) t9 => bW D A (MW dA h ad u9) t9) A) ([.ref h, .long t] : List Value).toArray s 0 0 A) (F0 m 209 ls []) := by
              intro k9
              induction k9 using Nat.strongRecOn with
              | ind k9 ih209 =>
                intro r v m1 m2 hk9 H locs ls hP hD hS hl
                refine lv_iload hx hb d_M_retain_209 (lv_at hl 0 rfl) ?_
                refine lv_aload_n hx hb d_M_retain_211 rfl (lv_at hl 5 rfl) ?_
                refine gF (v := .int (nI z.points)) hx hb hown hE hK hP 0 rfl rfl layM 23 (by decide) w420 rfl d_M_retain_212 ?_
                refine lv_icmp_ge hx hb d_M_retain_215 (tgt := 265) rfl (fun g15 => ?_) (fun g15 => ?_)
                · have g15 := (nI_leI (a := z.points) (b := r) (by omega) (by omega)).mp g15
                  exact J265 v (by rw [← show r = z.points by omega]; exact m2) H _ ls hP hD hS (lv_sub hl [1, 2, 3, 4, 5] rfl)
                · have g15 := mt (nI_leI (a := z.points) (b := r) (by omega) (by omega)).mpr g15
                  refine lv_iload hx hb d_M_retain_218 (lv_at hl 1 rfl) ?_
                  refine lv_if_eq hx hb d_M_retain_220 (tgt := 256) rfl (fun g16 => ?_) (fun g16 => ?_)
                  · have g16 := bI_0 g16
                    refine lv_iconst (v := 0) hx hb d_M_retain_256 (by decide) ?_
                    refine lv_istore hx hb d_M_retain_257 hl (by decide) rfl (fun ls hl => ?_)
                    have hl : lv_has ls 7 [(5, .int 0), (6, .int (nI r)), (4, .int (nI k - 1)), (3, .int (nI n)), (1, .long t), (0, .ref h)] := hl
                    refine lv_iinc (k := 1) (v := nI (r + 1)) hx hb d_M_retain_259 hl rfl (iincN (r) 1 1 (by decide)) (by decide) rfl (fun ls hl => ?_)
                    have hl : lv_has ls 7 [(6, .int (nI (r + 1))), (5, .int 0), (4, .int (nI k - 1)), (3, .int (nI n)), (1, .long t), (0, .ref h)] := hl
                    refine lv_goto hx hb d_M_retain_262 (tgt := 209) rfl ?_
                    exact ih209 _ (by omega) (r + 1) false (by omega) (by rw [allB_s, m2, g16]; rfl) rfl H _ ls hP hD hS (lv_sub hl [0, 1, 2, 3, 4, 5] rfl)
                  · have g16 := bI_n0 g16
                    refine lv_aload_n hx hb d_M_retain_223 rfl (lv_at hl 5 rfl) ?_
                    refine gF (v := .ref (ad 20)) hx hb hown hE hK hP 0 rfl rfl layM 20 (by decide) w506 rfl d_M_retain_224 ?_
                    refine lv_iload hx hb d_M_retain_227 (lv_at hl 0 rfl) ?_
                    refine nild (f := z.places) hx hb hK hP 9 1 rfl rfl (r) (by omega) (by decide) d_M_retain_229 ?_
                    refine lv_aload_n hx hb d_M_retain_230 rfl (lv_at hl 5 rfl) ?_
                    refine gF (v := .ref (ad 26)) hx hb hown hE hK hP 0 rfl rfl layM 26 (by decide) w509 rfl d_M_retain_231 ?_
                    refine lv_iload hx hb d_M_retain_234 (lv_at hl 2 rfl) ?_
                    refine tpi (y := nI (k - 1)) (nI_m1 z0) ?_
                    refine nild (f := (fun z9 => nI (z.parcels z9))) hx hb hK hP 12 1 rfl rfl (k - 1) (by omega) (by decide) d_M_retain_236 ?_
                    refine lv_icmp_ne hx hb d_M_retain_237 (tgt := 252) rfl (fun g17 => ?_) (fun g17 => ?_)
                    · have g17 := g17
                      refine lv_iconst (v := 1) hx hb d_M_retain_252 (by decide) ?_
                      refine lv_goto hx hb d_M_retain_253 (tgt := 257) rfl ?_
                      refine lv_istore hx hb d_M_retain_257 hl (by decide) rfl (fun ls hl => ?_)
                      have hl : lv_has ls 7 [(5, .int 1), (6, .int (nI r)), (4, .int (nI k - 1)), (3, .int (nI n)), (1, .long t), (0, .ref h)] := hl
                      refine lv_iinc (k := 1) (v := nI (r + 1)) hx hb d_M_retain_259 hl rfl (iincN (r) 1 1 (by decide)) (by decide) rfl (fun ls hl => ?_)
                      have hl : lv_has ls 7 [(6, .int (nI (r + 1))), (5, .int 1), (4, .int (nI k - 1)), (3, .int (nI n)), (1, .long t), (0, .ref h)] := hl
                      refine lv_goto hx hb d_M_retain_262 (tgt := 209) rfl ?_
                      exact ih209 _ (by omega) (r + 1) true (by omega) (by rw [allB_s, m2, g16]; show (true && (!decide _ || !decide _)) = true; rw [decide_eq_false g17]; rfl) rfl H _ ls hP hD hS (lv_sub hl [0, 1, 2, 3, 4, 5] rfl)
                    · have g17 := g17
                      refine lv_aload_n hx hb d_M_retain_240 rfl (lv_at hl 5 rfl) ?_
                      refine gF (v := .ref (ad 18)) hx hb hown hE hK hP 0 rfl rfl layM 18 (by decide) w504 rfl d_M_retain_241 ?_
                      refine lv_iload hx hb d_M_retain_244 (lv_at hl 0 rfl) ?_
                      refine nlld (f := z.pointTimes) hx hb hK hP 7 2 rfl rfl (r) (by omega) (by decide) d_M_retain_246 ?_
                      refine lv_lload_n hx hb d_M_retain_247 rfl (lv_at hl 4 rfl) ?_
                      refine W.lcmp hx hb d_M_retain_248 ?_
                      refine lv_if_ge hx hb d_M_retain_249 (tgt := 256) rfl (fun g18 => ?_) (fun g18 => ?_)
                      · have g18 := (lg_cmp_ge _ _).mp g18
                        refine lv_iconst (v := 0) hx hb d_M_retain_256 (by decide) ?_
                        refine lv_istore hx hb d_M_retain_257 hl (by decide) rfl (fun ls hl => ?_)
                        have hl : lv_has ls 7 [(5, .int 0), (6, .int (nI r)), (4, .int (nI k - 1)), (3, .int (nI n)), (1, .long t), (0, .ref h)] := hl
                        refine lv_iinc (k := 1) (v := nI (r + 1)) hx hb d_M_retain_259 hl rfl (iincN (r) 1 1 (by decide)) (by decide) rfl (fun ls hl => ?_)
                        have hl : lv_has ls 7 [(6, .int (nI (r + 1))), (5, .int 0), (4, .int (nI k - 1)), (3, .int (nI n)), (1, .long t), (0, .ref h)] := hl
                        refine lv_goto hx hb d_M_retain_262 (tgt := 209) rfl ?_
                        exact ih209 _ (by omega) (r + 1) false (by omega) (by rw [allB_s, m2, g16]; show (true && (!decide _ || !decide _)) = false; rw [decide_eq_true g17, decide_eq_true g18]; rfl) rfl H _ ls hP hD hS (lv_sub hl [0, 1, 2, 3, 4, 5] rfl)
                      · have g18 := mt (lg_cmp_ge _ _).mpr g18
                        refine lv_iconst (v := 1) hx hb d_M_retain_252 (by decide) ?_
                        refine lv_goto hx hb d_M_retain_253 (tgt := 257) rfl ?_
                        refine lv_istore hx hb d_M_retain_257 hl (by decide) rfl (fun ls hl => ?_)
                        have hl : lv_has ls 7 [(5, .int 1), (6, .int (nI r)), (4, .int (nI k - 1)), (3, .int (nI n)), (1, .long t), (0, .ref h)] := hl
                        refine lv_iinc (k := 1) (v := nI (r + 1)) hx hb d_M_retain_259 hl rfl (iincN (r) 1 1 (by decide)) (by decide) rfl (fun ls hl => ?_)
                        have hl : lv_has ls 7 [(6, .int (nI (r + 1))), (5, .int 1), (4, .int (nI k - 1)), (3, .int (nI n)), (1, .long t), (0, .ref h)] := hl
                        refine lv_goto hx hb d_M_retain_262 (tgt := 209) rfl ?_
                        exact ih209 _ (by omega) (r + 1) true (by omega) (by rw [allB_s, m2, g16]; show (true && (!decide _ || !decide _)) = true; rw [decide_eq_true g17, decide_eq_false g18]; rfl) rfl H _ ls hP hD hS (lv_sub hl [0, 1, 2, 3, 4, 5] rfl)
            exact L209 _ 0 true (Nat.zero_le _) rfl rfl H _ ls hP hD hS (lv_sub hl [0, 1, 2, 3, 4, 5] rfl)
      exact L198 _ y.parcelCount 0 y (by omega) rfl y1 (by omega) (by omega) rfl H _ ls hP hD hS (lv_sub hl [0, 1, 2, 3] rfl)
    refine lv_aload_n hx hb d_M_retain_125 rfl (lv_at hl 2 rfl) ?_
    refine lv_lload_n hx hb d_M_retain_126 rfl (lv_at hl 1 rfl) ?_
    refine pF (v := .long t) hx hb hown hE hK hP hD hS 0 rfl rfl layM tyM tokM nmM 24 (by decide) w421 rfl rfl rfl (Nat.le_of_ble_eq_true rfl) d_M_retain_127 (fun H locs hP hD hS => ?_)
    have hP : va_P D vwCl (MW dA h ad (MS.s_fresh (MS.s_kept (MS.s_horizon (MS.s_written (MS.s_cutLeft (MS.s_cod x 0) (cutF x.syCut)) (x.syWr + 1)) t) x.records) false)) H := hP
    have hD : va_D A (MW dA h ad (MS.s_fresh (MS.s_kept (MS.s_horizon (MS.s_written (MS.s_cutLeft (MS.s_cod x 0) (cutF x.syCut)) (x.syWr + 1)) t) x.records) false)) := hD
    refine lv_iconst (v := 0) hx hb d_M_retain_130 (by decide) ?_
    refine lv_istore hx hb d_M_retain_131 hl (by decide) rfl (fun ls hl => ?_)
    have hl : lv_has ls 7 [(4, .int 0), (3, .int (nI n)), (1, .long t), (0, .ref h)] := hl
    have L133 : ∀ (k9 : Nat) (q : Nat) (i1 : q ≤ x.points) (hk9 : x.points - q = k9), ∀ (H : Heap) (locs : List Loc) (ls : Array Slot) (hP : va_P D vwCl (MW dA h ad (MS.s_fresh (MS.s_kept (MS.s_horizon (MS.s_places (MS.s_written (MS.s_cutLeft (MS.s_cod x 0) (cutF x.syCut)) (x.syWr + 1)) (mapT q (x.rtH t) m2F x.places)) t) x.records) false)) H) (hD : va_D A (MW dA h ad (MS.s_fresh (MS.s_kept (MS.s_horizon (MS.s_places (MS.s_written (MS.s_cutLeft (MS.s_cod x 0) (cutF x.syCut)) (x.syWr + 1)) (mapT q (x.rtH t) m2F x.places)) t) x.records) false))) (hS : va_S A s.heap H locs) (hl : lv_has ls 7 [(4, .int (nI q)), (3, .int (nI n)), (1, .long t), (0, .ref h)]), W p l e ({ frames := 3, cells := 0, slots := 0, locals := 40 } : Room) s m ([.ref h, .long t] : List Value).toArray below meth c H locs 0 0 (MQ below (va_Qi (fun (r9 : Int32) (u9 : MS) => r9 = nI (cnt x.points (x.rtC t)) ∧ u9 = x.rtS t) (fun (u9 : MS) t9 => bW D A (MW dA h ad u9) t9) A) ([.ref h, .long t] : List Value).toArray s 0 0 A) (F0 m 133 ls []) := by
      intro k9
      induction k9 using Nat.strongRecOn with
      | ind k9 ih133 =>
        intro q i1 hk9 H locs ls hP hD hS hl
        refine lv_iload hx hb d_M_retain_133 (lv_at hl 0 rfl) ?_
        refine lv_aload_n hx hb d_M_retain_135 rfl (lv_at hl 3 rfl) ?_
        refine gF (v := .int (nI x.points)) hx hb hown hE hK hP 0 rfl rfl layM 23 (by decide) w420 rfl d_M_retain_136 ?_
        refine lv_icmp_ge hx hb d_M_retain_139 (tgt := 190) rfl (fun g19 => ?_) (fun g19 => ?_)
        · have g19 := (nI_leI (a := x.points) (b := q) (by omega) (by omega)).mp g19
          exact J190 (MS.s_fresh (MS.s_kept (MS.s_horizon (MS.s_places (MS.s_written (MS.s_cutLeft (MS.s_cod x 0) (cutF x.syCut)) (x.syWr + 1)) (mapT q (x.rtH t) m2F x.places)) t) x.records) false) (by rw [show q = x.points by omega]; rfl) rfl rfl H _ ls hP hD hS (lv_sub hl [1, 2, 3] rfl)
        · have g19 := mt (nI_leI (a := x.points) (b := q) (by omega) (by omega)).mpr g19
          refine lv_aload_n hx hb d_M_retain_142 rfl (lv_at hl 3 rfl) ?_
          refine gF (v := .ref (ad 20)) hx hb hown hE hK hP 0 rfl rfl layM 20 (by decide) w506 rfl d_M_retain_143 ?_
          refine lv_iload hx hb d_M_retain_146 (lv_at hl 0 rfl) ?_
          refine lv_aload_n hx hb d_M_retain_148 rfl (lv_at hl 3 rfl) ?_
          refine gF (v := .ref (ad 20)) hx hb hown hE hK hP 0 rfl rfl layM 20 (by decide) w506 rfl d_M_retain_149 ?_
          refine lv_iload hx hb d_M_retain_152 (lv_at hl 0 rfl) ?_
          refine nild (f := (mapT q (x.rtH t) m2F x.places)) hx hb hK hP 9 1 rfl rfl (q) (by omega) (by decide) d_M_retain_154 ?_
          refine tpi (y := (x.places q)) (mapT_at _ _ _ (Nat.le_refl q)) ?_
          refine lv_iconst (v := (-1)) hx hb d_M_retain_155 (by decide) ?_
          refine lv_icmp_ne hx hb d_M_retain_156 (tgt := 176) rfl (fun g20 => ?_) (fun g20 => ?_)
          · have g20 := g20
            refine lv_aload_n hx hb d_M_retain_176 rfl (lv_at hl 3 rfl) ?_
            refine gF (v := .ref (ad 20)) hx hb hown hE hK hP 0 rfl rfl layM 20 (by decide) w506 rfl d_M_retain_177 ?_
            refine lv_iload hx hb d_M_retain_180 (lv_at hl 0 rfl) ?_
            refine nild (f := (mapT q (x.rtH t) m2F x.places)) hx hb hK hP 9 1 rfl rfl (q) (by omega) (by decide) d_M_retain_182 ?_
            refine tpi (y := (x.places q)) (mapT_at _ _ _ (Nat.le_refl q)) ?_
            refine nist hx hb hK hP hD hS 9 1 rfl rfl (q) (by omega) (by decide) d_M_retain_183 (fun H locs hP hD hS => ?_)
            have hP : va_P D vwCl (MW dA h ad (MS.s_fresh (MS.s_kept (MS.s_horizon (MS.s_places (MS.s_written (MS.s_cutLeft (MS.s_cod x 0) (cutF x.syCut)) (x.syWr + 1)) (va_up (mapT q (x.rtH t) m2F x.places) q (x.places q))) t) x.records) false)) H := hP
            have hD : va_D A (MW dA h ad (MS.s_fresh (MS.s_kept (MS.s_horizon (MS.s_places (MS.s_written (MS.s_cutLeft (MS.s_cod x 0) (cutF x.syCut)) (x.syWr + 1)) (va_up (mapT q (x.rtH t) m2F x.places) q (x.places q))) t) x.records) false)) := hD
            refine lv_iinc (k := 0) (v := nI (q + 1)) hx hb d_M_retain_184 hl rfl (iincN (q) 1 1 (by decide)) (by decide) rfl (fun ls hl => ?_)
            have hl : lv_has ls 7 [(4, .int (nI (q + 1))), (3, .int (nI n)), (1, .long t), (0, .ref h)] := hl
            refine lv_goto hx hb d_M_retain_187 (tgt := 133) rfl ?_
            have e9 : (MS.s_fresh (MS.s_kept (MS.s_horizon (MS.s_places (MS.s_written (MS.s_cutLeft (MS.s_cod x 0) (cutF x.syCut)) (x.syWr + 1)) (va_up (mapT q (x.rtH t) m2F x.places) q (x.places q))) t) x.records) false : MS) = MS.s_fresh (MS.s_kept (MS.s_horizon (MS.s_places (MS.s_written (MS.s_cutLeft (MS.s_cod x 0) (cutF x.syCut)) (x.syWr + 1)) (mapT (q + 1) (x.rtH t) m2F x.places)) t) x.records) false := by rw [show (mapT (q + 1) (x.rtH t) m2F x.places) = (va_up (mapT q (x.rtH t) m2F x.places) q (x.places q)) from (mapT_u (by simp [MS.rtH, *]) rfl)] <;> rfl
            exact ih133 _ (by omega) (q + 1) (by omega) rfl H _ ls (cvP e9 hP) (cvD e9 hD) hS (lv_sub hl [0, 1, 2, 3] rfl)
          · have g20 := g20
            refine lv_aload_n hx hb d_M_retain_159 rfl (lv_at hl 3 rfl) ?_
            refine gF (v := .ref (ad 18)) hx hb hown hE hK hP 0 rfl rfl layM 18 (by decide) w504 rfl d_M_retain_160 ?_
            refine lv_iload hx hb d_M_retain_163 (lv_at hl 0 rfl) ?_
            refine nlld (f := x.pointTimes) hx hb hK hP 7 2 rfl rfl (q) (by omega) (by decide) d_M_retain_165 ?_
            refine lv_lload_n hx hb d_M_retain_166 rfl (lv_at hl 2 rfl) ?_
            refine W.lcmp hx hb d_M_retain_167 ?_
            refine lv_if_ge hx hb d_M_retain_168 (tgt := 176) rfl (fun g21 => ?_) (fun g21 => ?_)
            · have g21 := (lg_cmp_ge _ _).mp g21
              refine lv_aload_n hx hb d_M_retain_176 rfl (lv_at hl 3 rfl) ?_
              refine gF (v := .ref (ad 20)) hx hb hown hE hK hP 0 rfl rfl layM 20 (by decide) w506 rfl d_M_retain_177 ?_
              refine lv_iload hx hb d_M_retain_180 (lv_at hl 0 rfl) ?_
              refine nild (f := (mapT q (x.rtH t) m2F x.places)) hx hb hK hP 9 1 rfl rfl (q) (by omega) (by decide) d_M_retain_182 ?_
              refine tpi (y := (x.places q)) (mapT_at _ _ _ (Nat.le_refl q)) ?_
              refine nist hx hb hK hP hD hS 9 1 rfl rfl (q) (by omega) (by decide) d_M_retain_183 (fun H locs hP hD hS => ?_)
              have hP : va_P D vwCl (MW dA h ad (MS.s_fresh (MS.s_kept (MS.s_horizon (MS.s_places (MS.s_written (MS.s_cutLeft (MS.s_cod x 0) (cutF x.syCut)) (x.syWr + 1)) (va_up (mapT q (x.rtH t) m2F x.places) q (x.places q))) t) x.records) false)) H := hP
              have hD : va_D A (MW dA h ad (MS.s_fresh (MS.s_kept (MS.s_horizon (MS.s_places (MS.s_written (MS.s_cutLeft (MS.s_cod x 0) (cutF x.syCut)) (x.syWr + 1)) (va_up (mapT q (x.rtH t) m2F x.places) q (x.places q))) t) x.records) false)) := hD
              refine lv_iinc (k := 0) (v := nI (q + 1)) hx hb d_M_retain_184 hl rfl (iincN (q) 1 1 (by decide)) (by decide) rfl (fun ls hl => ?_)
              have hl : lv_has ls 7 [(4, .int (nI (q + 1))), (3, .int (nI n)), (1, .long t), (0, .ref h)] := hl
              refine lv_goto hx hb d_M_retain_187 (tgt := 133) rfl ?_
              have e9 : (MS.s_fresh (MS.s_kept (MS.s_horizon (MS.s_places (MS.s_written (MS.s_cutLeft (MS.s_cod x 0) (cutF x.syCut)) (x.syWr + 1)) (va_up (mapT q (x.rtH t) m2F x.places) q (x.places q))) t) x.records) false : MS) = MS.s_fresh (MS.s_kept (MS.s_horizon (MS.s_places (MS.s_written (MS.s_cutLeft (MS.s_cod x 0) (cutF x.syCut)) (x.syWr + 1)) (mapT (q + 1) (x.rtH t) m2F x.places)) t) x.records) false := by rw [show (mapT (q + 1) (x.rtH t) m2F x.places) = (va_up (mapT q (x.rtH t) m2F x.places) q (x.places q)) from (mapT_u (by simp [MS.rtH, *]) rfl)] <;> rfl
              exact ih133 _ (by omega) (q + 1) (by omega) rfl H _ ls (cvP e9 hP) (cvD e9 hD) hS (lv_sub hl [0, 1, 2, 3] rfl)
            · have g21 := mt (lg_cmp_ge _ _).mpr g21
              refine lv_bipush (v := (-2)) hx hb d_M_retain_171 (by decide) ?_
              refine lv_goto hx hb d_M_retain_173 (tgt := 183) rfl ?_
              refine nist hx hb hK hP hD hS 9 1 rfl rfl (q) (by omega) (by decide) d_M_retain_183 (fun H locs hP hD hS => ?_)
              have hP : va_P D vwCl (MW dA h ad (MS.s_fresh (MS.s_kept (MS.s_horizon (MS.s_places (MS.s_written (MS.s_cutLeft (MS.s_cod x 0) (cutF x.syCut)) (x.syWr + 1)) (va_up (mapT q (x.rtH t) m2F x.places) q (-2))) t) x.records) false)) H := hP
              have hD : va_D A (MW dA h ad (MS.s_fresh (MS.s_kept (MS.s_horizon (MS.s_places (MS.s_written (MS.s_cutLeft (MS.s_cod x 0) (cutF x.syCut)) (x.syWr + 1)) (va_up (mapT q (x.rtH t) m2F x.places) q (-2))) t) x.records) false)) := hD
              refine lv_iinc (k := 0) (v := nI (q + 1)) hx hb d_M_retain_184 hl rfl (iincN (q) 1 1 (by decide)) (by decide) rfl (fun ls hl => ?_)
              have hl : lv_has ls 7 [(4, .int (nI (q + 1))), (3, .int (nI n)), (1, .long t), (0, .ref h)] := hl
              refine lv_goto hx hb d_M_retain_187 (tgt := 133) rfl ?_
              have e9 : (MS.s_fresh (MS.s_kept (MS.s_horizon (MS.s_places (MS.s_written (MS.s_cutLeft (MS.s_cod x 0) (cutF x.syCut)) (x.syWr + 1)) (va_up (mapT q (x.rtH t) m2F x.places) q (-2))) t) x.records) false : MS) = MS.s_fresh (MS.s_kept (MS.s_horizon (MS.s_places (MS.s_written (MS.s_cutLeft (MS.s_cod x 0) (cutF x.syCut)) (x.syWr + 1)) (mapT (q + 1) (x.rtH t) m2F x.places)) t) x.records) false := by rw [show (mapT (q + 1) (x.rtH t) m2F x.places) = (va_up (mapT q (x.rtH t) m2F x.places) q (-2)) from (mapT_t (by simp [MS.rtH, *]) rfl)] <;> rfl
              exact ih133 _ (by omega) (q + 1) (by omega) rfl H _ ls (cvP e9 hP) (cvD e9 hD) hS (lv_sub hl [0, 1, 2, 3] rfl)
    have e9 : (MS.s_fresh (MS.s_kept (MS.s_horizon (MS.s_written (MS.s_cutLeft (MS.s_cod x 0) (cutF x.syCut)) (x.syWr + 1)) t) x.records) false : MS) = MS.s_fresh (MS.s_kept (MS.s_horizon (MS.s_places (MS.s_written (MS.s_cutLeft (MS.s_cod x 0) (cutF x.syCut)) (x.syWr + 1)) (mapT 0 (x.rtH t) m2F x.places)) t) x.records) false := by rw [show (mapT 0 (x.rtH t) m2F x.places) = x.places from (mapT_0 _ _ _)] <;> rfl
    exact L133 _ 0 (Nat.zero_le _) rfl H _ ls (cvP e9 hP) (cvD e9 hD) hS (lv_sub hl [0, 1, 2, 3] rfl)
  refine lv_iconst (v := 0) hx hb d_M_retain_76 (by decide) ?_
  refine lv_istore_n hx hb d_M_retain_77 rfl hl (by decide) rfl (fun ls hl => ?_)
  have hl : lv_has ls 7 [(3, .int 0), (0, .ref h), (1, .long t)] := hl
  refine lv_iconst (v := 0) hx hb d_M_retain_78 (by decide) ?_
  refine lv_istore hx hb d_M_retain_79 hl (by decide) rfl (fun ls hl => ?_)
  have hl : lv_has ls 7 [(4, .int 0), (3, .int 0), (0, .ref h), (1, .long t)] := hl
  have L81 : ∀ (k9 : Nat) (q : Nat) (n : Nat) (i1 : q ≤ x.points) (i2 : n = cnt q (x.rtC t)) (hk9 : x.points - q = k9), ∀ (H : Heap) (locs : List Loc) (ls : Array Slot) (hP : va_P D vwCl (MW dA h ad (MS.s_fresh (MS.s_kept (MS.s_written (MS.s_cutLeft (MS.s_cod x 0) (cutF x.syCut)) (x.syWr + 1)) x.records) false)) H) (hD : va_D A (MW dA h ad (MS.s_fresh (MS.s_kept (MS.s_written (MS.s_cutLeft (MS.s_cod x 0) (cutF x.syCut)) (x.syWr + 1)) x.records) false))) (hS : va_S A s.heap H locs) (hl : lv_has ls 7 [(4, .int (nI q)), (3, .int (nI n)), (1, .long t), (0, .ref h)]), W p l e ({ frames := 3, cells := 0, slots := 0, locals := 40 } : Room) s m ([.ref h, .long t] : List Value).toArray below meth c H locs 0 0 (MQ below (va_Qi (fun (r9 : Int32) (u9 : MS) => r9 = nI (cnt x.points (x.rtC t)) ∧ u9 = x.rtS t) (fun (u9 : MS) t9 => bW D A (MW dA h ad u9) t9) A) ([.ref h, .long t] : List Value).toArray s 0 0 A) (F0 m 81 ls []) := by
    intro k9
    induction k9 using Nat.strongRecOn with
    | ind k9 ih81 =>
      intro q n i1 i2 hk9 H locs ls hP hD hS hl
      refine lv_iload hx hb d_M_retain_81 (lv_at hl 0 rfl) ?_
      refine lv_aload_n hx hb d_M_retain_83 rfl (lv_at hl 3 rfl) ?_
      refine gF (v := .int (nI x.points)) hx hb hown hE hK hP 0 rfl rfl layM 23 (by decide) w420 rfl d_M_retain_84 ?_
      refine lv_icmp_ge hx hb d_M_retain_87 (tgt := 125) rfl (fun g22 => ?_) (fun g22 => ?_)
      · have g22 := (nI_leI (a := x.points) (b := q) (by omega) (by omega)).mp g22
        exact J125 n (by rw [i2, show q = x.points by omega]) H _ ls hP hD hS (lv_sub hl [1, 2, 3] rfl)
      · have g22 := mt (nI_leI (a := x.points) (b := q) (by omega) (by omega)).mpr g22
        refine lv_iload_n hx hb d_M_retain_90 rfl (lv_at hl 1 rfl) ?_
        refine lv_aload_n hx hb d_M_retain_91 rfl (lv_at hl 3 rfl) ?_
        refine lv_iload hx hb d_M_retain_92 (lv_at hl 0 rfl) ?_
        refine jfI (rnV (As := [.int (nI q)]) (rest := [.int (nI n)]) hx hb hml hown hE hK (hN _ _ hS) hP hD (k_isSeen l D dA H.size h ad (MS.s_fresh (MS.s_kept (MS.s_written (MS.s_cutLeft (MS.s_cod x 0) (cutF x.syCut)) (x.syWr + 1)) x.records) false) q (show q < 12000 from by omega)) (q0 := 0) rfl rfl w861 w860 w862 w863 w328 rfl rfl ⟨⟨by decide, by decide⟩, rfl⟩ ⟨(Nat.le_of_ble_eq_true rfl), (Nat.le_of_ble_eq_true rfl)⟩ rfl hl.1 rfl (Nat.le_of_ble_eq_true rfl) d_M_retain_94 ⟨(Nat.le_of_ble_eq_true rfl), (Nat.le_of_ble_eq_true rfl)⟩) hP hD hS hA (fun r23 u24 H locs hp9 hP hD hS => ?_)
        have hP : va_P D vwCl (MW dA h ad (MS.s_fresh (MS.s_kept (MS.s_written (MS.s_cutLeft (MS.s_cod x 0) (cutF x.syCut)) (x.syWr + 1)) x.records) false)) H := hP
        have hD : va_D A (MW dA h ad (MS.s_fresh (MS.s_kept (MS.s_written (MS.s_cutLeft (MS.s_cod x 0) (cutF x.syCut)) (x.syWr + 1)) x.records) false)) := hD
        replace hp9 : bI (x.seen q) = r23 := Eq.symm hp9
        subst hp9
        refine lv_if_eq hx hb d_M_retain_97 (tgt := 116) rfl (fun g25 => ?_) (fun g25 => ?_)
        · have g25 := bI_0 g25
          refine lv_iconst (v := 0) hx hb d_M_retain_116 (by decide) ?_
          refine lv_iadd hx hb d_M_retain_117 (tpi (y := nI (n)) (nI_add (n) (0)) ?_)
          refine lv_istore_n hx hb d_M_retain_118 rfl hl (by decide) rfl (fun ls hl => ?_)
          have hl : lv_has ls 7 [(3, .int (nI (n))), (4, .int (nI q)), (1, .long t), (0, .ref h)] := hl
          refine lv_iinc (k := 1) (v := nI (q + 1)) hx hb d_M_retain_119 hl rfl (iincN (q) 1 1 (by decide)) (by decide) rfl (fun ls hl => ?_)
          have hl : lv_has ls 7 [(4, .int (nI (q + 1))), (3, .int (nI (n))), (1, .long t), (0, .ref h)] := hl
          refine lv_goto hx hb d_M_retain_122 (tgt := 81) rfl ?_
          exact ih81 _ (by omega) (q + 1) n (by omega) (by simp [cnt, MS.rtC, *]) rfl H _ ls hP hD hS (lv_sub hl [0, 1, 2, 3] rfl)
        · have g25 := bI_n0 g25
          refine lv_aload_n hx hb d_M_retain_100 rfl (lv_at hl 3 rfl) ?_
          refine gF (v := .ref (ad 18)) hx hb hown hE hK hP 0 rfl rfl layM 18 (by decide) w504 rfl d_M_retain_101 ?_
          refine lv_iload hx hb d_M_retain_104 (lv_at hl 0 rfl) ?_
          refine nlld (f := x.pointTimes) hx hb hK hP 7 2 rfl rfl (q) (by omega) (by decide) d_M_retain_106 ?_
          refine lv_lload_n hx hb d_M_retain_107 rfl (lv_at hl 2 rfl) ?_
          refine W.lcmp hx hb d_M_retain_108 ?_
          refine lv_if_ge hx hb d_M_retain_109 (tgt := 116) rfl (fun g26 => ?_) (fun g26 => ?_)
          · have g26 := (lg_cmp_ge _ _).mp g26
            refine lv_iconst (v := 0) hx hb d_M_retain_116 (by decide) ?_
            refine lv_iadd hx hb d_M_retain_117 (tpi (y := nI (n)) (nI_add (n) (0)) ?_)
            refine lv_istore_n hx hb d_M_retain_118 rfl hl (by decide) rfl (fun ls hl => ?_)
            have hl : lv_has ls 7 [(3, .int (nI (n))), (4, .int (nI q)), (1, .long t), (0, .ref h)] := hl
            refine lv_iinc (k := 1) (v := nI (q + 1)) hx hb d_M_retain_119 hl rfl (iincN (q) 1 1 (by decide)) (by decide) rfl (fun ls hl => ?_)
            have hl : lv_has ls 7 [(4, .int (nI (q + 1))), (3, .int (nI (n))), (1, .long t), (0, .ref h)] := hl
            refine lv_goto hx hb d_M_retain_122 (tgt := 81) rfl ?_
            exact ih81 _ (by omega) (q + 1) n (by omega) (by simp [cnt, MS.rtC, *]) rfl H _ ls hP hD hS (lv_sub hl [0, 1, 2, 3] rfl)
          · have g26 := mt (lg_cmp_ge _ _).mpr g26
            refine lv_iconst (v := 1) hx hb d_M_retain_112 (by decide) ?_
            refine lv_goto hx hb d_M_retain_113 (tgt := 117) rfl ?_
            refine lv_iadd hx hb d_M_retain_117 (tpi (y := nI (n + 1)) (nI_add (n) (1)) ?_)
            refine lv_istore_n hx hb d_M_retain_118 rfl hl (by decide) rfl (fun ls hl => ?_)
            have hl : lv_has ls 7 [(3, .int (nI (n + 1))), (4, .int (nI q)), (1, .long t), (0, .ref h)] := hl
            refine lv_iinc (k := 1) (v := nI (q + 1)) hx hb d_M_retain_119 hl rfl (iincN (q) 1 1 (by decide)) (by decide) rfl (fun ls hl => ?_)
            have hl : lv_has ls 7 [(4, .int (nI (q + 1))), (3, .int (nI (n + 1))), (1, .long t), (0, .ref h)] := hl
            refine lv_goto hx hb d_M_retain_122 (tgt := 81) rfl ?_
            exact ih81 _ (by omega) (q + 1) (n + 1) (by omega) (by simp [cnt, MS.rtC, *]) rfl H _ ls hP hD hS (lv_sub hl [0, 1, 2, 3] rfl)
  exact L81 _ 0 0 (Nat.zero_le _) rfl rfl H _ ls hP hD hS (lv_sub hl [0, 1, 3, 2] rfl)
