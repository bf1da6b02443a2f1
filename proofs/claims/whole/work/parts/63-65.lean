section
def MS.rtC (x : MS) (t : Int64) (z : Nat) : Bool := x.seen z && !decide (t ≤ x.pointTimes z)
def MS.rtH (x : MS) (t : Int64) (z : Nat) : Bool := decide (x.places z = (-1)) && !decide (t ≤ x.pointTimes z)
/-- has point z nothing to say against letting parcel i go -/
def MS.rtA (x : MS) (t : Int64) (i z : Nat) : Bool := !decide (x.places z = nI (x.parcels i)) || !decide (t ≤ x.pointTimes z)
def MS.rtP (x : MS) (i z : Nat) : Bool := decide (x.places z = nI (x.parcels i))
def m2F (_ : Nat) : Int32 := -2
theorem nI_m1 {k : Nat} (h : 0 < k) : nI k - 1 = nI (k - 1) := by
  obtain ⟨j, rfl⟩ : ∃ j, k = j + 1 := ⟨k - 1, by omega⟩
  exact nI_pred j
theorem nI_mm {k : Nat} (h : 0 < k) : nI k - 1 + Int32.ofInt (-1) = nI (k - 1) - 1 := by
  rw [nI_m1 h, show Int32.ofInt (-1) = -1 from by decide, Int32.sub_eq_add_neg]
theorem rmS_pc (x : MS) (k : Nat) : (x.rmS k).parcelCount = x.parcelCount - 1 := rfl
def MS.rtK (x : MS) (t : Int64) (i : Nat) : MS := bif allB x.points (x.rtA t i) then (x.s_places (mapT x.points (x.rtP i) m2F x.places)).rmS i else x
/-- j parcels looked at, from number n down -/
def MS.rtJ (x : MS) (t : Int64) (n : Nat) : Nat → MS
  | 0 => x
  | j + 1 => (x.rtJ t n j).rtK t (n - 1 - j)
theorem allB_s (q : Nat) (f : Nat → Bool) : allB (q + 1) f = (allB q f && f q) := rfl
theorem d_M_retain_8 : decode prog_14_method_47_code 8 = .ok (.iconst 1, 1) := by decide +kernel
theorem d_M_retain_9 : decode prog_14_method_47_code 9 = .ok (.goto 25, 3) := by decide +kernel
set_option maxHeartbeats 4000000 in
set_option maxRecDepth 100000 in
theorem k_retain_1 (l : Launch) (D : va_G) (dA : Nat → ClassId) (sz : Nat) (h : Nat) (ad : Nat → Nat) (x : MS) (t : Int64) (ho : x.on = false) : Met l ⟨"SeriesVaultModel", "retain", "(J)I"⟩ [Cond.code ⟨"SeriesVaultModel", "retain", "(J)I"⟩ prog_14_method_47_code 7 (some FieldType.int)] { frames := 1, cells := 0, slots := 0, locals := 0 } (pC D dA [.ref h, .long t] (MW dA h ad x) sz) (va_Qi (fun (r9 : Int32) (u9 : Unit) => r9 = 0) (fun (u9 : Unit) t9 => bW D (va_A (MW dA h ad x) sz) (MW dA h ad (MS.s_cod x 1)) t9) (va_A (MW dA h ad x) sz)) 0 0 (va_A (MW dA h ad x) sz) := by
  refine mkC (y := ⟨"SeriesVaultModel", "retain", "(J)I"⟩) (cc := prog_14_method_47_code) (maxL := 7) (av := [.ref h, .long t]) (ws := MW dA h ad x) (sz := sz) (Qc := fun A => va_Qi (fun (r9 : Int32) (u9 : Unit) => r9 = 0) (fun (u9 : Unit) t9 => bW D A (MW dA h ad (MS.s_cod x 1)) t9) A) (by decide) (Nat.le_of_ble_eq_true rfl) ?_
  intro A p e s m below meth c ls hsz hB
  obtain ⟨hx, hb, hr, hml, hown, hin, hlk, hE, hK, hP, hD, hS, hA, hN, hl⟩ := hB
  have hown : s.vm.findClass "SeriesVaultModel" = some m.cls := hown
  have hl : lv_has ls 7 [(0, .ref h), (1, .long t)] := hl
  obtain ⟨H, hH⟩ : ∃ z, z = s.heap := ⟨_, rfl⟩
  have hP : va_P D vwCl (MW dA h ad x) H := by rw [hH]; exact hP
  have hS : va_S A s.heap H [] := by rw [hH]; exact hS
  rw [← hH]
  refine lv_aload_n hx hb d_M_retain_0 rfl (lv_at hl 0 rfl) ?_
  refine lv_aload_n hx hb d_M_retain_1 rfl (lv_at hl 0 rfl) ?_
  refine gF (v := .int (bI x.on)) hx hb hown hE hK hP 0 rfl rfl layM 7 (by decide) w324 rfl d_M_retain_2 ?_
  refine lv_if_ne hx hb d_M_retain_5 (tgt := 12) rfl (fun h9 => absurd (by rw [ho]; decide) h9) (fun _ => ?_)
  refine lv_iconst (v := 1) hx hb d_M_retain_8 (by decide) ?_
  refine lv_goto hx hb d_M_retain_9 (tgt := 34) rfl ?_
  refine pF (v := .int 1) hx hb hown hE hK hP hD hS 0 rfl rfl layM tyM tokM nmM 0 (by decide) w319 rfl rfl rfl (Nat.le_of_ble_eq_true rfl) d_M_retain_34 (fun H locs hP hD hS => ?_)
  have hP : va_P D vwCl (MW dA h ad (MS.s_cod x 1)) H := hP
  have hD : va_D A (MW dA h ad (MS.s_cod x 1)) := hD
  refine lv_aload_n hx hb d_M_retain_37 rfl (lv_at hl 0 rfl) ?_
  refine gF (v := .int 1) hx hb hown hE hK hP 0 rfl rfl layM 0 (by decide) w319 rfl d_M_retain_38 ?_
  refine lv_if_gt hx hb d_M_retain_41 (tgt := 53) rfl (fun _ => ?_) (fun h9 => absurd (by decide) h9)
  refine lv_iconst (v := 0) hx hb d_M_retain_53 (by decide) ?_
  exact rfI hx hb hr hlk hS () rfl hP hD (Nat.le_of_ble_eq_true rfl) (Nat.le_of_ble_eq_true rfl) d_M_retain_54
set_option maxHeartbeats 4000000 in
set_option maxRecDepth 100000 in
theorem k_retain_2 (l : Launch) (D : va_G) (dA : Nat → ClassId) (sz : Nat) (h : Nat) (ad : Nat → Nat) (x : MS) (t : Int64) (ho : x.on = true) (h0 : t < x.horizon ∨ 1099511627775 < t) : Met l ⟨"SeriesVaultModel", "retain", "(J)I"⟩ [Cond.code ⟨"SeriesVaultModel", "retain", "(J)I"⟩ prog_14_method_47_code 7 (some FieldType.int)] { frames := 1, cells := 0, slots := 0, locals := 0 } (pC D dA [.ref h, .long t] (MW dA h ad x) sz) (va_Qi (fun (r9 : Int32) (u9 : Unit) => r9 = 0) (fun (u9 : Unit) t9 => bW D (va_A (MW dA h ad x) sz) (MW dA h ad (MS.s_cod x 2)) t9) (va_A (MW dA h ad x) sz)) 0 0 (va_A (MW dA h ad x) sz) := by
  refine mkC (y := ⟨"SeriesVaultModel", "retain", "(J)I"⟩) (cc := prog_14_method_47_code) (maxL := 7) (av := [.ref h, .long t]) (ws := MW dA h ad x) (sz := sz) (Qc := fun A => va_Qi (fun (r9 : Int32) (u9 : Unit) => r9 = 0) (fun (u9 : Unit) t9 => bW D A (MW dA h ad (MS.s_cod x 2)) t9) A) (by decide) (Nat.le_of_ble_eq_true rfl) ?_
  intro A p e s m below meth c ls hsz hB
  obtain ⟨hx, hb, hr, hml, hown, hin, hlk, hE, hK, hP, hD, hS, hA, hN, hl⟩ := hB
  have hown : s.vm.findClass "SeriesVaultModel" = some m.cls := hown
  have hl : lv_has ls 7 [(0, .ref h), (1, .long t)] := hl
  obtain ⟨H, hH⟩ : ∃ z, z = s.heap := ⟨_, rfl⟩
  have hP : va_P D vwCl (MW dA h ad x) H := by rw [hH]; exact hP
  have hS : va_S A s.heap H [] := by rw [hH]; exact hS
  rw [← hH]
  refine lv_aload_n hx hb d_M_retain_0 rfl (lv_at hl 0 rfl) ?_
  refine lv_aload_n hx hb d_M_retain_1 rfl (lv_at hl 0 rfl) ?_
  refine gF (v := .int (bI x.on)) hx hb hown hE hK hP 0 rfl rfl layM 7 (by decide) w324 rfl d_M_retain_2 ?_
  refine lv_if_ne hx hb d_M_retain_5 (tgt := 12) rfl (fun _ => ?_) (fun h9 => absurd h9 (by rw [ho]; decide))
  refine lv_lload_n hx hb d_M_retain_12 rfl (lv_at hl 1 rfl) ?_
  refine lv_aload_n hx hb d_M_retain_13 rfl (lv_at hl 0 rfl) ?_
  refine gF (v := .long x.horizon) hx hb hown hE hK hP 0 rfl rfl layM 24 (by decide) w421 rfl d_M_retain_14 ?_
  refine W.lcmp hx hb d_M_retain_17 ?_
  refine lv_if_lt hx hb d_M_retain_18 (tgt := 29) rfl (fun g1 => ?_) (fun g1 => ?_)
  · have g1 := (lg_cmp_lt _ _).mp g1
    refine lv_iconst (v := 2) hx hb d_M_retain_29 (by decide) ?_
    refine lv_goto hx hb d_M_retain_30 (tgt := 34) rfl ?_
    refine pF (v := .int 2) hx hb hown hE hK hP hD hS 0 rfl rfl layM tyM tokM nmM 0 (by decide) w319 rfl rfl rfl (Nat.le_of_ble_eq_true rfl) d_M_retain_34 (fun H locs hP hD hS => ?_)
    have hP : va_P D vwCl (MW dA h ad (MS.s_cod x 2)) H := hP
    have hD : va_D A (MW dA h ad (MS.s_cod x 2)) := hD
    refine lv_aload_n hx hb d_M_retain_37 rfl (lv_at hl 0 rfl) ?_
    refine gF (v := .int 2) hx hb hown hE hK hP 0 rfl rfl layM 0 (by decide) w319 rfl d_M_retain_38 ?_
    refine lv_if_gt hx hb d_M_retain_41 (tgt := 53) rfl (fun _ => ?_) (fun h9 => absurd (by decide) h9)
    refine lv_iconst (v := 0) hx hb d_M_retain_53 (by decide) ?_
    exact rfI hx hb hr hlk hS () rfl hP hD (Nat.le_of_ble_eq_true rfl) (Nat.le_of_ble_eq_true rfl) d_M_retain_54
  · have g1 := mt (lg_cmp_lt _ _).mpr g1
    refine lv_lload_n hx hb d_M_retain_21 rfl (lv_at hl 1 rfl) ?_
    refine lv_ldc2 (v := 1099511627775) hx hb hown (hE.t w450 rfl) d_M_retain_22 ?_
    refine W.lcmp hx hb d_M_retain_25 ?_
    refine lv_if_le hx hb d_M_retain_26 (tgt := 33) rfl (fun h9 => absurd h9 (mt (lg_cmp_le _ _).mp (Int64.not_le.mpr (h0.resolve_left (by assumption))))) (fun _ => ?_)
    refine lv_iconst (v := 2) hx hb d_M_retain_29 (by decide) ?_
    refine lv_goto hx hb d_M_retain_30 (tgt := 34) rfl ?_
    refine pF (v := .int 2) hx hb hown hE hK hP hD hS 0 rfl rfl layM tyM tokM nmM 0 (by decide) w319 rfl rfl rfl (Nat.le_of_ble_eq_true rfl) d_M_retain_34 (fun H locs hP hD hS => ?_)
    have hP : va_P D vwCl (MW dA h ad (MS.s_cod x 2)) H := hP
    have hD : va_D A (MW dA h ad (MS.s_cod x 2)) := hD
    refine lv_aload_n hx hb d_M_retain_37 rfl (lv_at hl 0 rfl) ?_
    refine gF (v := .int 2) hx hb hown hE hK hP 0 rfl rfl layM 0 (by decide) w319 rfl d_M_retain_38 ?_
    refine lv_if_gt hx hb d_M_retain_41 (tgt := 53) rfl (fun _ => ?_) (fun h9 => absurd (by decide) h9)
    refine lv_iconst (v := 0) hx hb d_M_retain_53 (by decide) ?_
    exact rfI hx hb hr hlk hS () rfl hP hD (Nat.le_of_ble_eq_true rfl) (Nat.le_of_ble_eq_true rfl) d_M_retain_54
set_option maxHeartbeats 4000000 in
set_option maxRecDepth 100000 in
theorem k_retain_n (l : Launch) (D : va_G) (dA : Nat → ClassId) (sz : Nat) (h : Nat) (ad : Nat → Nat) (x : MS) (t : Int64) (ho : x.on = true) (h3 : x.horizon ≤ t) (h4 : t ≤ 1099511627775) (h5 : t = x.horizon) : Met l ⟨"SeriesVaultModel", "retain", "(J)I"⟩ [Cond.code ⟨"SeriesVaultModel", "retain", "(J)I"⟩ prog_14_method_47_code 7 (some FieldType.int)] { frames := 1, cells := 0, slots := 0, locals := 0 } (pC D dA [.ref h, .long t] (MW dA h ad x) sz) (va_Qi (fun (r9 : Int32) (u9 : Unit) => r9 = 0) (fun (u9 : Unit) t9 => bW D (va_A (MW dA h ad x) sz) (MW dA h ad (MS.s_cod x 0)) t9) (va_A (MW dA h ad x) sz)) 0 0 (va_A (MW dA h ad x) sz) := by
  refine mkC (y := ⟨"SeriesVaultModel", "retain", "(J)I"⟩) (cc := prog_14_method_47_code) (maxL := 7) (av := [.ref h, .long t]) (ws := MW dA h ad x) (sz := sz) (Qc := fun A => va_Qi (fun (r9 : Int32) (u9 : Unit) => r9 = 0) (fun (u9 : Unit) t9 => bW D A (MW dA h ad (MS.s_cod x 0)) t9) A) (by decide) (Nat.le_of_ble_eq_true rfl) ?_
  intro A p e s m below meth c ls hsz hB
  obtain ⟨hx, hb, hr, hml, hown, hin, hlk, hE, hK, hP, hD, hS, hA, hN, hl⟩ := hB
  have hown : s.vm.findClass "SeriesVaultModel" = some m.cls := hown
  have hl : lv_has ls 7 [(0, .ref h), (1, .long t)] := hl
  obtain ⟨H, hH⟩ : ∃ z, z = s.heap := ⟨_, rfl⟩
  have hP : va_P D vwCl (MW dA h ad x) H := by rw [hH]; exact hP
  have hS : va_S A s.heap H [] := by rw [hH]; exact hS
  rw [← hH]
  refine lv_aload_n hx hb d_M_retain_0 rfl (lv_at hl 0 rfl) ?_
  refine lv_aload_n hx hb d_M_retain_1 rfl (lv_at hl 0 rfl) ?_
  refine gF (v := .int (bI x.on)) hx hb hown hE hK hP 0 rfl rfl layM 7 (by decide) w324 rfl d_M_retain_2 ?_
  refine lv_if_ne hx hb d_M_retain_5 (tgt := 12) rfl (fun _ => ?_) (fun h9 => absurd h9 (by rw [ho]; decide))
  refine lv_lload_n hx hb d_M_retain_12 rfl (lv_at hl 1 rfl) ?_
  refine lv_aload_n hx hb d_M_retain_13 rfl (lv_at hl 0 rfl) ?_
  refine gF (v := .long x.horizon) hx hb hown hE hK hP 0 rfl rfl layM 24 (by decide) w421 rfl d_M_retain_14 ?_
  refine W.lcmp hx hb d_M_retain_17 ?_
  refine lv_if_lt hx hb d_M_retain_18 (tgt := 29) rfl (fun h9 => absurd h9 (mt (lg_cmp_lt _ _).mp (Int64.not_lt.mpr h3))) (fun _ => ?_)
  refine lv_lload_n hx hb d_M_retain_21 rfl (lv_at hl 1 rfl) ?_
  refine lv_ldc2 (v := 1099511627775) hx hb hown (hE.t w450 rfl) d_M_retain_22 ?_
  refine W.lcmp hx hb d_M_retain_25 ?_
  refine lv_if_le hx hb d_M_retain_26 (tgt := 33) rfl (fun _ => ?_) (fun h9 => absurd ((lg_cmp_le _ _).mpr h4) h9)
  refine lv_iconst (v := 0) hx hb d_M_retain_33 (by decide) ?_
  refine pF (v := .int 0) hx hb hown hE hK hP hD hS 0 rfl rfl layM tyM tokM nmM 0 (by decide) w319 rfl rfl rfl (Nat.le_of_ble_eq_true rfl) d_M_retain_34 (fun H locs hP hD hS => ?_)
  have hP : va_P D vwCl (MW dA h ad (MS.s_cod x 0)) H := hP
  have hD : va_D A (MW dA h ad (MS.s_cod x 0)) := hD
  refine lv_aload_n hx hb d_M_retain_37 rfl (lv_at hl 0 rfl) ?_
  refine gF (v := .int 0) hx hb hown hE hK hP 0 rfl rfl layM 0 (by decide) w319 rfl d_M_retain_38 ?_
  refine lv_if_gt hx hb d_M_retain_41 (tgt := 53) rfl (fun h9 => absurd h9 (by decide)) (fun _ => ?_)
  refine lv_lload_n hx hb d_M_retain_44 rfl (lv_at hl 1 rfl) ?_
  refine lv_aload_n hx hb d_M_retain_45 rfl (lv_at hl 0 rfl) ?_
  refine gF (v := .long x.horizon) hx hb hown hE hK hP 0 rfl rfl layM 24 (by decide) w421 rfl d_M_retain_46 ?_
  refine W.lcmp hx hb d_M_retain_49 ?_
  refine lv_if_ne hx hb d_M_retain_50 (tgt := 55) rfl (fun h9 => absurd ((lg_cmp_eq _ _).mpr h5) h9) (fun _ => ?_)
  refine lv_iconst (v := 0) hx hb d_M_retain_53 (by decide) ?_
  exact rfI hx hb hr hlk hS () rfl hP hD (Nat.le_of_ble_eq_true rfl) (Nat.le_of_ble_eq_true rfl) d_M_retain_54
theorem d_M_retain_69 : decode prog_14_method_47_code 69 = .ok (.aload_n 0, 1) := by decide +kernel
theorem d_M_retain_70 : decode prog_14_method_47_code 70 = .ok (.iconst 1, 1) := by decide +kernel
theorem d_M_retain_71 : decode prog_14_method_47_code 71 = .ok (.putfield 145, 3) := by decide +kernel
theorem d_M_retain_74 : decode prog_14_method_47_code 74 = .ok (.iconst 0, 1) := by decide +kernel
theorem d_M_retain_75 : decode prog_14_method_47_code 75 = .ok (.ireturn, 1) := by decide +kernel
set_option maxHeartbeats 4000000 in
set_option maxRecDepth 100000 in
theorem k_retain_5a (l : Launch) (D : va_G) (dA : Nat → ClassId) (sz : Nat) (h : Nat) (ad : Nat → Nat) (x : MS) (t : Int64) (ho : x.on = true) (h3 : x.horizon ≤ t) (h4 : t ≤ 1099511627775) (h5 : ¬ t = x.horizon) (hf : x.fresh = true) (hc : x.cutLeft = 0) : Met l ⟨"SeriesVaultModel", "retain", "(J)I"⟩ [Cond.code ⟨"SeriesVaultModel", "retain", "(J)I"⟩ prog_14_method_47_code 7 (some FieldType.int)] { frames := 3, cells := 0, slots := 0, locals := 40 } (pC D dA [.ref h, .long t] (MW dA h ad x) sz) (va_Qi (fun (r9 : Int32) (u9 : Unit) => r9 = 0) (fun (u9 : Unit) t9 => bW D (va_A (MW dA h ad x) sz) (MW dA h ad (MS.s_cutLeft (MS.s_on (MS.s_cod x 1) false) (-1))) t9) (va_A (MW dA h ad x) sz)) 0 0 (va_A (MW dA h ad x) sz) := by
  refine mkC (y := ⟨"SeriesVaultModel", "retain", "(J)I"⟩) (cc := prog_14_method_47_code) (maxL := 7) (av := [.ref h, .long t]) (ws := MW dA h ad x) (sz := sz) (Qc := fun A => va_Qi (fun (r9 : Int32) (u9 : Unit) => r9 = 0) (fun (u9 : Unit) t9 => bW D A (MW dA h ad (MS.s_cutLeft (MS.s_on (MS.s_cod x 1) false) (-1))) t9) A) (by decide) (Nat.le_of_ble_eq_true rfl) ?_
  intro A p e s m below meth c ls hsz hB
  obtain ⟨hx, hb, hr, hml, hown, hin, hlk, hE, hK, hP, hD, hS, hA, hN, hl⟩ := hB
  have hown : s.vm.findClass "SeriesVaultModel" = some m.cls := hown
  have hl : lv_has ls 7 [(0, .ref h), (1, .long t)] := hl
  obtain ⟨H, hH⟩ : ∃ z, z = s.heap := ⟨_, rfl⟩
  have hP : va_P D vwCl (MW dA h ad x) H := by rw [hH]; exact hP
  have hS : va_S A s.heap H [] := by rw [hH]; exact hS
  rw [← hH]
  refine lv_aload_n hx hb d_M_retain_0 rfl (lv_at hl 0 rfl) ?_
  refine lv_aload_n hx hb d_M_retain_1 rfl (lv_at hl 0 rfl) ?_
  refine gF (v := .int (bI x.on)) hx hb hown hE hK hP 0 rfl rfl layM 7 (by decide) w324 rfl d_M_retain_2 ?_
  refine lv_if_ne hx hb d_M_retain_5 (tgt := 12) rfl (fun _ => ?_) (fun h9 => absurd h9 (by rw [ho]; decide))
  refine lv_lload_n hx hb d_M_retain_12 rfl (lv_at hl 1 rfl) ?_
  refine lv_aload_n hx hb d_M_retain_13 rfl (lv_at hl 0 rfl) ?_
  refine gF (v := .long x.horizon) hx hb hown hE hK hP 0 rfl rfl layM 24 (by decide) w421 rfl d_M_retain_14 ?_
  refine W.lcmp hx hb d_M_retain_17 ?_
  refine lv_if_lt hx hb d_M_retain_18 (tgt := 29) rfl (fun h9 => absurd h9 (mt (lg_cmp_lt _ _).mp (Int64.not_lt.mpr h3))) (fun _ => ?_)
  refine lv_lload_n hx hb d_M_retain_21 rfl (lv_at hl 1 rfl) ?_
  refine lv_ldc2 (v := 1099511627775) hx hb hown (hE.t w450 rfl) d_M_retain_22 ?_
  refine W.lcmp hx hb d_M_retain_25 ?_
  refine lv_if_le hx hb d_M_retain_26 (tgt := 33) rfl (fun _ => ?_) (fun h9 => absurd ((lg_cmp_le _ _).mpr h4) h9)
  refine lv_iconst (v := 0) hx hb d_M_retain_33 (by decide) ?_
  refine pF (v := .int 0) hx hb hown hE hK hP hD hS 0 rfl rfl layM tyM tokM nmM 0 (by decide) w319 rfl rfl rfl (Nat.le_of_ble_eq_true rfl) d_M_retain_34 (fun H locs hP hD hS => ?_)
  have hP : va_P D vwCl (MW dA h ad (MS.s_cod x 0)) H := hP
  have hD : va_D A (MW dA h ad (MS.s_cod x 0)) := hD
  refine lv_aload_n hx hb d_M_retain_37 rfl (lv_at hl 0 rfl) ?_
  refine gF (v := .int 0) hx hb hown hE hK hP 0 rfl rfl layM 0 (by decide) w319 rfl d_M_retain_38 ?_
  refine lv_if_gt hx hb d_M_retain_41 (tgt := 53) rfl (fun h9 => absurd h9 (by decide)) (fun _ => ?_)
  refine lv_lload_n hx hb d_M_retain_44 rfl (lv_at hl 1 rfl) ?_
  refine lv_aload_n hx hb d_M_retain_45 rfl (lv_at hl 0 rfl) ?_
  refine gF (v := .long x.horizon) hx hb hown hE hK hP 0 rfl rfl layM 24 (by decide) w421 rfl d_M_retain_46 ?_
  refine W.lcmp hx hb d_M_retain_49 ?_
  refine lv_if_ne hx hb d_M_retain_50 (tgt := 55) rfl (fun _ => ?_) (fun h9 => absurd h9 (mt (lg_cmp_eq _ _).mp h5))
  refine lv_aload_n hx hb d_M_retain_55 rfl (lv_at hl 0 rfl) ?_
  refine jfI (rnV (As := []) (rest := []) hx hb hml hown hE hK (hN _ _ hS) hP hD (k_synced_x l D dA H.size h ad (MS.s_cod x 0) hf hc) (q0 := 0) rfl rfl w341 w340 w342 w343 w328 rfl rfl ⟨⟨by decide, by decide⟩, rfl⟩ ⟨(Nat.le_of_ble_eq_true rfl), (Nat.le_of_ble_eq_true rfl)⟩ rfl hl.1 rfl (Nat.le_of_ble_eq_true rfl) d_M_retain_56 ⟨(Nat.le_of_ble_eq_true rfl), (Nat.le_of_ble_eq_true rfl)⟩) hP hD hS hA (fun r1 u2 H locs hp9 hP hD hS => ?_)
  have hP : va_P D vwCl (MW dA h ad (MS.s_cutLeft (MS.s_on (MS.s_cod x 0) false) (-1))) H := hP
  have hD : va_D A (MW dA h ad (MS.s_cutLeft (MS.s_on (MS.s_cod x 0) false) (-1))) := hD
  replace hp9 : bI false = r1 := Eq.symm hp9
  subst hp9
  refine lv_if_eq hx hb d_M_retain_59 (tgt := 69) rfl (fun _ => ?_) (fun h9 => absurd (by decide) h9)
  refine lv_aload_n hx hb d_M_retain_69 rfl (lv_at hl 0 rfl) ?_
  refine lv_iconst (v := 1) hx hb d_M_retain_70 (by decide) ?_
  refine pF (v := .int 1) hx hb hown hE hK hP hD hS 0 rfl rfl layM tyM tokM nmM 0 (by decide) w319 rfl rfl rfl (Nat.le_of_ble_eq_true rfl) d_M_retain_71 (fun H locs hP hD hS => ?_)
  have hP : va_P D vwCl (MW dA h ad (MS.s_cutLeft (MS.s_on (MS.s_cod x 1) false) (-1))) H := hP
  have hD : va_D A (MW dA h ad (MS.s_cutLeft (MS.s_on (MS.s_cod x 1) false) (-1))) := hD
  refine lv_iconst (v := 0) hx hb d_M_retain_74 (by decide) ?_
  exact rfI hx hb hr hlk hS () rfl hP hD (Nat.le_of_ble_eq_true rfl) (Nat.le_of_ble_eq_true rfl) d_M_retain_75
set_option maxHeartbeats 4000000 in
set_option maxRecDepth 100000 in
theorem k_retain_5b (l : Launch) (D : va_G) (dA : Nat → ClassId) (sz : Nat) (h : Nat) (ad : Nat → Nat) (x : MS) (t : Int64) (ho : x.on = true) (h3 : x.horizon ≤ t) (h4 : t ≤ 1099511627775) (h5 : ¬ t = x.horizon) (hsy : x.fresh = false ∨ ¬ x.cutLeft = 0) (hc : x.syCut = 0) : Met l ⟨"SeriesVaultModel", "retain", "(J)I"⟩ [Cond.code ⟨"SeriesVaultModel", "retain", "(J)I"⟩ prog_14_method_47_code 7 (some FieldType.int)] { frames := 3, cells := 0, slots := 0, locals := 40 } (pC D dA [.ref h, .long t] (MW dA h ad x) sz) (va_Qi (fun (r9 : Int32) (u9 : Unit) => r9 = 0) (fun (u9 : Unit) t9 => bW D (va_A (MW dA h ad x) sz) (MW dA h ad (MS.s_fresh (MS.s_kept (MS.s_written (MS.s_cutLeft (MS.s_on (MS.s_cod x 1) false) (-1)) x.syWr) x.records) false)) t9) (va_A (MW dA h ad x) sz)) 0 0 (va_A (MW dA h ad x) sz) := by
  refine mkC (y := ⟨"SeriesVaultModel", "retain", "(J)I"⟩) (cc := prog_14_method_47_code) (maxL := 7) (av := [.ref h, .long t]) (ws := MW dA h ad x) (sz := sz) (Qc := fun A => va_Qi (fun (r9 : Int32) (u9 : Unit) => r9 = 0) (fun (u9 : Unit) t9 => bW D A (MW dA h ad (MS.s_fresh (MS.s_kept (MS.s_written (MS.s_cutLeft (MS.s_on (MS.s_cod x 1) false) (-1)) x.syWr) x.records) false)) t9) A) (by decide) (Nat.le_of_ble_eq_true rfl) ?_
  intro A p e s m below meth c ls hsz hB
  obtain ⟨hx, hb, hr, hml, hown, hin, hlk, hE, hK, hP, hD, hS, hA, hN, hl⟩ := hB
  have hown : s.vm.findClass "SeriesVaultModel" = some m.cls := hown
  have hl : lv_has ls 7 [(0, .ref h), (1, .long t)] := hl
  obtain ⟨H, hH⟩ : ∃ z, z = s.heap := ⟨_, rfl⟩
  have hP : va_P D vwCl (MW dA h ad x) H := by rw [hH]; exact hP
  have hS : va_S A s.heap H [] := by rw [hH]; exact hS
  rw [← hH]
  refine lv_aload_n hx hb d_M_retain_0 rfl (lv_at hl 0 rfl) ?_
  refine lv_aload_n hx hb d_M_retain_1 rfl (lv_at hl 0 rfl) ?_
  refine gF (v := .int (bI x.on)) hx hb hown hE hK hP 0 rfl rfl layM 7 (by decide) w324 rfl d_M_retain_2 ?_
  refine lv_if_ne hx hb d_M_retain_5 (tgt := 12) rfl (fun _ => ?_) (fun h9 => absurd h9 (by rw [ho]; decide))
  refine lv_lload_n hx hb d_M_retain_12 rfl (lv_at hl 1 rfl) ?_
  refine lv_aload_n hx hb d_M_retain_13 rfl (lv_at hl 0 rfl) ?_
  refine gF (v := .long x.horizon) hx hb hown hE hK hP 0 rfl rfl layM 24 (by decide) w421 rfl d_M_retain_14 ?_
  refine W.lcmp hx hb d_M_retain_17 ?_
  refine lv_if_lt hx hb d_M_retain_18 (tgt := 29) rfl (fun h9 => absurd h9 (mt (lg_cmp_lt _ _).mp (Int64.not_lt.mpr h3))) (fun _ => ?_)
  refine lv_lload_n hx hb d_M_retain_21 rfl (lv_at hl 1 rfl) ?_
  refine lv_ldc2 (v := 1099511627775) hx hb hown (hE.t w450 rfl) d_M_retain_22 ?_
  refine W.lcmp hx hb d_M_retain_25 ?_
  refine lv_if_le hx hb d_M_retain_26 (tgt := 33) rfl (fun _ => ?_) (fun h9 => absurd ((lg_cmp_le _ _).mpr h4) h9)
  refine lv_iconst (v := 0) hx hb d_M_retain_33 (by decide) ?_
  refine pF (v := .int 0) hx hb hown hE hK hP hD hS 0 rfl rfl layM tyM tokM nmM 0 (by decide) w319 rfl rfl rfl (Nat.le_of_ble_eq_true rfl) d_M_retain_34 (fun H locs hP hD hS => ?_)
  have hP : va_P D vwCl (MW dA h ad (MS.s_cod x 0)) H := hP
  have hD : va_D A (MW dA h ad (MS.s_cod x 0)) := hD
  refine lv_aload_n hx hb d_M_retain_37 rfl (lv_at hl 0 rfl) ?_
  refine gF (v := .int 0) hx hb hown hE hK hP 0 rfl rfl layM 0 (by decide) w319 rfl d_M_retain_38 ?_
  refine lv_if_gt hx hb d_M_retain_41 (tgt := 53) rfl (fun h9 => absurd h9 (by decide)) (fun _ => ?_)
  refine lv_lload_n hx hb d_M_retain_44 rfl (lv_at hl 1 rfl) ?_
  refine lv_aload_n hx hb d_M_retain_45 rfl (lv_at hl 0 rfl) ?_
  refine gF (v := .long x.horizon) hx hb hown hE hK hP 0 rfl rfl layM 24 (by decide) w421 rfl d_M_retain_46 ?_
  refine W.lcmp hx hb d_M_retain_49 ?_
  refine lv_if_ne hx hb d_M_retain_50 (tgt := 55) rfl (fun _ => ?_) (fun h9 => absurd h9 (mt (lg_cmp_eq _ _).mp h5))
  refine lv_aload_n hx hb d_M_retain_55 rfl (lv_at hl 0 rfl) ?_
  refine jfI (rnV (As := []) (rest := []) hx hb hml hown hE hK (hN _ _ hS) hP hD (k_synced l D dA H.size h ad (MS.s_cod x 0) hsy) (q0 := 0) rfl rfl w341 w340 w342 w343 w328 rfl rfl ⟨⟨by decide, by decide⟩, rfl⟩ ⟨(Nat.le_of_ble_eq_true rfl), (Nat.le_of_ble_eq_true rfl)⟩ rfl hl.1 rfl (Nat.le_of_ble_eq_true rfl) d_M_retain_56 ⟨(Nat.le_of_ble_eq_true rfl), (Nat.le_of_ble_eq_true rfl)⟩) hP hD hS hA (fun r1 u2 H locs hp9 hP hD hS => ?_)
  have hP : va_P D vwCl (MW dA h ad (MS.s_fresh (MS.s_kept (MS.s_written (MS.s_cutLeft (MS.s_cod x 0) x.syCut) x.syWr) x.records) false)) H := hP
  have hD : va_D A (MW dA h ad (MS.s_fresh (MS.s_kept (MS.s_written (MS.s_cutLeft (MS.s_cod x 0) x.syCut) x.syWr) x.records) false)) := hD
  replace hp9 : bI true = r1 := Eq.symm hp9
  subst hp9
  refine lv_if_eq hx hb d_M_retain_59 (tgt := 69) rfl (fun h9 => absurd h9 (by decide)) (fun _ => ?_)
  refine lv_aload_n hx hb d_M_retain_62 rfl (lv_at hl 0 rfl) ?_
  refine jfI (rnV (As := []) (rest := []) hx hb hml hown hE hK (hN _ _ hS) hP hD (k_write_x l D dA H.size h ad (MS.s_fresh (MS.s_kept (MS.s_written (MS.s_cutLeft (MS.s_cod x 0) x.syCut) x.syWr) x.records) false) hc) (q0 := 0) rfl rfl w452 w451 w453 w454 w328 rfl rfl ⟨⟨by decide, by decide⟩, rfl⟩ ⟨(Nat.le_of_ble_eq_true rfl), (Nat.le_of_ble_eq_true rfl)⟩ rfl hl.1 rfl (Nat.le_of_ble_eq_true rfl) d_M_retain_63 ⟨(Nat.le_of_ble_eq_true rfl), (Nat.le_of_ble_eq_true rfl)⟩) hP hD hS hA (fun r3 u4 H locs hp9 hP hD hS => ?_)
  have hP : va_P D vwCl (MW dA h ad (MS.s_fresh (MS.s_kept (MS.s_written (MS.s_cutLeft (MS.s_on (MS.s_cod x 0) false) (-1)) x.syWr) x.records) false)) H := hP
  have hD : va_D A (MW dA h ad (MS.s_fresh (MS.s_kept (MS.s_written (MS.s_cutLeft (MS.s_on (MS.s_cod x 0) false) (-1)) x.syWr) x.records) false)) := hD
  replace hp9 : bI false = r3 := Eq.symm hp9
  subst hp9
  refine lv_if_ne hx hb d_M_retain_66 (tgt := 76) rfl (fun h9 => absurd (by decide) h9) (fun _ => ?_)
  refine lv_aload_n hx hb d_M_retain_69 rfl (lv_at hl 0 rfl) ?_
  refine lv_iconst (v := 1) hx hb d_M_retain_70 (by decide) ?_
  refine pF (v := .int 1) hx hb hown hE hK hP hD hS 0 rfl rfl layM tyM tokM nmM 0 (by decide) w319 rfl rfl rfl (Nat.le_of_ble_eq_true rfl) d_M_retain_71 (fun H locs hP hD hS => ?_)
  have hP : va_P D vwCl (MW dA h ad (MS.s_fresh (MS.s_kept (MS.s_written (MS.s_cutLeft (MS.s_on (MS.s_cod x 1) false) (-1)) x.syWr) x.records) false)) H := hP
  have hD : va_D A (MW dA h ad (MS.s_fresh (MS.s_kept (MS.s_written (MS.s_cutLeft (MS.s_on (MS.s_cod x 1) false) (-1)) x.syWr) x.records) false)) := hD
  refine lv_iconst (v := 0) hx hb d_M_retain_74 (by decide) ?_
  exact rfI hx hb hr hlk hS () rfl hP hD (Nat.le_of_ble_eq_true rfl) (Nat.le_of_ble_eq_true rfl) d_M_retain_75
def MS.rt1 (x : MS) (t : Int64) : MS := MS.s_fresh (MS.s_kept (MS.s_horizon (MS.s_places (MS.s_written (MS.s_cutLeft (MS.s_cod x 0) (cutF x.syCut)) (x.syWr + 1)) (mapT x.points (x.rtH t) m2F x.places)) t) x.records) false
def MS.rtS (x : MS) (t : Int64) : MS := (((x.rt1 t).rtJ t x.parcelCount x.parcelCount).tidS).shoS
theorem d_M_retain_335 : decode prog_14_method_47_code 335 = .ok (.iinc 4 (-1), 3) := by decide +kernel
theorem d_M_retain_338 : decode prog_14_method_47_code 338 = .ok (.goto (-140), 3) := by decide +kernel
theorem d_M_retain_265 : decode prog_14_method_47_code 265 = .ok (.iconst 0, 1) := by decide +kernel
theorem d_M_retain_266 : decode prog_14_method_47_code 266 = .ok (.istore 6, 2) := by decide +kernel
theorem d_M_retain_268 : decode prog_14_method_47_code 268 = .ok (.iload 6, 2) := by decide +kernel
theorem d_M_retain_270 : decode prog_14_method_47_code 270 = .ok (.aload_n 0, 1) := by decide +kernel
theorem d_M_retain_271 : decode prog_14_method_47_code 271 = .ok (.getfield 169, 3) := by decide +kernel
theorem d_M_retain_274 : decode prog_14_method_47_code 274 = .ok (.if_icmp .ge 50, 3) := by decide +kernel
theorem d_M_retain_324 : decode prog_14_method_47_code 324 = .ok (.iload 5, 2) := by decide +kernel
theorem d_M_retain_326 : decode prog_14_method_47_code 326 = .ok (.ifCond .eq 9, 3) := by decide +kernel
theorem d_M_retain_329 : decode prog_14_method_47_code 329 = .ok (.aload_n 0, 1) := by decide +kernel
theorem d_M_retain_330 : decode prog_14_method_47_code 330 = .ok (.iload 4, 2) := by decide +kernel
theorem d_M_retain_332 : decode prog_14_method_47_code 332 = .ok (.invokevirtual 338, 3) := by decide +kernel
theorem d_M_retain_277 : decode prog_14_method_47_code 277 = .ok (.iload 5, 2) := by decide +kernel
theorem d_M_retain_279 : decode prog_14_method_47_code 279 = .ok (.ifCond .eq 45, 3) := by decide +kernel
theorem d_M_retain_282 : decode prog_14_method_47_code 282 = .ok (.aload_n 0, 1) := by decide +kernel
theorem d_M_retain_283 : decode prog_14_method_47_code 283 = .ok (.getfield 52, 3) := by decide +kernel
theorem d_M_retain_286 : decode prog_14_method_47_code 286 = .ok (.iload 6, 2) := by decide +kernel
theorem d_M_retain_288 : decode prog_14_method_47_code 288 = .ok (.aload_n 0, 1) := by decide +kernel
theorem d_M_retain_289 : decode prog_14_method_47_code 289 = .ok (.getfield 52, 3) := by decide +kernel
theorem d_M_retain_292 : decode prog_14_method_47_code 292 = .ok (.iload 6, 2) := by decide +kernel
theorem d_M_retain_294 : decode prog_14_method_47_code 294 = .ok (.iaload, 1) := by decide +kernel
theorem d_M_retain_295 : decode prog_14_method_47_code 295 = .ok (.aload_n 0, 1) := by decide +kernel
theorem d_M_retain_296 : decode prog_14_method_47_code 296 = .ok (.getfield 61, 3) := by decide +kernel
theorem d_M_retain_299 : decode prog_14_method_47_code 299 = .ok (.iload 4, 2) := by decide +kernel
theorem d_M_retain_301 : decode prog_14_method_47_code 301 = .ok (.iaload, 1) := by decide +kernel
theorem d_M_retain_302 : decode prog_14_method_47_code 302 = .ok (.if_icmp .ne 8, 3) := by decide +kernel
theorem d_M_retain_310 : decode prog_14_method_47_code 310 = .ok (.aload_n 0, 1) := by decide +kernel
theorem d_M_retain_311 : decode prog_14_method_47_code 311 = .ok (.getfield 52, 3) := by decide +kernel
theorem d_M_retain_314 : decode prog_14_method_47_code 314 = .ok (.iload 6, 2) := by decide +kernel
theorem d_M_retain_316 : decode prog_14_method_47_code 316 = .ok (.iaload, 1) := by decide +kernel
theorem d_M_retain_317 : decode prog_14_method_47_code 317 = .ok (.iastore, 1) := by decide +kernel
theorem d_M_retain_318 : decode prog_14_method_47_code 318 = .ok (.iinc 6 1, 3) := by decide +kernel
theorem d_M_retain_321 : decode prog_14_method_47_code 321 = .ok (.goto (-53), 3) := by decide +kernel
theorem d_M_retain_305 : decode prog_14_method_47_code 305 = .ok (.bipush (-2), 2) := by decide +kernel
theorem d_M_retain_307 : decode prog_14_method_47_code 307 = .ok (.goto 10, 3) := by decide +kernel
theorem d_M_retain_203 : decode prog_14_method_47_code 203 = .ok (.iconst 1, 1) := by decide +kernel
theorem d_M_retain_204 : decode prog_14_method_47_code 204 = .ok (.istore 5, 2) := by decide +kernel
theorem d_M_retain_206 : decode prog_14_method_47_code 206 = .ok (.iconst 0, 1) := by decide +kernel
theorem d_M_retain_207 : decode prog_14_method_47_code 207 = .ok (.istore 6, 2) := by decide +kernel
theorem d_M_retain_209 : decode prog_14_method_47_code 209 = .ok (.iload 6, 2) := by decide +kernel
theorem d_M_retain_211 : decode prog_14_method_47_code 211 = .ok (.aload_n 0, 1) := by decide +kernel
theorem d_M_retain_212 : decode prog_14_method_47_code 212 = .ok (.getfield 169, 3) := by decide +kernel
theorem d_M_retain_215 : decode prog_14_method_47_code 215 = .ok (.if_icmp .ge 50, 3) := by decide +kernel
theorem d_M_retain_218 : decode prog_14_method_47_code 218 = .ok (.iload 5, 2) := by decide +kernel
theorem d_M_retain_220 : decode prog_14_method_47_code 220 = .ok (.ifCond .eq 36, 3) := by decide +kernel
theorem d_M_retain_256 : decode prog_14_method_47_code 256 = .ok (.iconst 0, 1) := by decide +kernel
theorem d_M_retain_257 : decode prog_14_method_47_code 257 = .ok (.istore 5, 2) := by decide +kernel
theorem d_M_retain_259 : decode prog_14_method_47_code 259 = .ok (.iinc 6 1, 3) := by decide +kernel
theorem d_M_retain_262 : decode prog_14_method_47_code 262 = .ok (.goto (-53), 3) := by decide +kernel
theorem d_M_retain_223 : decode prog_14_method_47_code 223 = .ok (.aload_n 0, 1) := by decide +kernel
theorem d_M_retain_224 : decode prog_14_method_47_code 224 = .ok (.getfield 52, 3) := by decide +kernel
theorem d_M_retain_227 : decode prog_14_method_47_code 227 = .ok (.iload 6, 2) := by decide +kernel
theorem d_M_retain_229 : decode prog_14_method_47_code 229 = .ok (.iaload, 1) := by decide +kernel
theorem d_M_retain_230 : decode prog_14_method_47_code 230 = .ok (.aload_n 0, 1) := by decide +kernel
theorem d_M_retain_231 : decode prog_14_method_47_code 231 = .ok (.getfield 61, 3) := by decide +kernel
theorem d_M_retain_234 : decode prog_14_method_47_code 234 = .ok (.iload 4, 2) := by decide +kernel
theorem d_M_retain_236 : decode prog_14_method_47_code 236 = .ok (.iaload, 1) := by decide +kernel
theorem d_M_retain_237 : decode prog_14_method_47_code 237 = .ok (.if_icmp .ne 15, 3) := by decide +kernel
theorem d_M_retain_252 : decode prog_14_method_47_code 252 = .ok (.iconst 1, 1) := by decide +kernel
theorem d_M_retain_253 : decode prog_14_method_47_code 253 = .ok (.goto 4, 3) := by decide +kernel
theorem d_M_retain_240 : decode prog_14_method_47_code 240 = .ok (.aload_n 0, 1) := by decide +kernel
theorem d_M_retain_241 : decode prog_14_method_47_code 241 = .ok (.getfield 46, 3) := by decide +kernel
theorem d_M_retain_244 : decode prog_14_method_47_code 244 = .ok (.iload 6, 2) := by decide +kernel
theorem d_M_retain_246 : decode prog_14_method_47_code 246 = .ok (.laload, 1) := by decide +kernel
theorem d_M_retain_247 : decode prog_14_method_47_code 247 = .ok (.lload_n 1, 1) := by decide +kernel
theorem d_M_retain_248 : decode prog_14_method_47_code 248 = .ok (.lcmp, 1) := by decide +kernel
theorem d_M_retain_249 : decode prog_14_method_47_code 249 = .ok (.ifCond .ge 7, 3) := by decide +kernel
theorem d_M_retain_142 : decode prog_14_method_47_code 142 = .ok (.aload_n 0, 1) := by decide +kernel
theorem d_M_retain_143 : decode prog_14_method_47_code 143 = .ok (.getfield 52, 3) := by decide +kernel
theorem d_M_retain_146 : decode prog_14_method_47_code 146 = .ok (.iload 4, 2) := by decide +kernel
theorem d_M_retain_148 : decode prog_14_method_47_code 148 = .ok (.aload_n 0, 1) := by decide +kernel
theorem d_M_retain_149 : decode prog_14_method_47_code 149 = .ok (.getfield 52, 3) := by decide +kernel
theorem d_M_retain_152 : decode prog_14_method_47_code 152 = .ok (.iload 4, 2) := by decide +kernel
theorem d_M_retain_154 : decode prog_14_method_47_code 154 = .ok (.iaload, 1) := by decide +kernel
theorem d_M_retain_155 : decode prog_14_method_47_code 155 = .ok (.iconst (-1), 1) := by decide +kernel
theorem d_M_retain_156 : decode prog_14_method_47_code 156 = .ok (.if_icmp .ne 20, 3) := by decide +kernel
theorem d_M_retain_176 : decode prog_14_method_47_code 176 = .ok (.aload_n 0, 1) := by decide +kernel
theorem d_M_retain_177 : decode prog_14_method_47_code 177 = .ok (.getfield 52, 3) := by decide +kernel
theorem d_M_retain_180 : decode prog_14_method_47_code 180 = .ok (.iload 4, 2) := by decide +kernel
theorem d_M_retain_182 : decode prog_14_method_47_code 182 = .ok (.iaload, 1) := by decide +kernel
theorem d_M_retain_183 : decode prog_14_method_47_code 183 = .ok (.iastore, 1) := by decide +kernel
theorem d_M_retain_184 : decode prog_14_method_47_code 184 = .ok (.iinc 4 1, 3) := by decide +kernel
theorem d_M_retain_187 : decode prog_14_method_47_code 187 = .ok (.goto (-54), 3) := by decide +kernel
theorem d_M_retain_159 : decode prog_14_method_47_code 159 = .ok (.aload_n 0, 1) := by decide +kernel
theorem d_M_retain_160 : decode prog_14_method_47_code 160 = .ok (.getfield 46, 3) := by decide +kernel
theorem d_M_retain_163 : decode prog_14_method_47_code 163 = .ok (.iload 4, 2) := by decide +kernel
theorem d_M_retain_165 : decode prog_14_method_47_code 165 = .ok (.laload, 1) := by decide +kernel
theorem d_M_retain_166 : decode prog_14_method_47_code 166 = .ok (.lload_n 1, 1) := by decide +kernel
theorem d_M_retain_167 : decode prog_14_method_47_code 167 = .ok (.lcmp, 1) := by decide +kernel
theorem d_M_retain_168 : decode prog_14_method_47_code 168 = .ok (.ifCond .ge 8, 3) := by decide +kernel
theorem d_M_retain_171 : decode prog_14_method_47_code 171 = .ok (.bipush (-2), 2) := by decide +kernel
theorem d_M_retain_173 : decode prog_14_method_47_code 173 = .ok (.goto 10, 3) := by decide +kernel
theorem d_M_retain_90 : decode prog_14_method_47_code 90 = .ok (.iload_n 3, 1) := by decide +kernel
theorem d_M_retain_91 : decode prog_14_method_47_code 91 = .ok (.aload_n 0, 1) := by decide +kernel
theorem d_M_retain_92 : decode prog_14_method_47_code 92 = .ok (.iload 4, 2) := by decide +kernel
theorem d_M_retain_94 : decode prog_14_method_47_code 94 = .ok (.invokevirtual 207, 3) := by decide +kernel
theorem d_M_retain_97 : decode prog_14_method_47_code 97 = .ok (.ifCond .eq 19, 3) := by decide +kernel
theorem d_M_retain_116 : decode prog_14_method_47_code 116 = .ok (.iconst 0, 1) := by decide +kernel
theorem d_M_retain_117 : decode prog_14_method_47_code 117 = .ok (.iadd, 1) := by decide +kernel
theorem d_M_retain_118 : decode prog_14_method_47_code 118 = .ok (.istore_n 3, 1) := by decide +kernel
theorem d_M_retain_119 : decode prog_14_method_47_code 119 = .ok (.iinc 4 1, 3) := by decide +kernel
theorem d_M_retain_122 : decode prog_14_method_47_code 122 = .ok (.goto (-41), 3) := by decide +kernel
theorem d_M_retain_100 : decode prog_14_method_47_code 100 = .ok (.aload_n 0, 1) := by decide +kernel
theorem d_M_retain_101 : decode prog_14_method_47_code 101 = .ok (.getfield 46, 3) := by decide +kernel
theorem d_M_retain_104 : decode prog_14_method_47_code 104 = .ok (.iload 4, 2) := by decide +kernel
theorem d_M_retain_106 : decode prog_14_method_47_code 106 = .ok (.laload, 1) := by decide +kernel
theorem d_M_retain_107 : decode prog_14_method_47_code 107 = .ok (.lload_n 1, 1) := by decide +kernel
theorem d_M_retain_108 : decode prog_14_method_47_code 108 = .ok (.lcmp, 1) := by decide +kernel
theorem d_M_retain_109 : decode prog_14_method_47_code 109 = .ok (.ifCond .ge 7, 3) := by decide +kernel
theorem d_M_retain_112 : decode prog_14_method_47_code 112 = .ok (.iconst 1, 1) := by decide +kernel
theorem d_M_retain_113 : decode prog_14_method_47_code 113 = .ok (.goto 4, 3) := by decide +kernel
set_option maxHeartbeats 4000000 in
set_option maxRecDepth 100000 in
theorem k_retain_0 (l : Launch) (D : va_G) (dA : Nat → ClassId) (sz : Nat) (h : Nat) (ad : Nat → Nat) (x : MS) (t : Int64) (ho : x.on = true) (h3 : x.horizon ≤ t) (h4 : t ≤ 1099511627775) (h5 : ¬ t = x.horizon) (hsy : x.fresh = false ∨ ¬ x.cutLeft = 0) (hc : ¬ x.syCut = 0) (h1 : x.points ≤ 12000) (f1 : x.parcelCount ≤ 40) : Met l ⟨"SeriesVaultModel", "retain", "(J)I"⟩ [Cond.code ⟨"SeriesVaultModel", "retain", "(J)I"⟩ prog_14_method_47_code 7 (some FieldType.int)] { frames := 3, cells := 0, slots := 0, locals := 40 } (pC D dA [.ref h, .long t] (MW dA h ad x) sz) (va_Qi (fun (r9 : Int32) (u9 : MS) => r9 = nI (cnt x.points (x.rtC t)) ∧ u9 = x.rtS t) (fun (u9 : MS) t9 => bW D (va_A (MW dA h ad x) sz) (MW dA h ad u9) t9) (va_A (MW dA h ad x) sz)) 0 0 (va_A (MW dA h ad x) sz) := by
  refine mkC (y := ⟨"SeriesVaultModel", "retain", "(J)I"⟩) (cc := prog_14_method_47_code) (maxL := 7) (av := [.ref h, .long t]) (ws := MW dA h ad x) (sz := sz) (Qc := fun A => va_Qi (fun (r9 : Int32) (u9 : MS) => r9 = nI (cnt x.points (x.rtC t)) ∧ u9 = x.rtS t) (fun (u9 : MS) t9 => bW D A (MW dA h ad u9) t9) A) (by decide) (Nat.le_of_ble_eq_true rfl) ?_
  intro A p e s m below meth c ls hsz hB
  obtain ⟨hx, hb, hr, hml, hown, hin, hlk, hE, hK, hP, hD, hS, hA, hN, hl⟩ := hB
  have hown : s.vm.findClass "SeriesVaultModel" = some m.cls := hown
  have hl : lv_has ls 7 [(0, .ref h), (1, .long t)] := hl
  obtain ⟨H, hH⟩ : ∃ z, z = s.heap := ⟨_, rfl⟩
  have hP : va_P D vwCl (MW dA h ad x) H := by rw [hH]; exact hP
  have hS : va_S A s.heap H [] := by rw [hH]; exact hS
  rw [← hH]
  refine lv_aload_n hx hb d_M_retain_0 rfl (lv_at hl 0 rfl) ?_
  refine lv_aload_n hx hb d_M_retain_1 rfl (lv_at hl 0 rfl) ?_
  refine gF (v := .int (bI x.on)) hx hb hown hE hK hP 0 rfl rfl layM 7 (by decide) w324 rfl d_M_retain_2 ?_
  refine lv_if_ne hx hb d_M_retain_5 (tgt := 12) rfl (fun _ => ?_) (fun h9 => absurd h9 (by rw [ho]; decide))
  refine lv_lload_n hx hb d_M_retain_12 rfl (lv_at hl 1 rfl) ?_
  refine lv_aload_n hx hb d_M_retain_13 rfl (lv_at hl 0 rfl) ?_
  refine gF (v := .long x.horizon) hx hb hown hE hK hP 0 rfl rfl layM 24 (by decide) w421 rfl d_M_retain_14 ?_
  refine W.lcmp hx hb d_M_retain_17 ?_
  refine lv_if_lt hx hb d_M_retain_18 (tgt := 29) rfl (fun h9 => absurd h9 (mt (lg_cmp_lt _ _).mp (Int64.not_lt.mpr h3))) (fun _ => ?_)
  refine lv_lload_n hx hb d_M_retain_21 rfl (lv_at hl 1 rfl) ?_
  refine lv_ldc2 (v := 1099511627775) hx hb hown (hE.t w450 rfl) d_M_retain_22 ?_
  refine W.lcmp hx hb d_M_retain_25 ?_
  refine lv_if_le hx hb d_M_retain_26 (tgt := 33) rfl (fun _ => ?_) (fun h9 => absurd ((lg_cmp_le _ _).mpr h4) h9)
  refine lv_iconst (v := 0) hx hb d_M_retain_33 (by decide) ?_
  refine pF (v := .int 0) hx hb hown hE hK hP hD hS 0 rfl rfl layM tyM tokM nmM 0 (by decide) w319 rfl rfl rfl (Nat.le_of_ble_eq_true rfl) d_M_retain_34 (fun H locs hP hD hS => ?_)
  have hP : va_P D vwCl (MW dA h ad (MS.s_cod x 0)) H := hP
  have hD : va_D A (MW dA h ad (MS.s_cod x 0)) := hD
  refine lv_aload_n hx hb d_M_retain_37 rfl (lv_at hl 0 rfl) ?_
  refine gF (v := .int 0) hx hb hown hE hK hP 0 rfl rfl layM 0 (by decide) w319 rfl d_M_retain_38 ?_
  refine lv_if_gt hx hb d_M_retain_41 (tgt := 53) rfl (fun h9 => absurd h9 (by decide)) (fun _ => ?_)
  refine lv_lload_n hx hb d_M_retain_44 rfl (lv_at hl 1 rfl) ?_
  refine lv_aload_n hx hb d_M_retain_45 rfl (lv_at hl 0 rfl) ?_
  refine gF (v := .long x.horizon) hx hb hown hE hK hP 0 rfl rfl layM 24 (by decide) w421 rfl d_M_retain_46 ?_
  refine W.lcmp hx hb d_M_retain_49 ?_
  refine lv_if_ne hx hb d_M_retain_50 (tgt := 55) rfl (fun _ => ?_) (fun h9 => absurd h9 (mt (lg_cmp_eq _ _).mp h5))
  refine lv_aload_n hx hb d_M_retain_55 rfl (lv_at hl 0 rfl) ?_
  refine jfI (rnV (As := []) (rest := []) hx hb hml hown hE hK (hN _ _ hS) hP hD (k_synced l D dA H.size h ad (MS.s_cod x 0) hsy) (q0 := 0) rfl rfl w341 w340 w342 w343 w328 rfl rfl ⟨⟨by decide, by decide⟩, rfl⟩ ⟨(Nat.le_of_ble_eq_true rfl), (Nat.le_of_ble_eq_true rfl)⟩ rfl hl.1 rfl (Nat.le_of_ble_eq_true rfl) d_M_retain_56 ⟨(Nat.le_of_ble_eq_true rfl), (Nat.le_of_ble_eq_true rfl)⟩) hP hD hS hA (fun r1 u2 H locs hp9 hP hD hS => ?_)
  have hP : va_P D vwCl (MW dA h ad (MS.s_fresh (MS.s_kept (MS.s_written (MS.s_cutLeft (MS.s_cod x 0) x.syCut) x.syWr) x.records) false)) H := hP
  have hD : va_D A (MW dA h ad (MS.s_fresh (MS.s_kept (MS.s_written (MS.s_cutLeft (MS.s_cod x 0) x.syCut) x.syWr) x.records) false)) := hD
  replace hp9 : bI true = r1 := Eq.symm hp9
  subst hp9
  refine lv_if_eq hx hb d_M_retain_59 (tgt := 69) rfl (fun h9 => absurd h9 (by decide)) (fun _ => ?_)
  refine lv_aload_n hx hb d_M_retain_62 rfl (lv_at hl 0 rfl) ?_
  refine jfI (rnV (As := []) (rest := []) hx hb hml hown hE hK (hN _ _ hS) hP hD (k_write l D dA H.size h ad (MS.s_fresh (MS.s_kept (MS.s_written (MS.s_cutLeft (MS.s_cod x 0) x.syCut) x.syWr) x.records) false) hc) (q0 := 0) rfl rfl w452 w451 w453 w454 w328 rfl rfl ⟨⟨by decide, by decide⟩, rfl⟩ ⟨(Nat.le_of_ble_eq_true rfl), (Nat.le_of_ble_eq_true rfl)⟩ rfl hl.1 rfl (Nat.le_of_ble_eq_true rfl) d_M_retain_63 ⟨(Nat.le_of_ble_eq_true rfl), (Nat.le_of_ble_eq_true rfl)⟩) hP hD hS hA (fun r3 u4 H locs hp9 hP hD hS => ?_)
  have hP : va_P D vwCl (MW dA h ad (MS.s_fresh (MS.s_kept (MS.s_written (MS.s_cutLeft (MS.s_cod x 0) (cutF x.syCut)) (x.syWr + 1)) x.records) false)) H := hP
  have hD : va_D A (MW dA h ad (MS.s_fresh (MS.s_kept (MS.s_written (MS.s_cutLeft (MS.s_cod x 0) (cutF x.syCut)) (x.syWr + 1)) x.records) false)) := hD
  replace hp9 : bI true = r3 := Eq.symm hp9
  subst hp9
  refine lv_if_ne hx hb d_M_retain_66 (tgt := 76) rfl (fun _ => ?_) (fun h9 => absurd h9 (by decide))
  have J125 : ∀ (n : Nat) (i2 : n = cnt x.points (x.rtC t)), ∀ (H : Heap) (locs : List Loc) (ls : Array Slot) (hP : va_P D vwCl (MW dA h ad (MS.s_fresh (MS.s_kept (MS.s_written (MS.s_cutLeft (MS.s_cod x 0) (cutF x.syCut)) (x.syWr + 1)) x.records) false)) H) (hD : va_D A (MW dA h ad (MS.s_fresh (MS.s_kept (MS.s_written (MS.s_cutLeft (MS.s_cod x 0) (cutF x.syCut)) (x.syWr + 1)) x.records) false))) (hS : va_S A s.heap H locs) (hl : lv_has ls 7 [(3, .int (nI n)), (1, .long t), (0, .ref h)]), W p l e ({ frames := 3, cells := 0, slots := 0, locals := 40 } : Room) s m ([.ref h, .long t] : List Value).toArray below meth c H locs 0 0 (MQ below (va_Qi (fun (r9 : Int32) (u9 : MS) => r9 = nI (cnt x.points (x.rtC t)) ∧ u9 = x.rtS t) (fun (u9 : MS) t9 => bW D A (MW dA h ad u9) t9) A) ([.ref h, .long t] : List Value).toArray s 0 0 A) (F0 m 125 ls []) := by
    intro n i2 H locs ls hP hD hS hl
    have J190 : ∀ (y : MS) (ey : y = x.rt1 t) (y1 : y.points = x.points) (y2 : y.parcelCount = x.parcelCount), ∀ (H : Heap) (locs : List Loc) (ls : Array Slot) (hP : va_P D vwCl (MW dA h ad y) H) (hD : va_D A (MW dA h ad y)) (hS : va_S A s.heap H locs) (hl : lv_has ls 7 [(3, .int (nI n)), (1, .long t), (0, .ref h)]), W p l e ({ frames := 3, cells := 0, slots := 0, locals := 40 } : Room) s m ([.ref h, .long t] : List Value).toArray below meth c H locs 0 0 (MQ below (va_Qi (fun (r9 : Int32) (u9 : MS) => r9 = nI (cnt x.points (x.rtC t)) ∧ u9 = x.rtS t) (fun (u9 : MS) t9 => bW D A (MW dA h ad u9) t9) A) ([.ref h, .long t] : List Value).toArray s 0 0 A) (F0 m 190 ls []) := by
      intro y ey y1 y2 H locs ls hP hD hS hl
      refine lv_aload_n hx hb d_M_retain_190 rfl (lv_at hl 2 rfl) ?_
      refine gF (v := .int (nI y.parcelCount)) hx hb hown hE hK hP 0 rfl rfl layM 28 (by decide) w344 rfl d_M_retain_191 ?_
      refine lv_iconst (v := 1) hx hb d_M_retain_194 (by decide) ?_
      refine lv_isub hx hb d_M_retain_195 ?_
      refine lv_istore hx hb d_M_retain_196 hl (by decide) rfl (fun ls hl => ?_)
      have hl : lv_has ls 7 [(4, .int ((nI y.parcelCount) - 1)), (3, .int (nI n)), (1, .long t), (0, .ref h)] := hl
      have L198 : ∀ (k9 : Nat) (k : Nat) (j : Nat) (z : MS) (k1 : k + j = x.parcelCount) (ez : z = y.rtJ t x.parcelCount j) (z1 : z.points = x.points) (z2 : z.parcelCount ≤ 40) (z3 : k ≤ z.parcelCount) (hk9 : k = k9), ∀ (H : Heap) (locs : List Loc) (ls : Array Slot) (hP : va_P D vwCl (MW dA h ad z) H) (hD : va_D A (MW dA h ad z)) (hS : va_S A s.heap H locs) (hl : lv_has ls 7 [(4, .int (nI k - 1)), (3, .int (nI n)), (1, .long t), (0, .ref h)]), W p l e ({ frames := 3, cells := 0, slots := 0, locals := 40 } : Room) s m ([.ref h, .long t] : List Value).toArray below meth c H locs 0 0 (MQ below (va_Qi (fun (r9 : Int32) (u9 : MS) => r9 = nI (cnt x.points (x.rtC t)) ∧ u9 = x.rtS t) (fun (u9 : MS) t9 => bW D A (MW dA h ad u9) t9) A) ([.ref h, .long t] : List Value).toArray s 0 0 A) (F0 m 198 ls []) := by
        intro k9
        induction k9 using Nat.strongRecOn with
        | ind k9 ih198 =>
          intro k j z k1 ez z1 z2 z3 hk9 H locs ls hP hD hS hl
          rcases (Nat.eq_zero_or_pos k) with z0 | z0
          · refine lv_iload hx hb d_M_retain_198 (lv_at hl 0 rfl) ?_
            refine lv_if_lt hx hb d_M_retain_200 (tgt := 341) rfl (fun _ => ?_) (fun h9 => absurd (by rw [z0]; decide) h9)
            refine lv_aload_n hx hb d_M_retain_341 rfl (lv_at hl 3 rfl) ?_
            refine jfV (rnV (As := []) (rest := []) hx hb hml hown hE hK (hN _ _ hS) hP hD (k_tidy l D dA H.size h ad z (show z.points ≤ 12000 from by omega)) (q0 := 0) rfl rfl w456 w455 w457 w458 w328 rfl rfl ⟨⟨by decide, by decide⟩, rfl⟩ ⟨(Nat.le_of_ble_eq_true rfl), (Nat.le_of_ble_eq_true rfl)⟩ rfl hl.1 rfl (Nat.le_of_ble_eq_true rfl) d_M_retain_342 ⟨(Nat.le_of_ble_eq_true rfl), (Nat.le_of_ble_eq_true rfl)⟩) hP hD hS hA (fun u6 H locs hp9 hP hD hS => ?_)
            have hP : va_P D vwCl (MW dA h ad (MS.s_points (MS.s_baseHidden (MS.s_hidden (MS.s_places (MS.s_pointValues (MS.s_pointTimes (MS.s_pointSeries z (tdT z.stay z.pointSeries z.points)) (tdT z.stay z.pointTimes z.points)) (tdT z.stay z.pointValues z.points)) (tdT z.stay z.places z.points)) (tdT z.stay z.hidden z.points)) (tdT z.stay z.baseHidden z.points)) (cnt z.points z.stay))) H := hP
            have hD : va_D A (MW dA h ad (MS.s_points (MS.s_baseHidden (MS.s_hidden (MS.s_places (MS.s_pointValues (MS.s_pointTimes (MS.s_pointSeries z (tdT z.stay z.pointSeries z.points)) (tdT z.stay z.pointTimes z.points)) (tdT z.stay z.pointValues z.points)) (tdT z.stay z.places z.points)) (tdT z.stay z.hidden z.points)) (tdT z.stay z.baseHidden z.points)) (cnt z.points z.stay))) := hD
            refine lv_aload_n hx hb d_M_retain_345 rfl (lv_at hl 3 rfl) ?_
            have z4 := cnt_le z.points z.stay
            refine jfV (rnV (As := []) (rest := []) hx hb hml hown hE hK (hN _ _ hS) hP hD (k_shown l D dA H.size h ad (MS.s_points (MS.s_baseHidden (MS.s_hidden (MS.s_places (MS.s_pointValues (MS.s_pointTimes (MS.s_pointSeries z (tdT z.stay z.pointSeries z.points)) (tdT z.stay z.pointTimes z.points)) (tdT z.stay z.pointValues z.points)) (tdT z.stay z.places z.points)) (tdT z.stay z.hidden z.points)) (tdT z.stay z.baseHidden z.points)) (cnt z.points z.stay)) (show (cnt z.points z.stay) ≤ 12000 from by omega)) (q0 := 0) rfl rfl w460 w459 w461 w462 w328 rfl rfl ⟨⟨by decide, by decide⟩, rfl⟩ ⟨(Nat.le_of_ble_eq_true rfl), (Nat.le_of_ble_eq_true rfl)⟩ rfl hl.1 rfl (Nat.le_of_ble_eq_true rfl) d_M_retain_346 ⟨(Nat.le_of_ble_eq_true rfl), (Nat.le_of_ble_eq_true rfl)⟩) hP hD hS hA (fun u8 H locs hp9 hP hD hS => ?_)
            have hP : va_P D vwCl (MW dA h ad (MS.s_baseHorizon (MS.s_points (MS.s_baseHidden (MS.s_hidden (MS.s_places (MS.s_pointValues (MS.s_pointTimes (MS.s_pointSeries z (tdT z.stay z.pointSeries z.points)) (tdT z.stay z.pointTimes z.points)) (tdT z.stay z.pointValues z.points)) (tdT z.stay z.places z.points)) (tdT z.stay z.hidden z.points)) (mapT (cnt z.points z.stay) (fun _ => true) (tdT z.stay z.hidden z.points) (tdT z.stay z.baseHidden z.points))) (cnt z.points z.stay)) z.horizon)) H := hP
            have hD : va_D A (MW dA h ad (MS.s_baseHorizon (MS.s_points (MS.s_baseHidden (MS.s_hidden (MS.s_places (MS.s_pointValues (MS.s_pointTimes (MS.s_pointSeries z (tdT z.stay z.pointSeries z.points)) (tdT z.stay z.pointTimes z.points)) (tdT z.stay z.pointValues z.points)) (tdT z.stay z.places z.points)) (tdT z.stay z.hidden z.points)) (mapT (cnt z.points z.stay) (fun _ => true) (tdT z.stay z.hidden z.points) (tdT z.stay z.baseHidden z.points))) (cnt z.points z.stay)) z.horizon)) := hD
            refine lv_iload_n hx hb d_M_retain_349 rfl (lv_at hl 1 rfl) ?_
            exact rfI hx hb hr hlk hS (MS.s_baseHorizon (MS.s_points (MS.s_baseHidden (MS.s_hidden (MS.s_places (MS.s_pointValues (MS.s_pointTimes (MS.s_pointSeries z (tdT z.stay z.pointSeries z.points)) (tdT z.stay z.pointTimes z.points)) (tdT z.stay z.pointValues z.points)) (tdT z.stay z.places z.points)) (tdT z.stay z.hidden z.points)) (mapT (cnt z.points z.stay) (fun _ => true) (tdT z.stay z.hidden z.points) (tdT z.stay z.baseHidden z.points))) (cnt z.points z.stay)) z.horizon) ⟨by rw [i2], by subst ez; rw [show j = x.parcelCount by omega]; subst ey; rfl⟩ hP hD (Nat.le_of_ble_eq_true rfl) (Nat.le_of_ble_eq_true rfl) d_M_retain_350
          · refine lv_iload hx hb d_M_retain_198 (lv_at hl 0 rfl) ?_
            refine tpi (y := nI (k - 1)) (nI_m1 z0) ?_
            refine lv_if_lt hx hb d_M_retain_200 (tgt := 341) rfl (fun h9 => absurd h9 (nI_pos (n := k - 1) (by omega))) (fun _ => ?_)
            have J265 : ∀ (v : Bool) (m3 : allB z.points (z.rtA t (k - 1)) = v), ∀ (H : Heap) (locs : List Loc) (ls : Array Slot) (hP : va_P D vwCl (MW dA h ad z) H) (hD : va_D A (MW dA h ad z)) (hS : va_S A s.heap H locs) (hl : lv_has ls 7 [(5, .int (bI v)), (4, .int (nI k - 1)), (3, .int (nI n)), (1, .long t), (0, .ref h)]), W p l e ({ frames := 3, cells := 0, slots := 0, locals := 40 } : Room) s m ([.ref h, .long t] : List Value).toArray below meth c H locs 0 0 (MQ below (va_Qi (fun (r9 : Int32) (u9 : MS) => r9 = nI (cnt x.points (x.rtC t)) ∧ u9 = x.rtS t) (fun (u9 : MS) t9 => bW D A (MW dA h ad u9) t9) A) ([.ref h, .long t] : List Value).toArray s 0 0 A) (F0 m 265 ls []) := by
              intro v m3 H locs ls hP hD hS hl
              have J335 : ∀ (z7 : MS) (ez7 : z7 = z.rtK t (k - 1)) (z5 : z7.points = x.points) (z6 : k - 1 ≤ z7.parcelCount ∧ z7.parcelCount ≤ 40), ∀ (H : Heap) (locs : List Loc) (ls : Array Slot) (hP : va_P D vwCl (MW dA h ad z7) H) (hD : va_D A (MW dA h ad z7)) (hS : va_S A s.heap H locs) (hl : lv_has ls 7 [(4, .int (nI k - 1)), (3, .int (nI n)), (1, .long t), (0, .ref h)]), W p l e ({ frames := 3, cells := 0, slots := 0, locals := 40 } : Room) s m ([.ref h, .long t] : List Value).toArray below meth c H locs 0 0 (MQ below (va_Qi (fun (r9 : Int32) (u9 : MS) => r9 = nI (cnt x.points (x.rtC t)) ∧ u9 = x.rtS t) (fun (u9 : MS) t9 => bW D A (MW dA h ad u9) t9) A) ([.ref h, .long t] : List Value).toArray s 0 0 A) (F0 m 335 ls []) := by
                intro z7 ez7 z5 z6 H locs ls hP hD hS hl
                have ez2 : z7 = y.rtJ t x.parcelCount (j + 1) := by rw [ez7, ez]; show _ = (y.rtJ t x.parcelCount j).rtK t (x.parcelCount - 1 - j); rw [show x.parcelCount - 1 - j = k - 1 by omega]
                refine lv_iinc (k := 0) (v := nI (k - 1) - 1) hx hb d_M_retain_335 hl rfl (nI_mm z0) (by decide) rfl (fun ls hl => ?_)
                have hl : lv_has ls 7 [(4, .int (nI (k - 1) - 1)), (3, .int (nI n)), (1, .long t), (0, .ref h)] := hl
                refine lv_goto hx hb d_M_retain_338 (tgt := 198) rfl ?_
                exact ih198 _ (by omega) (k - 1) (j + 1) z7 (by omega) ez2 z5 (by omega) (by omega) rfl H _ ls hP hD hS (lv_sub hl [0, 1, 2, 3] rfl)
              refine lv_iconst (v := 0) hx hb d_M_retain_265 (by decide) ?_
              refine lv_istore hx hb d_M_retain_266 hl (by decide) rfl (fun ls hl => ?_)
              have hl : lv_has ls 7 [(6, .int 0), (5, .int (bI v)), (4, .int (nI k - 1)), (3, .int (nI n)), (1, .long t), (0, .ref h)] := hl
              have L268 : ∀ (k9 : Nat) (r : Nat) (m1 : r ≤ z.points) (m4 : r = 0 ∨ v = true) (hk9 : z.points - r = k9), ∀ (H : Heap) (locs : List Loc) (ls : Array Slot) (hP : va_P D vwCl (MW dA h ad (MS.s_places z (mapT r (z.rtP (k - 1)) m2F z.places))) H) (hD : va_D A (MW dA h ad (MS.s_places z (mapT r (z.rtP (k - 1)) m2F z.places)))) (hS : va_S A s.heap H locs) (hl : lv_has ls 7 [(6, .int (nI r)), (5, .int (bI v)), (4, .int (nI k - 1)), (3, .int (nI n)), (1, .long t), (0, .ref h)]), W p l e ({ frames := 3, cells := 0, slots := 0, locals := 40 } : Room) s m ([.ref h, .long t] : List Value).toArray below meth c H locs 0 0 (MQ below (va_Qi (fun (r9 : Int32) (u9 : MS) => r9 = nI (cnt x.points (x.rtC t)) ∧ u9 = x.rtS t) (fun (u9 : MS) t9 => bW D A (MW dA h ad u9) t9) A) ([.ref h, .long t] : List Value).toArray s 0 0 A) (F0 m 268 ls []) := by
                intro k9
                induction k9 using Nat.strongRecOn with
                | ind k9 ih268 =>
                  intro r m1 m4 hk9 H locs ls hP hD hS hl
                  refine lv_iload hx hb d_M_retain_268 (lv_at hl 0 rfl) ?_
                  refine lv_aload_n hx hb d_M_retain_270 rfl (lv_at hl 5 rfl) ?_
                  refine gF (v := .int (nI z.points)) hx hb hown hE hK hP 0 rfl rfl layM 23 (by decide) w420 rfl d_M_retain_271 ?_
                  refine lv_icmp_ge hx hb d_M_retain_274 (tgt := 324) rfl (fun g9 => ?_) (fun g9 => ?_)
                  · have g9 := (nI_leI (a := z.points) (b := r) (by omega) (by omega)).mp g9
                    refine lv_iload hx hb d_M_retain_324 (lv_at hl 1 rfl) ?_
                    refine lv_if_eq hx hb d_M_retain_326 (tgt := 335) rfl (fun g10 => ?_) (fun g10 => ?_)
                    · have g10 := bI_0 g10
                      exact J335 (MS.s_places z (mapT r (z.rtP (k - 1)) m2F z.places)) (by unfold MS.rtK; rw [m3, g10]; rw [show r = 0 from m4.resolve_right (by rw [g10]; decide), mapT_0]; rfl) z1 (show k - 1 ≤ z.parcelCount ∧ z.parcelCount ≤ 40 from by omega) H _ ls hP hD hS (lv_sub hl [2, 3, 4, 5] rfl)
                    · have g10 := bI_n0 g10
                      refine lv_aload_n hx hb d_M_retain_329 rfl (lv_at hl 5 rfl) ?_
                      refine lv_iload hx hb d_M_retain_330 (lv_at hl 2 rfl) ?_
                      refine tpi (y := nI (k - 1)) (nI_m1 z0) ?_
                      refine jfV (rnV (As := [.int (nI (k - 1))]) (rest := []) hx hb hml hown hE hK (hN _ _ hS) hP hD (k_remove l D dA H.size h ad (MS.s_places z (mapT r (z.rtP (k - 1)) m2F z.places)) (k - 1) (show (k - 1) < z.parcelCount from by omega) (show z.parcelCount ≤ 40 from by omega)) (q0 := 0) rfl rfl w931 w930 w932 w933 w328 rfl rfl ⟨⟨by decide, by decide⟩, rfl⟩ ⟨(Nat.le_of_ble_eq_true rfl), (Nat.le_of_ble_eq_true rfl)⟩ rfl hl.1 rfl (Nat.le_of_ble_eq_true rfl) d_M_retain_332 ⟨(Nat.le_of_ble_eq_true rfl), (Nat.le_of_ble_eq_true rfl)⟩) hP hD hS hA (fun u12 H locs hp9 hP hD hS => ?_)
                      have hP : va_P D vwCl (MW dA h ad (MS.s_parcelCount (MS.s_parcelBlocks (MS.s_parcels (MS.s_places z (mapT r (z.rtP (k - 1)) m2F z.places)) (rmT (k - 1) z.parcels (z.parcelCount - 1))) (rmT (k - 1) z.parcelBlocks (z.parcelCount - 1))) (z.parcelCount - 1))) H := hP
                      have hD : va_D A (MW dA h ad (MS.s_parcelCount (MS.s_parcelBlocks (MS.s_parcels (MS.s_places z (mapT r (z.rtP (k - 1)) m2F z.places)) (rmT (k - 1) z.parcels (z.parcelCount - 1))) (rmT (k - 1) z.parcelBlocks (z.parcelCount - 1))) (z.parcelCount - 1))) := hD
                      exact J335 (MS.s_parcelCount (MS.s_parcelBlocks (MS.s_parcels (MS.s_places z (mapT r (z.rtP (k - 1)) m2F z.places)) (rmT (k - 1) z.parcels (z.parcelCount - 1))) (rmT (k - 1) z.parcelBlocks (z.parcelCount - 1))) (z.parcelCount - 1)) (by unfold MS.rtK; rw [m3, g10]; rw [show r = z.points by omega]; rfl) z1 (show k - 1 ≤ z.parcelCount - 1 ∧ z.parcelCount - 1 ≤ 40 from by omega) H _ ls hP hD hS (lv_sub hl [2, 3, 4, 5] rfl)
                  · have g9 := mt (nI_leI (a := z.points) (b := r) (by omega) (by omega)).mpr g9
                    refine lv_iload hx hb d_M_retain_277 (lv_at hl 1 rfl) ?_
                    refine lv_if_eq hx hb d_M_retain_279 (tgt := 324) rfl (fun g13 => ?_) (fun g13 => ?_)
                    · have g13 := bI_0 g13
                      refine lv_iload hx hb d_M_retain_324 (lv_at hl 1 rfl) ?_
                      refine lv_if_eq hx hb d_M_retain_326 (tgt := 335) rfl (fun _ => ?_) (fun h9 => absurd (by rw [g13]; decide) h9)
                      exact J335 (MS.s_places z (mapT r (z.rtP (k - 1)) m2F z.places)) (by unfold MS.rtK; rw [m3, g13]; rw [show r = 0 from m4.resolve_right (by rw [g13]; decide), mapT_0]; rfl) z1 (show k - 1 ≤ z.parcelCount ∧ z.parcelCount ≤ 40 from by omega) H _ ls hP hD hS (lv_sub hl [2, 3, 4, 5] rfl)
                    · have g13 := bI_n0 g13
                      refine lv_aload_n hx hb d_M_retain_282 rfl (lv_at hl 5 rfl) ?_
                      refine gF (v := .ref (ad 20)) hx hb hown hE hK hP 0 rfl rfl layM 20 (by decide) w506 rfl d_M_retain_283 ?_
                      refine lv_iload hx hb d_M_retain_286 (lv_at hl 0 rfl) ?_
                      refine lv_aload_n hx hb d_M_retain_288 rfl (lv_at hl 5 rfl) ?_
                      refine gF (v := .ref (ad 20)) hx hb hown hE hK hP 0 rfl rfl layM 20 (by decide) w506 rfl d_M_retain_289 ?_
                      refine lv_iload hx hb d_M_retain_292 (lv_at hl 0 rfl) ?_
                      refine nild (f := (mapT r (z.rtP (k - 1)) m2F z.places)) hx hb hK hP 9 1 rfl rfl (r) (by omega) (by decide) d_M_retain_294 ?_
                      refine tpi (y := (z.places r)) (mapT_at _ _ _ (Nat.le_refl r)) ?_
                      refine lv_aload_n hx hb d_M_retain_295 rfl (lv_at hl 5 rfl) ?_
                      refine gF (v := .ref (ad 26)) hx hb hown hE hK hP 0 rfl rfl layM 26 (by decide) w509 rfl d_M_retain_296 ?_
                      refine lv_iload hx hb d_M_retain_299 (lv_at hl 2 rfl) ?_
                      refine tpi (y := nI (k - 1)) (nI_m1 z0) ?_
                      refine nild (f := (fun z9 => nI (z.parcels z9))) hx hb hK hP 12 1 rfl rfl (k - 1) (by omega) (by decide) d_M_retain_301 ?_
                      refine lv_icmp_ne hx hb d_M_retain_302 (tgt := 310) rfl (fun g14 => ?_) (fun g14 => ?_)
                      · have g14 := g14
                        refine lv_aload_n hx hb d_M_retain_310 rfl (lv_at hl 5 rfl) ?_
                        refine gF (v := .ref (ad 20)) hx hb hown hE hK hP 0 rfl rfl layM 20 (by decide) w506 rfl d_M_retain_311 ?_
                        refine lv_iload hx hb d_M_retain_314 (lv_at hl 0 rfl) ?_
                        refine nild (f := (mapT r (z.rtP (k - 1)) m2F z.places)) hx hb hK hP 9 1 rfl rfl (r) (by omega) (by decide) d_M_retain_316 ?_
                        refine tpi (y := (z.places r)) (mapT_at _ _ _ (Nat.le_refl r)) ?_
                        refine nist hx hb hK hP hD hS 9 1 rfl rfl (r) (by omega) (by decide) d_M_retain_317 (fun H locs hP hD hS => ?_)
                        have hP : va_P D vwCl (MW dA h ad (MS.s_places z (va_up (mapT r (z.rtP (k - 1)) m2F z.places) r (z.places r)))) H := hP
                        have hD : va_D A (MW dA h ad (MS.s_places z (va_up (mapT r (z.rtP (k - 1)) m2F z.places) r (z.places r)))) := hD
                        refine lv_iinc (k := 0) (v := nI (r + 1)) hx hb d_M_retain_318 hl rfl (iincN (r) 1 1 (by decide)) (by decide) rfl (fun ls hl => ?_)
                        have hl : lv_has ls 7 [(6, .int (nI (r + 1))), (5, .int (bI v)), (4, .int (nI k - 1)), (3, .int (nI n)), (1, .long t), (0, .ref h)] := hl
                        refine lv_goto hx hb d_M_retain_321 (tgt := 268) rfl ?_
                        have e9 : (MS.s_places z (va_up (mapT r (z.rtP (k - 1)) m2F z.places) r (z.places r)) : MS) = MS.s_places z (mapT (r + 1) (z.rtP (k - 1)) m2F z.places) := by rw [show (mapT (r + 1) (z.rtP (k - 1)) m2F z.places) = (va_up (mapT r (z.rtP (k - 1)) m2F z.places) r (z.places r)) from (mapT_u (decide_eq_false g14) rfl)] <;> rfl
                        exact ih268 _ (by omega) (r + 1) (by omega) (Or.inr (by assumption)) rfl H _ ls (cvP e9 hP) (cvD e9 hD) hS (lv_sub hl [0, 1, 2, 3, 4, 5] rfl)
                      · have g14 := g14
                        refine lv_bipush (v := (-2)) hx hb d_M_retain_305 (by decide) ?_
                        refine lv_goto hx hb d_M_retain_307 (tgt := 317) rfl ?_
                        refine nist hx hb hK hP hD hS 9 1 rfl rfl (r) (by omega) (by decide) d_M_retain_317 (fun H locs hP hD hS => ?_)
                        have hP : va_P D vwCl (MW dA h ad (MS.s_places z (va_up (mapT r (z.rtP (k - 1)) m2F z.places) r (-2)))) H := hP
                        have hD : va_D A (MW dA h ad (MS.s_places z (va_up (mapT r (z.rtP (k - 1)) m2F z.places) r (-2)))) := hD
                        refine lv_iinc (k := 0) (v := nI (r + 1)) hx hb d_M_retain_318 hl rfl (iincN (r) 1 1 (by decide)) (by decide) rfl (fun ls hl => ?_)
                        have hl : lv_has ls 7 [(6, .int (nI (r + 1))), (5, .int (bI v)), (4, .int (nI k - 1)), (3, .int (nI n)), (1, .long t), (0, .ref h)] := hl
                        refine lv_goto hx hb d_M_retain_321 (tgt := 268) rfl ?_
                        have e9 : (MS.s_places z (va_up (mapT r (z.rtP (k - 1)) m2F z.places) r (-2)) : MS) = MS.s_places z (mapT (r + 1) (z.rtP (k - 1)) m2F z.places) := by rw [show (mapT (r + 1) (z.rtP (k - 1)) m2F z.places) = (va_up (mapT r (z.rtP (k - 1)) m2F z.places) r (-2)) from (mapT_t (decide_eq_true g14) rfl)] <;> rfl
                        exact ih268 _ (by omega) (r + 1) (by omega) (Or.inr (by assumption)) rfl H _ ls (cvP e9 hP) (cvD e9 hD) hS (lv_sub hl [0, 1, 2, 3, 4, 5] rfl)
              have e9 : (z : MS) = MS.s_places z (mapT 0 (z.rtP (k - 1)) m2F z.places) := by rw [show (mapT 0 (z.rtP (k - 1)) m2F z.places) = z.places from (mapT_0 _ _ _)] <;> rfl
              exact L268 _ 0 (Nat.zero_le _) (Or.inl rfl) rfl H _ ls (cvP e9 hP) (cvD e9 hD) hS (lv_sub hl [0, 1, 2, 3, 4, 5] rfl)
            refine lv_iconst (v := 1) hx hb d_M_retain_203 (by decide) ?_
            refine lv_istore hx hb d_M_retain_204 hl (by decide) rfl (fun ls hl => ?_)
            have hl : lv_has ls 7 [(5, .int 1), (4, .int (nI k - 1)), (3, .int (nI n)), (1, .long t), (0, .ref h)] := hl
            refine lv_iconst (v := 0) hx hb d_M_retain_206 (by decide) ?_
            refine lv_istore hx hb d_M_retain_207 hl (by decide) rfl (fun ls hl => ?_)
            have hl : lv_has ls 7 [(6, .int 0), (5, .int 1), (4, .int (nI k - 1)), (3, .int (nI n)), (1, .long t), (0, .ref h)] := hl
            have L209 : ∀ (k9 : Nat) (r : Nat) (v : Bool) (m1 : r ≤ z.points) (m2 : allB r (z.rtA t (k - 1)) = v) (hk9 : z.points - r = k9), ∀ (H : Heap) (locs : List Loc) (ls : Array Slot) (hP : va_P D vwCl (MW dA h ad z) H) (hD : va_D A (MW dA h ad z)) (hS : va_S A s.heap H locs) (hl : lv_has ls 7 [(6, .int (nI r)), (5, .int (bI v)), (4, .int (nI k - 1)), (3, .int (nI n)), (1, .long t), (0, .ref h)]), W p l e ({ frames := 3, cells := 0, slots := 0, locals := 40 } : Room) s m ([.ref h, .long t] : List Value).toArray below meth c H locs 0 0 (MQ below (va_Qi (fun (r9 : Int32) (u9 : MS) => r9 = nI (cnt x.points (x.rtC t)) ∧ u9 = x.rtS t) (fun (u9 : MS) t9 => bW D A (MW dA h ad u9) t9) A) ([.ref h, .long t] : List Value).toArray s 0 0 A) (F0 m 209 ls []) := by
              intro k9
              induction k9 using Nat.strongRecOn with
              | ind k9 ih209 =>
                intro r v m1 m2 hk9 H locs ls hP hD hS hl
                refine lv_iload hx hb d_M_retain_209 (lv_at hl 0 rfl) ?_
                refine lv_aload_n hx hb d_M_retain_211 rfl (lv_at hl 5 rfl) ?_
                refine gF (v := .int (nI z.points)) hx hb hown hE hK hP 0 rfl rfl layM 23 (by decide) w420 rfl d_M_retain_212 ?_
                refine lv_icmp_ge hx hb d_M_retain_215 (tgt := 265) rfl (fun g15 => ?_) (fun g15 => ?_)
                · have g15 := (nI_leI (a := z.points) (b := r) (by omega) (by omega)).mp g15
                  exact J265 v (by rw [← show r = z.points by omega]; exact m2) H _ ls hP hD hS (lv_sub hl [1, 2, 3, 4, 5] rfl)
                · have g15 := mt (nI_leI (a := z.points) (b := r) (by omega) (by omega)).mpr g15
                  refine lv_iload hx hb d_M_retain_218 (lv_at hl 1 rfl) ?_
                  refine lv_if_eq hx hb d_M_retain_220 (tgt := 256) rfl (fun g16 => ?_) (fun g16 => ?_)
                  · have g16 := bI_0 g16
                    refine lv_iconst (v := 0) hx hb d_M_retain_256 (by decide) ?_
                    refine lv_istore hx hb d_M_retain_257 hl (by decide) rfl (fun ls hl => ?_)
                    have hl : lv_has ls 7 [(5, .int 0), (6, .int (nI r)), (4, .int (nI k - 1)), (3, .int (nI n)), (1, .long t), (0, .ref h)] := hl
                    refine lv_iinc (k := 1) (v := nI (r + 1)) hx hb d_M_retain_259 hl rfl (iincN (r) 1 1 (by decide)) (by decide) rfl (fun ls hl => ?_)
                    have hl : lv_has ls 7 [(6, .int (nI (r + 1))), (5, .int 0), (4, .int (nI k - 1)), (3, .int (nI n)), (1, .long t), (0, .ref h)] := hl
                    refine lv_goto hx hb d_M_retain_262 (tgt := 209) rfl ?_
                    exact ih209 _ (by omega) (r + 1) false (by omega) (by rw [allB_s, m2, g16]; rfl) rfl H _ ls hP hD hS (lv_sub hl [0, 1, 2, 3, 4, 5] rfl)
                  · have g16 := bI_n0 g16
                    refine lv_aload_n hx hb d_M_retain_223 rfl (lv_at hl 5 rfl) ?_
                    refine gF (v := .ref (ad 20)) hx hb hown hE hK hP 0 rfl rfl layM 20 (by decide) w506 rfl d_M_retain_224 ?_
                    refine lv_iload hx hb d_M_retain_227 (lv_at hl 0 rfl) ?_
                    refine nild (f := z.places) hx hb hK hP 9 1 rfl rfl (r) (by omega) (by decide) d_M_retain_229 ?_
                    refine lv_aload_n hx hb d_M_retain_230 rfl (lv_at hl 5 rfl) ?_
                    refine gF (v := .ref (ad 26)) hx hb hown hE hK hP 0 rfl rfl layM 26 (by decide) w509 rfl d_M_retain_231 ?_
                    refine lv_iload hx hb d_M_retain_234 (lv_at hl 2 rfl) ?_
                    refine tpi (y := nI (k - 1)) (nI_m1 z0) ?_
                    refine nild (f := (fun z9 => nI (z.parcels z9))) hx hb hK hP 12 1 rfl rfl (k - 1) (by omega) (by decide) d_M_retain_236 ?_
                    refine lv_icmp_ne hx hb d_M_retain_237 (tgt := 252) rfl (fun g17 => ?_) (fun g17 => ?_)
                    · have g17 := g17
                      refine lv_iconst (v := 1) hx hb d_M_retain_252 (by decide) ?_
                      refine lv_goto hx hb d_M_retain_253 (tgt := 257) rfl ?_
                      refine lv_istore hx hb d_M_retain_257 hl (by decide) rfl (fun ls hl => ?_)
                      have hl : lv_has ls 7 [(5, .int 1), (6, .int (nI r)), (4, .int (nI k - 1)), (3, .int (nI n)), (1, .long t), (0, .ref h)] := hl
                      refine lv_iinc (k := 1) (v := nI (r + 1)) hx hb d_M_retain_259 hl rfl (iincN (r) 1 1 (by decide)) (by decide) rfl (fun ls hl => ?_)
                      have hl : lv_has ls 7 [(6, .int (nI (r + 1))), (5, .int 1), (4, .int (nI k - 1)), (3, .int (nI n)), (1, .long t), (0, .ref h)] := hl
                      refine lv_goto hx hb d_M_retain_262 (tgt := 209) rfl ?_
                      exact ih209 _ (by omega) (r + 1) true (by omega) (by rw [allB_s, m2, g16]; show (true && (!decide _ || !decide _)) = true; rw [decide_eq_false g17]; rfl) rfl H _ ls hP hD hS (lv_sub hl [0, 1, 2, 3, 4, 5] rfl)
                    · have g17 := g17
                      refine lv_aload_n hx hb d_M_retain_240 rfl (lv_at hl 5 rfl) ?_
                      refine gF (v := .ref (ad 18)) hx hb hown hE hK hP 0 rfl rfl layM 18 (by decide) w504 rfl d_M_retain_241 ?_
                      refine lv_iload hx hb d_M_retain_244 (lv_at hl 0 rfl) ?_
                      refine nlld (f := z.pointTimes) hx hb hK hP 7 2 rfl rfl (r) (by omega) (by decide) d_M_retain_246 ?_
                      refine lv_lload_n hx hb d_M_retain_247 rfl (lv_at hl 4 rfl) ?_
                      refine W.lcmp hx hb d_M_retain_248 ?_
                      refine lv_if_ge hx hb d_M_retain_249 (tgt := 256) rfl (fun g18 => ?_) (fun g18 => ?_)
                      · have g18 := (lg_cmp_ge _ _).mp g18
                        refine lv_iconst (v := 0) hx hb d_M_retain_256 (by decide) ?_
                        refine lv_istore hx hb d_M_retain_257 hl (by decide) rfl (fun ls hl => ?_)
                        have hl : lv_has ls 7 [(5, .int 0), (6, .int (nI r)), (4, .int (nI k - 1)), (3, .int (nI n)), (1, .long t), (0, .ref h)] := hl
                        refine lv_iinc (k := 1) (v := nI (r + 1)) hx hb d_M_retain_259 hl rfl (iincN (r) 1 1 (by decide)) (by decide) rfl (fun ls hl => ?_)
                        have hl : lv_has ls 7 [(6, .int (nI (r + 1))), (5, .int 0), (4, .int (nI k - 1)), (3, .int (nI n)), (1, .long t), (0, .ref h)] := hl
                        refine lv_goto hx hb d_M_retain_262 (tgt := 209) rfl ?_
                        exact ih209 _ (by omega) (r + 1) false (by omega) (by rw [allB_s, m2, g16]; show (true && (!decide _ || !decide _)) = false; rw [decide_eq_true g17, decide_eq_true g18]; rfl) rfl H _ ls hP hD hS (lv_sub hl [0, 1, 2, 3, 4, 5] rfl)
                      · have g18 := mt (lg_cmp_ge _ _).mpr g18
                        refine lv_iconst (v := 1) hx hb d_M_retain_252 (by decide) ?_
                        refine lv_goto hx hb d_M_retain_253 (tgt := 257) rfl ?_
                        refine lv_istore hx hb d_M_retain_257 hl (by decide) rfl (fun ls hl => ?_)
                        have hl : lv_has ls 7 [(5, .int 1), (6, .int (nI r)), (4, .int (nI k - 1)), (3, .int (nI n)), (1, .long t), (0, .ref h)] := hl
                        refine lv_iinc (k := 1) (v := nI (r + 1)) hx hb d_M_retain_259 hl rfl (iincN (r) 1 1 (by decide)) (by decide) rfl (fun ls hl => ?_)
                        have hl : lv_has ls 7 [(6, .int (nI (r + 1))), (5, .int 1), (4, .int (nI k - 1)), (3, .int (nI n)), (1, .long t), (0, .ref h)] := hl
                        refine lv_goto hx hb d_M_retain_262 (tgt := 209) rfl ?_
                        exact ih209 _ (by omega) (r + 1) true (by omega) (by rw [allB_s, m2, g16]; show (true && (!decide _ || !decide _)) = true; rw [decide_eq_true g17, decide_eq_false g18]; rfl) rfl H _ ls hP hD hS (lv_sub hl [0, 1, 2, 3, 4, 5] rfl)
            exact L209 _ 0 true (Nat.zero_le _) rfl rfl H _ ls hP hD hS (lv_sub hl [0, 1, 2, 3, 4, 5] rfl)
      exact L198 _ y.parcelCount 0 y (by omega) rfl y1 (by omega) (by omega) rfl H _ ls hP hD hS (lv_sub hl [0, 1, 2, 3] rfl)
    refine lv_aload_n hx hb d_M_retain_125 rfl (lv_at hl 2 rfl) ?_
    refine lv_lload_n hx hb d_M_retain_126 rfl (lv_at hl 1 rfl) ?_
    refine pF (v := .long t) hx hb hown hE hK hP hD hS 0 rfl rfl layM tyM tokM nmM 24 (by decide) w421 rfl rfl rfl (Nat.le_of_ble_eq_true rfl) d_M_retain_127 (fun H locs hP hD hS => ?_)
    have hP : va_P D vwCl (MW dA h ad (MS.s_fresh (MS.s_kept (MS.s_horizon (MS.s_written (MS.s_cutLeft (MS.s_cod x 0) (cutF x.syCut)) (x.syWr + 1)) t) x.records) false)) H := hP
    have hD : va_D A (MW dA h ad (MS.s_fresh (MS.s_kept (MS.s_horizon (MS.s_written (MS.s_cutLeft (MS.s_cod x 0) (cutF x.syCut)) (x.syWr + 1)) t) x.records) false)) := hD
    refine lv_iconst (v := 0) hx hb d_M_retain_130 (by decide) ?_
    refine lv_istore hx hb d_M_retain_131 hl (by decide) rfl (fun ls hl => ?_)
    have hl : lv_has ls 7 [(4, .int 0), (3, .int (nI n)), (1, .long t), (0, .ref h)] := hl
    have L133 : ∀ (k9 : Nat) (q : Nat) (i1 : q ≤ x.points) (hk9 : x.points - q = k9), ∀ (H : Heap) (locs : List Loc) (ls : Array Slot) (hP : va_P D vwCl (MW dA h ad (MS.s_fresh (MS.s_kept (MS.s_horizon (MS.s_places (MS.s_written (MS.s_cutLeft (MS.s_cod x 0) (cutF x.syCut)) (x.syWr + 1)) (mapT q (x.rtH t) m2F x.places)) t) x.records) false)) H) (hD : va_D A (MW dA h ad (MS.s_fresh (MS.s_kept (MS.s_horizon (MS.s_places (MS.s_written (MS.s_cutLeft (MS.s_cod x 0) (cutF x.syCut)) (x.syWr + 1)) (mapT q (x.rtH t) m2F x.places)) t) x.records) false))) (hS : va_S A s.heap H locs) (hl : lv_has ls 7 [(4, .int (nI q)), (3, .int (nI n)), (1, .long t), (0, .ref h)]), W p l e ({ frames := 3, cells := 0, slots := 0, locals := 40 } : Room) s m ([.ref h, .long t] : List Value).toArray below meth c H locs 0 0 (MQ below (va_Qi (fun (r9 : Int32) (u9 : MS) => r9 = nI (cnt x.points (x.rtC t)) ∧ u9 = x.rtS t) (fun (u9 : MS) t9 => bW D A (MW dA h ad u9) t9) A) ([.ref h, .long t] : List Value).toArray s 0 0 A) (F0 m 133 ls []) := by
      intro k9
      induction k9 using Nat.strongRecOn with
      | ind k9 ih133 =>
        intro q i1 hk9 H locs ls hP hD hS hl
        refine lv_iload hx hb d_M_retain_133 (lv_at hl 0 rfl) ?_
        refine lv_aload_n hx hb d_M_retain_135 rfl (lv_at hl 3 rfl) ?_
        refine gF (v := .int (nI x.points)) hx hb hown hE hK hP 0 rfl rfl layM 23 (by decide) w420 rfl d_M_retain_136 ?_
        refine lv_icmp_ge hx hb d_M_retain_139 (tgt := 190) rfl (fun g19 => ?_) (fun g19 => ?_)
        · have g19 := (nI_leI (a := x.points) (b := q) (by omega) (by omega)).mp g19
          exact J190 (MS.s_fresh (MS.s_kept (MS.s_horizon (MS.s_places (MS.s_written (MS.s_cutLeft (MS.s_cod x 0) (cutF x.syCut)) (x.syWr + 1)) (mapT q (x.rtH t) m2F x.places)) t) x.records) false) (by rw [show q = x.points by omega]; rfl) rfl rfl H _ ls hP hD hS (lv_sub hl [1, 2, 3] rfl)
        · have g19 := mt (nI_leI (a := x.points) (b := q) (by omega) (by omega)).mpr g19
          refine lv_aload_n hx hb d_M_retain_142 rfl (lv_at hl 3 rfl) ?_
          refine gF (v := .ref (ad 20)) hx hb hown hE hK hP 0 rfl rfl layM 20 (by decide) w506 rfl d_M_retain_143 ?_
          refine lv_iload hx hb d_M_retain_146 (lv_at hl 0 rfl) ?_
          refine lv_aload_n hx hb d_M_retain_148 rfl (lv_at hl 3 rfl) ?_
          refine gF (v := .ref (ad 20)) hx hb hown hE hK hP 0 rfl rfl layM 20 (by decide) w506 rfl d_M_retain_149 ?_
          refine lv_iload hx hb d_M_retain_152 (lv_at hl 0 rfl) ?_
          refine nild (f := (mapT q (x.rtH t) m2F x.places)) hx hb hK hP 9 1 rfl rfl (q) (by omega) (by decide) d_M_retain_154 ?_
          refine tpi (y := (x.places q)) (mapT_at _ _ _ (Nat.le_refl q)) ?_
          refine lv_iconst (v := (-1)) hx hb d_M_retain_155 (by decide) ?_
          refine lv_icmp_ne hx hb d_M_retain_156 (tgt := 176) rfl (fun g20 => ?_) (fun g20 => ?_)
          · have g20 := g20
            refine lv_aload_n hx hb d_M_retain_176 rfl (lv_at hl 3 rfl) ?_
            refine gF (v := .ref (ad 20)) hx hb hown hE hK hP 0 rfl rfl layM 20 (by decide) w506 rfl d_M_retain_177 ?_
            refine lv_iload hx hb d_M_retain_180 (lv_at hl 0 rfl) ?_
            refine nild (f := (mapT q (x.rtH t) m2F x.places)) hx hb hK hP 9 1 rfl rfl (q) (by omega) (by decide) d_M_retain_182 ?_
            refine tpi (y := (x.places q)) (mapT_at _ _ _ (Nat.le_refl q)) ?_
            refine nist hx hb hK hP hD hS 9 1 rfl rfl (q) (by omega) (by decide) d_M_retain_183 (fun H locs hP hD hS => ?_)
            have hP : va_P D vwCl (MW dA h ad (MS.s_fresh (MS.s_kept (MS.s_horizon (MS.s_places (MS.s_written (MS.s_cutLeft (MS.s_cod x 0) (cutF x.syCut)) (x.syWr + 1)) (va_up (mapT q (x.rtH t) m2F x.places) q (x.places q))) t) x.records) false)) H := hP
            have hD : va_D A (MW dA h ad (MS.s_fresh (MS.s_kept (MS.s_horizon (MS.s_places (MS.s_written (MS.s_cutLeft (MS.s_cod x 0) (cutF x.syCut)) (x.syWr + 1)) (va_up (mapT q (x.rtH t) m2F x.places) q (x.places q))) t) x.records) false)) := hD
            refine lv_iinc (k := 0) (v := nI (q + 1)) hx hb d_M_retain_184 hl rfl (iincN (q) 1 1 (by decide)) (by decide) rfl (fun ls hl => ?_)
            have hl : lv_has ls 7 [(4, .int (nI (q + 1))), (3, .int (nI n)), (1, .long t), (0, .ref h)] := hl
            refine lv_goto hx hb d_M_retain_187 (tgt := 133) rfl ?_
            have e9 : (MS.s_fresh (MS.s_kept (MS.s_horizon (MS.s_places (MS.s_written (MS.s_cutLeft (MS.s_cod x 0) (cutF x.syCut)) (x.syWr + 1)) (va_up (mapT q (x.rtH t) m2F x.places) q (x.places q))) t) x.records) false : MS) = MS.s_fresh (MS.s_kept (MS.s_horizon (MS.s_places (MS.s_written (MS.s_cutLeft (MS.s_cod x 0) (cutF x.syCut)) (x.syWr + 1)) (mapT (q + 1) (x.rtH t) m2F x.places)) t) x.records) false := by rw [show (mapT (q + 1) (x.rtH t) m2F x.places) = (va_up (mapT q (x.rtH t) m2F x.places) q (x.places q)) from (mapT_u (by simp [MS.rtH, *]) rfl)] <;> rfl
            exact ih133 _ (by omega) (q + 1) (by omega) rfl H _ ls (cvP e9 hP) (cvD e9 hD) hS (lv_sub hl [0, 1, 2, 3] rfl)
          · have g20 := g20
            refine lv_aload_n hx hb d_M_retain_159 rfl (lv_at hl 3 rfl) ?_
            refine gF (v := .ref (ad 18)) hx hb hown hE hK hP 0 rfl rfl layM 18 (by decide) w504 rfl d_M_retain_160 ?_
            refine lv_iload hx hb d_M_retain_163 (lv_at hl 0 rfl) ?_
            refine nlld (f := x.pointTimes) hx hb hK hP 7 2 rfl rfl (q) (by omega) (by decide) d_M_retain_165 ?_
            refine lv_lload_n hx hb d_M_retain_166 rfl (lv_at hl 2 rfl) ?_
            refine W.lcmp hx hb d_M_retain_167 ?_
            refine lv_if_ge hx hb d_M_retain_168 (tgt := 176) rfl (fun g21 => ?_) (fun g21 => ?_)
            · have g21 := (lg_cmp_ge _ _).mp g21
              refine lv_aload_n hx hb d_M_retain_176 rfl (lv_at hl 3 rfl) ?_
              refine gF (v := .ref (ad 20)) hx hb hown hE hK hP 0 rfl rfl layM 20 (by decide) w506 rfl d_M_retain_177 ?_
              refine lv_iload hx hb d_M_retain_180 (lv_at hl 0 rfl) ?_
              refine nild (f := (mapT q (x.rtH t) m2F x.places)) hx hb hK hP 9 1 rfl rfl (q) (by omega) (by decide) d_M_retain_182 ?_
              refine tpi (y := (x.places q)) (mapT_at _ _ _ (Nat.le_refl q)) ?_
              refine nist hx hb hK hP hD hS 9 1 rfl rfl (q) (by omega) (by decide) d_M_retain_183 (fun H locs hP hD hS => ?_)
              have hP : va_P D vwCl (MW dA h ad (MS.s_fresh (MS.s_kept (MS.s_horizon (MS.s_places (MS.s_written (MS.s_cutLeft (MS.s_cod x 0) (cutF x.syCut)) (x.syWr + 1)) (va_up (mapT q (x.rtH t) m2F x.places) q (x.places q))) t) x.records) false)) H := hP
              have hD : va_D A (MW dA h ad (MS.s_fresh (MS.s_kept (MS.s_horizon (MS.s_places (MS.s_written (MS.s_cutLeft (MS.s_cod x 0) (cutF x.syCut)) (x.syWr + 1)) (va_up (mapT q (x.rtH t) m2F x.places) q (x.places q))) t) x.records) false)) := hD
              refine lv_iinc (k := 0) (v := nI (q + 1)) hx hb d_M_retain_184 hl rfl (iincN (q) 1 1 (by decide)) (by decide) rfl (fun ls hl => ?_)
              have hl : lv_has ls 7 [(4, .int (nI (q + 1))), (3, .int (nI n)), (1, .long t), (0, .ref h)] := hl
              refine lv_goto hx hb d_M_retain_187 (tgt := 133) rfl ?_
              have e9 : (MS.s_fresh (MS.s_kept (MS.s_horizon (MS.s_places (MS.s_written (MS.s_cutLeft (MS.s_cod x 0) (cutF x.syCut)) (x.syWr + 1)) (va_up (mapT q (x.rtH t) m2F x.places) q (x.places q))) t) x.records) false : MS) = MS.s_fresh (MS.s_kept (MS.s_horizon (MS.s_places (MS.s_written (MS.s_cutLeft (MS.s_cod x 0) (cutF x.syCut)) (x.syWr + 1)) (mapT (q + 1) (x.rtH t) m2F x.places)) t) x.records) false := by rw [show (mapT (q + 1) (x.rtH t) m2F x.places) = (va_up (mapT q (x.rtH t) m2F x.places) q (x.places q)) from (mapT_u (by simp [MS.rtH, *]) rfl)] <;> rfl
              exact ih133 _ (by omega) (q + 1) (by omega) rfl H _ ls (cvP e9 hP) (cvD e9 hD) hS (lv_sub hl [0, 1, 2, 3] rfl)
            · have g21 := mt (lg_cmp_ge _ _).mpr g21
              refine lv_bipush (v := (-2)) hx hb d_M_retain_171 (by decide) ?_
              refine lv_goto hx hb d_M_retain_173 (tgt := 183) rfl ?_
              refine nist hx hb hK hP hD hS 9 1 rfl rfl (q) (by omega) (by decide) d_M_retain_183 (fun H locs hP hD hS => ?_)
              have hP : va_P D vwCl (MW dA h ad (MS.s_fresh (MS.s_kept (MS.s_horizon (MS.s_places (MS.s_written (MS.s_cutLeft (MS.s_cod x 0) (cutF x.syCut)) (x.syWr + 1)) (va_up (mapT q (x.rtH t) m2F x.places) q (-2))) t) x.records) false)) H := hP
              have hD : va_D A (MW dA h ad (MS.s_fresh (MS.s_kept (MS.s_horizon (MS.s_places (MS.s_written (MS.s_cutLeft (MS.s_cod x 0) (cutF x.syCut)) (x.syWr + 1)) (va_up (mapT q (x.rtH t) m2F x.places) q (-2))) t) x.records) false)) := hD
              refine lv_iinc (k := 0) (v := nI (q + 1)) hx hb d_M_retain_184 hl rfl (iincN (q) 1 1 (by decide)) (by decide) rfl (fun ls hl => ?_)
              have hl : lv_has ls 7 [(4, .int (nI (q + 1))), (3, .int (nI n)), (1, .long t), (0, .ref h)] := hl
              refine lv_goto hx hb d_M_retain_187 (tgt := 133) rfl ?_
              have e9 : (MS.s_fresh (MS.s_kept (MS.s_horizon (MS.s_places (MS.s_written (MS.s_cutLeft (MS.s_cod x 0) (cutF x.syCut)) (x.syWr + 1)) (va_up (mapT q (x.rtH t) m2F x.places) q (-2))) t) x.records) false : MS) = MS.s_fresh (MS.s_kept (MS.s_horizon (MS.s_places (MS.s_written (MS.s_cutLeft (MS.s_cod x 0) (cutF x.syCut)) (x.syWr + 1)) (mapT (q + 1) (x.rtH t) m2F x.places)) t) x.records) false := by rw [show (mapT (q + 1) (x.rtH t) m2F x.places) = (va_up (mapT q (x.rtH t) m2F x.places) q (-2)) from (mapT_t (by simp [MS.rtH, *]) rfl)] <;> rfl
              exact ih133 _ (by omega) (q + 1) (by omega) rfl H _ ls (cvP e9 hP) (cvD e9 hD) hS (lv_sub hl [0, 1, 2, 3] rfl)
    have e9 : (MS.s_fresh (MS.s_kept (MS.s_horizon (MS.s_written (MS.s_cutLeft (MS.s_cod x 0) (cutF x.syCut)) (x.syWr + 1)) t) x.records) false : MS) = MS.s_fresh (MS.s_kept (MS.s_horizon (MS.s_places (MS.s_written (MS.s_cutLeft (MS.s_cod x 0) (cutF x.syCut)) (x.syWr + 1)) (mapT 0 (x.rtH t) m2F x.places)) t) x.records) false := by rw [show (mapT 0 (x.rtH t) m2F x.places) = x.places from (mapT_0 _ _ _)] <;> rfl
    exact L133 _ 0 (Nat.zero_le _) rfl H _ ls (cvP e9 hP) (cvD e9 hD) hS (lv_sub hl [0, 1, 2, 3] rfl)
  refine lv_iconst (v := 0) hx hb d_M_retain_76 (by decide) ?_
  refine lv_istore_n hx hb d_M_retain_77 rfl hl (by decide) rfl (fun ls hl => ?_)
  have hl : lv_has ls 7 [(3, .int 0), (0, .ref h), (1, .long t)] := hl
  refine lv_iconst (v := 0) hx hb d_M_retain_78 (by decide) ?_
  refine lv_istore hx hb d_M_retain_79 hl (by decide) rfl (fun ls hl => ?_)
  have hl : lv_has ls 7 [(4, .int 0), (3, .int 0), (0, .ref h), (1, .long t)] := hl
  have L81 : ∀ (k9 : Nat) (q : Nat) (n : Nat) (i1 : q ≤ x.points) (i2 : n = cnt q (x.rtC t)) (hk9 : x.points - q = k9), ∀ (H : Heap) (locs : List Loc) (ls : Array Slot) (hP : va_P D vwCl (MW dA h ad (MS.s_fresh (MS.s_kept (MS.s_written (MS.s_cutLeft (MS.s_cod x 0) (cutF x.syCut)) (x.syWr + 1)) x.records) false)) H) (hD : va_D A (MW dA h ad (MS.s_fresh (MS.s_kept (MS.s_written (MS.s_cutLeft (MS.s_cod x 0) (cutF x.syCut)) (x.syWr + 1)) x.records) false))) (hS : va_S A s.heap H locs) (hl : lv_has ls 7 [(4, .int (nI q)), (3, .int (nI n)), (1, .long t), (0, .ref h)]), W p l e ({ frames := 3, cells := 0, slots := 0, locals := 40 } : Room) s m ([.ref h, .long t] : List Value).toArray below meth c H locs 0 0 (MQ below (va_Qi (fun (r9 : Int32) (u9 : MS) => r9 = nI (cnt x.points (x.rtC t)) ∧ u9 = x.rtS t) (fun (u9 : MS) t9 => bW D A (MW dA h ad u9) t9) A) ([.ref h, .long t] : List Value).toArray s 0 0 A) (F0 m 81 ls []) := by
    intro k9
    induction k9 using Nat.strongRecOn with
    | ind k9 ih81 =>
      intro q n i1 i2 hk9 H locs ls hP hD hS hl
      refine lv_iload hx hb d_M_retain_81 (lv_at hl 0 rfl) ?_
      refine lv_aload_n hx hb d_M_retain_83 rfl (lv_at hl 3 rfl) ?_
      refine gF (v := .int (nI x.points)) hx hb hown hE hK hP 0 rfl rfl layM 23 (by decide) w420 rfl d_M_retain_84 ?_
      refine lv_icmp_ge hx hb d_M_retain_87 (tgt := 125) rfl (fun g22 => ?_) (fun g22 => ?_)
      · have g22 := (nI_leI (a := x.points) (b := q) (by omega) (by omega)).mp g22
        exact J125 n (by rw [i2, show q = x.points by omega]) H _ ls hP hD hS (lv_sub hl [1, 2, 3] rfl)
      · have g22 := mt (nI_leI (a := x.points) (b := q) (by omega) (by omega)).mpr g22
        refine lv_iload_n hx hb d_M_retain_90 rfl (lv_at hl 1 rfl) ?_
        refine lv_aload_n hx hb d_M_retain_91 rfl (lv_at hl 3 rfl) ?_
        refine lv_iload hx hb d_M_retain_92 (lv_at hl 0 rfl) ?_
        refine jfI (rnV (As := [.int (nI q)]) (rest := [.int (nI n)]) hx hb hml hown hE hK (hN _ _ hS) hP hD (k_isSeen l D dA H.size h ad (MS.s_fresh (MS.s_kept (MS.s_written (MS.s_cutLeft (MS.s_cod x 0) (cutF x.syCut)) (x.syWr + 1)) x.records) false) q (show q < 12000 from by omega)) (q0 := 0) rfl rfl w861 w860 w862 w863 w328 rfl rfl ⟨⟨by decide, by decide⟩, rfl⟩ ⟨(Nat.le_of_ble_eq_true rfl), (Nat.le_of_ble_eq_true rfl)⟩ rfl hl.1 rfl (Nat.le_of_ble_eq_true rfl) d_M_retain_94 ⟨(Nat.le_of_ble_eq_true rfl), (Nat.le_of_ble_eq_true rfl)⟩) hP hD hS hA (fun r23 u24 H locs hp9 hP hD hS => ?_)
        have hP : va_P D vwCl (MW dA h ad (MS.s_fresh (MS.s_kept (MS.s_written (MS.s_cutLeft (MS.s_cod x 0) (cutF x.syCut)) (x.syWr + 1)) x.records) false)) H := hP
        have hD : va_D A (MW dA h ad (MS.s_fresh (MS.s_kept (MS.s_written (MS.s_cutLeft (MS.s_cod x 0) (cutF x.syCut)) (x.syWr + 1)) x.records) false)) := hD
        replace hp9 : bI (x.seen q) = r23 := Eq.symm hp9
        subst hp9
        refine lv_if_eq hx hb d_M_retain_97 (tgt := 116) rfl (fun g25 => ?_) (fun g25 => ?_)
        · have g25 := bI_0 g25
          refine lv_iconst (v := 0) hx hb d_M_retain_116 (by decide) ?_
          refine lv_iadd hx hb d_M_retain_117 (tpi (y := nI (n)) (nI_add (n) (0)) ?_)
          refine lv_istore_n hx hb d_M_retain_118 rfl hl (by decide) rfl (fun ls hl => ?_)
          have hl : lv_has ls 7 [(3, .int (nI (n))), (4, .int (nI q)), (1, .long t), (0, .ref h)] := hl
          refine lv_iinc (k := 1) (v := nI (q + 1)) hx hb d_M_retain_119 hl rfl (iincN (q) 1 1 (by decide)) (by decide) rfl (fun ls hl => ?_)
          have hl : lv_has ls 7 [(4, .int (nI (q + 1))), (3, .int (nI (n))), (1, .long t), (0, .ref h)] := hl
          refine lv_goto hx hb d_M_retain_122 (tgt := 81) rfl ?_
          exact ih81 _ (by omega) (q + 1) n (by omega) (by simp [cnt, MS.rtC, *]) rfl H _ ls hP hD hS (lv_sub hl [0, 1, 2, 3] rfl)
        · have g25 := bI_n0 g25
          refine lv_aload_n hx hb d_M_retain_100 rfl (lv_at hl 3 rfl) ?_
          refine gF (v := .ref (ad 18)) hx hb hown hE hK hP 0 rfl rfl layM 18 (by decide) w504 rfl d_M_retain_101 ?_
          refine lv_iload hx hb d_M_retain_104 (lv_at hl 0 rfl) ?_
          refine nlld (f := x.pointTimes) hx hb hK hP 7 2 rfl rfl (q) (by omega) (by decide) d_M_retain_106 ?_
          refine lv_lload_n hx hb d_M_retain_107 rfl (lv_at hl 2 rfl) ?_
          refine W.lcmp hx hb d_M_retain_108 ?_
          refine lv_if_ge hx hb d_M_retain_109 (tgt := 116) rfl (fun g26 => ?_) (fun g26 => ?_)
          · have g26 := (lg_cmp_ge _ _).mp g26
            refine lv_iconst (v := 0) hx hb d_M_retain_116 (by decide) ?_
            refine lv_iadd hx hb d_M_retain_117 (tpi (y := nI (n)) (nI_add (n) (0)) ?_)
            refine lv_istore_n hx hb d_M_retain_118 rfl hl (by decide) rfl (fun ls hl => ?_)
            have hl : lv_has ls 7 [(3, .int (nI (n))), (4, .int (nI q)), (1, .long t), (0, .ref h)] := hl
            refine lv_iinc (k := 1) (v := nI (q + 1)) hx hb d_M_retain_119 hl rfl (iincN (q) 1 1 (by decide)) (by decide) rfl (fun ls hl => ?_)
            have hl : lv_has ls 7 [(4, .int (nI (q + 1))), (3, .int (nI (n))), (1, .long t), (0, .ref h)] := hl
            refine lv_goto hx hb d_M_retain_122 (tgt := 81) rfl ?_
            exact ih81 _ (by omega) (q + 1) n (by omega) (by simp [cnt, MS.rtC, *]) rfl H _ ls hP hD hS (lv_sub hl [0, 1, 2, 3] rfl)
          · have g26 := mt (lg_cmp_ge _ _).mpr g26
            refine lv_iconst (v := 1) hx hb d_M_retain_112 (by decide) ?_
            refine lv_goto hx hb d_M_retain_113 (tgt := 117) rfl ?_
            refine lv_iadd hx hb d_M_retain_117 (tpi (y := nI (n + 1)) (nI_add (n) (1)) ?_)
            refine lv_istore_n hx hb d_M_retain_118 rfl hl (by decide) rfl (fun ls hl => ?_)
            have hl : lv_has ls 7 [(3, .int (nI (n + 1))), (4, .int (nI q)), (1, .long t), (0, .ref h)] := hl
            refine lv_iinc (k := 1) (v := nI (q + 1)) hx hb d_M_retain_119 hl rfl (iincN (q) 1 1 (by decide)) (by decide) rfl (fun ls hl => ?_)
            have hl : lv_has ls 7 [(4, .int (nI (q + 1))), (3, .int (nI (n + 1))), (1, .long t), (0, .ref h)] := hl
            refine lv_goto hx hb d_M_retain_122 (tgt := 81) rfl ?_
            exact ih81 _ (by omega) (q + 1) (n + 1) (by omega) (by simp [cnt, MS.rtC, *]) rfl H _ ls hP hD hS (lv_sub hl [0, 1, 2, 3] rfl)
  exact L81 _ 0 0 (Nat.zero_le _) rfl rfl H _ ls hP hD hS (lv_sub hl [0, 1, 3, 2] rfl)
end
section
def MS.nwS (x : MS) (q n : Nat) : MS := MS.s_lasts (MS.s_seriesCount (MS.s_textLengths x (va_up x.textLengths q n)) (q + 1)) (va_up x.lasts q (-1))
def MS.com0S (x : MS) (w : Nat) (a : Int64) : MS := MS.s_lasts x (va_up x.lasts w a)
def MS.rp0 (x : MS) (r : Nat) : MS := MS.s_used (MS.s_block x (x.recordBlocks r)) (if x.recordBlocks r = x.block then x.used + x.units r else x.units r)
theorem tdT_all {α : Type} {P : α → Prop} {c : Nat → Bool} {f : Nat → α} {n : Nat} (h : ∀ q, q < n → P (f q)) : ∀ k, k ≤ n → ∀ q, q < cnt k c → P (tdT c f k q)
  | 0, _, q, hq => absurd hq (Nat.not_lt_zero q)
  | k + 1, hk, q, hq => by
    have ih := tdT_all h (c := c) k (by omega)
    cases e : c k with
    | false =>
      rw [tdT_f e]
      rw [cnt_f e] at hq
      exact ih q hq
    | true =>
      rw [tdT_t e rfl]
      rw [cnt_t e] at hq
      show P (if q = cnt k c then f k else tdT c f k q)
      by_cases z : q = cnt k c
      · rw [if_pos z]; exact h k (by omega)
      · rw [if_neg z]; exact ih q (by omega)
theorem up_all {f : Nat → Nat} {n v : Nat} (h : ∀ q, q < n → f q < 256) (hv : v < 256) : ∀ q, q < n + 1 → va_up f n v q < 256 := by
  intro q hq
  show (if q = n then v else f q) < 256
  by_cases z : q = n
  · rw [if_pos z]; exact hv
  · rw [if_neg z]; exact h q (by omega)
/-- a kept record done again -/
def MS.rp1 (x : MS) (fN : Nat → Nat) (r : Nat) : MS :=
  if x.kinds r = 0 then (x.rp0 r).nwS (x.recordSeries r) (fN r) else if x.kinds r = 1 then (if x.firsts r < x.horizon then (x.rp0 r).com0S (x.recordSeries r) (x.firsts r) else (x.rp0 r).comS (x.recordSeries r) (x.firsts r) (x.seconds r)) else (x.rp0 r).goS (x.recordSeries r) (x.firsts r) (x.seconds r)
def MS.rpS (x : MS) (fN : Nat → Nat) : Nat → MS
  | 0 => x
  | r + 1 => (x.rpS fN r).rp1 fN r
theorem rpS_s (x : MS) (fN : Nat → Nat) (r : Nat) : x.rpS fN (r + 1) = (x.rpS fN r).rp1 fN r := rfl
def MS.st1 (x : MS) : MS := MS.s_horizon (MS.s_hidden (MS.s_places (MS.s_lasts (MS.s_seriesCount (MS.s_on (MS.s_cod x 0) true) x.baseSeries) (mapT x.baseSeries (fun _ => true) x.baseLasts x.lasts)) (mapT x.points x.isM1 m2F x.places)) (mapT x.points (fun _ => true) x.baseHidden x.hidden)) x.baseHorizon
def MS.st2 (x : MS) : MS := ((((x.st1.tidS).s_records x.kept).s_fresh false).s_block 0).s_used 0
theorem st2_hs {x : MS} (h : ∀ q : Nat, q < x.points → x.pointSeries q < 256) : ∀ q : Nat, q < x.st2.points → x.st2.pointSeries q < 256 := fun q hq => tdT_all (P := fun z => z < 256) h x.points (Nat.le_refl _) q hq
set_option maxHeartbeats 4000000 in
set_option maxRecDepth 100000 in
theorem k_start_1 (l : Launch) (D : va_G) (dA : Nat → ClassId) (sz : Nat) (h : Nat) (ad : Nat → Nat) (x : MS) (ho : x.on = true) : Met l ⟨"SeriesVaultModel", "start", "()I"⟩ [Cond.code ⟨"SeriesVaultModel", "start", "()I"⟩ prog_14_method_53_code 2 (some FieldType.int)] { frames := 1, cells := 0, slots := 0, locals := 0 } (pC D dA [.ref h] (MW dA h ad x) sz) (va_Qi (fun (r9 : Int32) (u9 : Unit) => r9 = 0) (fun (u9 : Unit) t9 => bW D (va_A (MW dA h ad x) sz) (MW dA h ad (MS.s_cod x 1)) t9) (va_A (MW dA h ad x) sz)) 0 0 (va_A (MW dA h ad x) sz) := by
  refine mkC (y := ⟨"SeriesVaultModel", "start", "()I"⟩) (cc := prog_14_method_53_code) (maxL := 2) (av := [.ref h]) (ws := MW dA h ad x) (sz := sz) (Qc := fun A => va_Qi (fun (r9 : Int32) (u9 : Unit) => r9 = 0) (fun (u9 : Unit) t9 => bW D A (MW dA h ad (MS.s_cod x 1)) t9) A) (by decide) (Nat.le_of_ble_eq_true rfl) ?_
  intro A p e s m below meth c ls hsz hB
  obtain ⟨hx, hb, hr, hml, hown, hin, hlk, hE, hK, hP, hD, hS, hA, hN, hl⟩ := hB
  have hown : s.vm.findClass "SeriesVaultModel" = some m.cls := hown
  have hl : lv_has ls 2 [(0, .ref h)] := hl
  obtain ⟨H, hH⟩ : ∃ z, z = s.heap := ⟨_, rfl⟩
  have hP : va_P D vwCl (MW dA h ad x) H := by rw [hH]; exact hP
  have hS : va_S A s.heap H [] := by rw [hH]; exact hS
  rw [← hH]
  refine lv_aload_n hx hb d_M_start_0 rfl (lv_at hl 0 rfl) ?_
  refine lv_aload_n hx hb d_M_start_1 rfl (lv_at hl 0 rfl) ?_
  refine gF (v := .int (bI x.on)) hx hb hown hE hK hP 0 rfl rfl layM 7 (by decide) w324 rfl d_M_start_2 ?_
  refine lv_if_eq hx hb d_M_start_5 (tgt := 12) rfl (fun h9 => absurd h9 (by rw [ho]; decide)) (fun _ => ?_)
  refine lv_iconst (v := 1) hx hb d_M_start_8 (by decide) ?_
  refine lv_goto hx hb d_M_start_9 (tgt := 13) rfl ?_
  refine pF (v := .int 1) hx hb hown hE hK hP hD hS 0 rfl rfl layM tyM tokM nmM 0 (by decide) w319 rfl rfl rfl (Nat.le_of_ble_eq_true rfl) d_M_start_13 (fun H locs hP hD hS => ?_)
  have hP : va_P D vwCl (MW dA h ad (MS.s_cod x 1)) H := hP
  have hD : va_D A (MW dA h ad (MS.s_cod x 1)) := hD
  refine lv_aload_n hx hb d_M_start_16 rfl (lv_at hl 0 rfl) ?_
  refine gF (v := .int 1) hx hb hown hE hK hP 0 rfl rfl layM 0 (by decide) w319 rfl d_M_start_17 ?_
  refine lv_if_le hx hb d_M_start_20 (tgt := 25) rfl (fun h9 => absurd h9 (by decide)) (fun _ => ?_)
  refine lv_iconst (v := 0) hx hb d_M_start_23 (by decide) ?_
  exact rfI hx hb hr hlk hS () rfl hP hD (Nat.le_of_ble_eq_true rfl) (Nat.le_of_ble_eq_true rfl) d_M_start_24
theorem d_M_start_12 : decode prog_14_method_53_code 12 = .ok (.iconst 0, 1) := by decide +kernel
theorem d_M_start_25 : decode prog_14_method_53_code 25 = .ok (.aload_n 0, 1) := by decide +kernel
theorem d_M_start_26 : decode prog_14_method_53_code 26 = .ok (.iconst 1, 1) := by decide +kernel
theorem d_M_start_27 : decode prog_14_method_53_code 27 = .ok (.putfield 21, 3) := by decide +kernel
theorem d_M_start_30 : decode prog_14_method_53_code 30 = .ok (.aload_n 0, 1) := by decide +kernel
theorem d_M_start_31 : decode prog_14_method_53_code 31 = .ok (.aload_n 0, 1) := by decide +kernel
theorem d_M_start_32 : decode prog_14_method_53_code 32 = .ok (.getfield 176, 3) := by decide +kernel
theorem d_M_start_35 : decode prog_14_method_53_code 35 = .ok (.putfield 172, 3) := by decide +kernel
theorem d_M_start_38 : decode prog_14_method_53_code 38 = .ok (.aload_n 0, 1) := by decide +kernel
theorem d_M_start_39 : decode prog_14_method_53_code 39 = .ok (.aload_n 0, 1) := by decide +kernel
theorem d_M_start_40 : decode prog_14_method_53_code 40 = .ok (.getfield 163, 3) := by decide +kernel
theorem d_M_start_43 : decode prog_14_method_53_code 43 = .ok (.putfield 160, 3) := by decide +kernel
theorem d_M_start_156 : decode prog_14_method_53_code 156 = .ok (.iconst 0, 1) := by decide +kernel
theorem d_M_start_157 : decode prog_14_method_53_code 157 = .ok (.istore_n 1, 1) := by decide +kernel
theorem d_M_start_158 : decode prog_14_method_53_code 158 = .ok (.iload_n 1, 1) := by decide +kernel
theorem d_M_start_159 : decode prog_14_method_53_code 159 = .ok (.aload_n 0, 1) := by decide +kernel
theorem d_M_start_160 : decode prog_14_method_53_code 160 = .ok (.getfield 182, 3) := by decide +kernel
theorem d_M_start_163 : decode prog_14_method_53_code 163 = .ok (.if_icmp .ge 143, 3) := by decide +kernel
theorem d_M_start_306 : decode prog_14_method_53_code 306 = .ok (.aload_n 0, 1) := by decide +kernel
theorem d_M_start_307 : decode prog_14_method_53_code 307 = .ok (.getfield 182, 3) := by decide +kernel
theorem d_M_start_310 : decode prog_14_method_53_code 310 = .ok (.ireturn, 1) := by decide +kernel
theorem d_M_start_200 : decode prog_14_method_53_code 200 = .ok (.putfield 191, 3) := by decide +kernel
theorem d_M_start_203 : decode prog_14_method_53_code 203 = .ok (.aload_n 0, 1) := by decide +kernel
theorem d_M_start_204 : decode prog_14_method_53_code 204 = .ok (.aload_n 0, 1) := by decide +kernel
theorem d_M_start_205 : decode prog_14_method_53_code 205 = .ok (.getfield 82, 3) := by decide +kernel
theorem d_M_start_208 : decode prog_14_method_53_code 208 = .ok (.iload_n 1, 1) := by decide +kernel
theorem d_M_start_209 : decode prog_14_method_53_code 209 = .ok (.iaload, 1) := by decide +kernel
theorem d_M_start_210 : decode prog_14_method_53_code 210 = .ok (.putfield 188, 3) := by decide +kernel
theorem d_M_start_213 : decode prog_14_method_53_code 213 = .ok (.aload_n 0, 1) := by decide +kernel
theorem d_M_start_214 : decode prog_14_method_53_code 214 = .ok (.getfield 67, 3) := by decide +kernel
theorem d_M_start_217 : decode prog_14_method_53_code 217 = .ok (.iload_n 1, 1) := by decide +kernel
theorem d_M_start_218 : decode prog_14_method_53_code 218 = .ok (.baload, 1) := by decide +kernel
theorem d_M_start_219 : decode prog_14_method_53_code 219 = .ok (.ifCond .ne 23, 3) := by decide +kernel
theorem d_M_start_242 : decode prog_14_method_53_code 242 = .ok (.aload_n 0, 1) := by decide +kernel
theorem d_M_start_243 : decode prog_14_method_53_code 243 = .ok (.getfield 67, 3) := by decide +kernel
theorem d_M_start_246 : decode prog_14_method_53_code 246 = .ok (.iload_n 1, 1) := by decide +kernel
theorem d_M_start_247 : decode prog_14_method_53_code 247 = .ok (.baload, 1) := by decide +kernel
theorem d_M_start_248 : decode prog_14_method_53_code 248 = .ok (.iconst 1, 1) := by decide +kernel
theorem d_M_start_249 : decode prog_14_method_53_code 249 = .ok (.if_icmp .ne 28, 3) := by decide +kernel
theorem d_M_start_277 : decode prog_14_method_53_code 277 = .ok (.aload_n 0, 1) := by decide +kernel
theorem d_M_start_278 : decode prog_14_method_53_code 278 = .ok (.aload_n 0, 1) := by decide +kernel
theorem d_M_start_279 : decode prog_14_method_53_code 279 = .ok (.getfield 70, 3) := by decide +kernel
theorem d_M_start_282 : decode prog_14_method_53_code 282 = .ok (.iload_n 1, 1) := by decide +kernel
theorem d_M_start_283 : decode prog_14_method_53_code 283 = .ok (.iaload, 1) := by decide +kernel
theorem d_M_start_284 : decode prog_14_method_53_code 284 = .ok (.aload_n 0, 1) := by decide +kernel
theorem d_M_start_285 : decode prog_14_method_53_code 285 = .ok (.getfield 73, 3) := by decide +kernel
theorem d_M_start_288 : decode prog_14_method_53_code 288 = .ok (.iload_n 1, 1) := by decide +kernel
theorem d_M_start_289 : decode prog_14_method_53_code 289 = .ok (.laload, 1) := by decide +kernel
theorem d_M_start_290 : decode prog_14_method_53_code 290 = .ok (.aload_n 0, 1) := by decide +kernel
theorem d_M_start_291 : decode prog_14_method_53_code 291 = .ok (.getfield 76, 3) := by decide +kernel
theorem d_M_start_294 : decode prog_14_method_53_code 294 = .ok (.iload_n 1, 1) := by decide +kernel
theorem d_M_start_295 : decode prog_14_method_53_code 295 = .ok (.laload, 1) := by decide +kernel
theorem d_M_start_296 : decode prog_14_method_53_code 296 = .ok (.invokevirtual 285, 3) := by decide +kernel
theorem d_M_start_299 : decode prog_14_method_53_code 299 = .ok (.pop, 1) := by decide +kernel
theorem d_M_start_300 : decode prog_14_method_53_code 300 = .ok (.iinc 1 1, 3) := by decide +kernel
theorem d_M_start_303 : decode prog_14_method_53_code 303 = .ok (.goto (-145), 3) := by decide +kernel
theorem d_M_start_252 : decode prog_14_method_53_code 252 = .ok (.aload_n 0, 1) := by decide +kernel
theorem d_M_start_253 : decode prog_14_method_53_code 253 = .ok (.aload_n 0, 1) := by decide +kernel
theorem d_M_start_254 : decode prog_14_method_53_code 254 = .ok (.getfield 70, 3) := by decide +kernel
theorem d_M_start_257 : decode prog_14_method_53_code 257 = .ok (.iload_n 1, 1) := by decide +kernel
theorem d_M_start_258 : decode prog_14_method_53_code 258 = .ok (.iaload, 1) := by decide +kernel
theorem d_M_start_259 : decode prog_14_method_53_code 259 = .ok (.aload_n 0, 1) := by decide +kernel
theorem d_M_start_260 : decode prog_14_method_53_code 260 = .ok (.getfield 73, 3) := by decide +kernel
theorem d_M_start_263 : decode prog_14_method_53_code 263 = .ok (.iload_n 1, 1) := by decide +kernel
theorem d_M_start_264 : decode prog_14_method_53_code 264 = .ok (.laload, 1) := by decide +kernel
theorem d_M_start_265 : decode prog_14_method_53_code 265 = .ok (.aload_n 0, 1) := by decide +kernel
theorem d_M_start_266 : decode prog_14_method_53_code 266 = .ok (.getfield 76, 3) := by decide +kernel
theorem d_M_start_269 : decode prog_14_method_53_code 269 = .ok (.iload_n 1, 1) := by decide +kernel
theorem d_M_start_270 : decode prog_14_method_53_code 270 = .ok (.laload, 1) := by decide +kernel
theorem d_M_start_271 : decode prog_14_method_53_code 271 = .ok (.invokevirtual 267, 3) := by decide +kernel
theorem d_M_start_274 : decode prog_14_method_53_code 274 = .ok (.goto 26, 3) := by decide +kernel
theorem d_M_start_222 : decode prog_14_method_53_code 222 = .ok (.aload_n 0, 1) := by decide +kernel
theorem d_M_start_223 : decode prog_14_method_53_code 223 = .ok (.aload_n 0, 1) := by decide +kernel
theorem d_M_start_224 : decode prog_14_method_53_code 224 = .ok (.getfield 70, 3) := by decide +kernel
theorem d_M_start_227 : decode prog_14_method_53_code 227 = .ok (.iload_n 1, 1) := by decide +kernel
theorem d_M_start_228 : decode prog_14_method_53_code 228 = .ok (.iaload, 1) := by decide +kernel
theorem d_M_start_229 : decode prog_14_method_53_code 229 = .ok (.aload_n 0, 1) := by decide +kernel
theorem d_M_start_230 : decode prog_14_method_53_code 230 = .ok (.getfield 73, 3) := by decide +kernel
theorem d_M_start_233 : decode prog_14_method_53_code 233 = .ok (.iload_n 1, 1) := by decide +kernel
theorem d_M_start_234 : decode prog_14_method_53_code 234 = .ok (.laload, 1) := by decide +kernel
theorem d_M_start_235 : decode prog_14_method_53_code 235 = .ok (.l2i, 1) := by decide +kernel
theorem d_M_start_236 : decode prog_14_method_53_code 236 = .ok (.invokevirtual 254, 3) := by decide +kernel
theorem d_M_start_239 : decode prog_14_method_53_code 239 = .ok (.goto 61, 3) := by decide +kernel
theorem d_M_start_166 : decode prog_14_method_53_code 166 = .ok (.aload_n 0, 1) := by decide +kernel
theorem d_M_start_167 : decode prog_14_method_53_code 167 = .ok (.aload_n 0, 1) := by decide +kernel
theorem d_M_start_168 : decode prog_14_method_53_code 168 = .ok (.getfield 82, 3) := by decide +kernel
theorem d_M_start_171 : decode prog_14_method_53_code 171 = .ok (.iload_n 1, 1) := by decide +kernel
theorem d_M_start_172 : decode prog_14_method_53_code 172 = .ok (.iaload, 1) := by decide +kernel
theorem d_M_start_173 : decode prog_14_method_53_code 173 = .ok (.aload_n 0, 1) := by decide +kernel
theorem d_M_start_174 : decode prog_14_method_53_code 174 = .ok (.getfield 188, 3) := by decide +kernel
theorem d_M_start_177 : decode prog_14_method_53_code 177 = .ok (.if_icmp .ne 17, 3) := by decide +kernel
theorem d_M_start_194 : decode prog_14_method_53_code 194 = .ok (.aload_n 0, 1) := by decide +kernel
theorem d_M_start_195 : decode prog_14_method_53_code 195 = .ok (.getfield 79, 3) := by decide +kernel
theorem d_M_start_198 : decode prog_14_method_53_code 198 = .ok (.iload_n 1, 1) := by decide +kernel
theorem d_M_start_199 : decode prog_14_method_53_code 199 = .ok (.iaload, 1) := by decide +kernel
theorem d_M_start_180 : decode prog_14_method_53_code 180 = .ok (.aload_n 0, 1) := by decide +kernel
theorem d_M_start_181 : decode prog_14_method_53_code 181 = .ok (.getfield 191, 3) := by decide +kernel
theorem d_M_start_184 : decode prog_14_method_53_code 184 = .ok (.aload_n 0, 1) := by decide +kernel
theorem d_M_start_185 : decode prog_14_method_53_code 185 = .ok (.getfield 79, 3) := by decide +kernel
theorem d_M_start_188 : decode prog_14_method_53_code 188 = .ok (.iload_n 1, 1) := by decide +kernel
theorem d_M_start_189 : decode prog_14_method_53_code 189 = .ok (.iaload, 1) := by decide +kernel
theorem d_M_start_190 : decode prog_14_method_53_code 190 = .ok (.iadd, 1) := by decide +kernel
theorem d_M_start_191 : decode prog_14_method_53_code 191 = .ok (.goto 9, 3) := by decide +kernel
theorem d_M_start_129 : decode prog_14_method_53_code 129 = .ok (.aload_n 0, 1) := by decide +kernel
theorem d_M_start_130 : decode prog_14_method_53_code 130 = .ok (.invokevirtual 333, 3) := by decide +kernel
theorem d_M_start_133 : decode prog_14_method_53_code 133 = .ok (.aload_n 0, 1) := by decide +kernel
theorem d_M_start_134 : decode prog_14_method_53_code 134 = .ok (.aload_n 0, 1) := by decide +kernel
theorem d_M_start_135 : decode prog_14_method_53_code 135 = .ok (.getfield 185, 3) := by decide +kernel
theorem d_M_start_138 : decode prog_14_method_53_code 138 = .ok (.putfield 182, 3) := by decide +kernel
theorem d_M_start_141 : decode prog_14_method_53_code 141 = .ok (.aload_n 0, 1) := by decide +kernel
theorem d_M_start_142 : decode prog_14_method_53_code 142 = .ok (.iconst 0, 1) := by decide +kernel
theorem d_M_start_143 : decode prog_14_method_53_code 143 = .ok (.putfield 194, 3) := by decide +kernel
theorem d_M_start_146 : decode prog_14_method_53_code 146 = .ok (.aload_n 0, 1) := by decide +kernel
theorem d_M_start_147 : decode prog_14_method_53_code 147 = .ok (.iconst 0, 1) := by decide +kernel
theorem d_M_start_148 : decode prog_14_method_53_code 148 = .ok (.putfield 188, 3) := by decide +kernel
theorem d_M_start_151 : decode prog_14_method_53_code 151 = .ok (.aload_n 0, 1) := by decide +kernel
theorem d_M_start_152 : decode prog_14_method_53_code 152 = .ok (.iconst 0, 1) := by decide +kernel
theorem d_M_start_153 : decode prog_14_method_53_code 153 = .ok (.putfield 191, 3) := by decide +kernel
theorem d_M_start_74 : decode prog_14_method_53_code 74 = .ok (.iconst 0, 1) := by decide +kernel
theorem d_M_start_75 : decode prog_14_method_53_code 75 = .ok (.istore_n 1, 1) := by decide +kernel
theorem d_M_start_76 : decode prog_14_method_53_code 76 = .ok (.iload_n 1, 1) := by decide +kernel
theorem d_M_start_77 : decode prog_14_method_53_code 77 = .ok (.aload_n 0, 1) := by decide +kernel
theorem d_M_start_78 : decode prog_14_method_53_code 78 = .ok (.getfield 169, 3) := by decide +kernel
theorem d_M_start_81 : decode prog_14_method_53_code 81 = .ok (.if_icmp .ge 48, 3) := by decide +kernel
theorem d_M_start_84 : decode prog_14_method_53_code 84 = .ok (.aload_n 0, 1) := by decide +kernel
theorem d_M_start_85 : decode prog_14_method_53_code 85 = .ok (.getfield 52, 3) := by decide +kernel
theorem d_M_start_88 : decode prog_14_method_53_code 88 = .ok (.iload_n 1, 1) := by decide +kernel
theorem d_M_start_89 : decode prog_14_method_53_code 89 = .ok (.aload_n 0, 1) := by decide +kernel
theorem d_M_start_90 : decode prog_14_method_53_code 90 = .ok (.getfield 52, 3) := by decide +kernel
theorem d_M_start_93 : decode prog_14_method_53_code 93 = .ok (.iload_n 1, 1) := by decide +kernel
theorem d_M_start_94 : decode prog_14_method_53_code 94 = .ok (.iaload, 1) := by decide +kernel
theorem d_M_start_95 : decode prog_14_method_53_code 95 = .ok (.iconst (-1), 1) := by decide +kernel
theorem d_M_start_96 : decode prog_14_method_53_code 96 = .ok (.if_icmp .ne 8, 3) := by decide +kernel
theorem d_M_start_104 : decode prog_14_method_53_code 104 = .ok (.aload_n 0, 1) := by decide +kernel
theorem d_M_start_105 : decode prog_14_method_53_code 105 = .ok (.getfield 52, 3) := by decide +kernel
theorem d_M_start_108 : decode prog_14_method_53_code 108 = .ok (.iload_n 1, 1) := by decide +kernel
theorem d_M_start_109 : decode prog_14_method_53_code 109 = .ok (.iaload, 1) := by decide +kernel
theorem d_M_start_110 : decode prog_14_method_53_code 110 = .ok (.iastore, 1) := by decide +kernel
theorem d_M_start_111 : decode prog_14_method_53_code 111 = .ok (.aload_n 0, 1) := by decide +kernel
theorem d_M_start_112 : decode prog_14_method_53_code 112 = .ok (.getfield 55, 3) := by decide +kernel
theorem d_M_start_115 : decode prog_14_method_53_code 115 = .ok (.iload_n 1, 1) := by decide +kernel
theorem d_M_start_116 : decode prog_14_method_53_code 116 = .ok (.aload_n 0, 1) := by decide +kernel
theorem d_M_start_117 : decode prog_14_method_53_code 117 = .ok (.getfield 58, 3) := by decide +kernel
theorem d_M_start_120 : decode prog_14_method_53_code 120 = .ok (.iload_n 1, 1) := by decide +kernel
theorem d_M_start_121 : decode prog_14_method_53_code 121 = .ok (.iaload, 1) := by decide +kernel
theorem d_M_start_122 : decode prog_14_method_53_code 122 = .ok (.iastore, 1) := by decide +kernel
theorem d_M_start_123 : decode prog_14_method_53_code 123 = .ok (.iinc 1 1, 3) := by decide +kernel
theorem d_M_start_126 : decode prog_14_method_53_code 126 = .ok (.goto (-50), 3) := by decide +kernel
theorem d_M_start_99 : decode prog_14_method_53_code 99 = .ok (.bipush (-2), 2) := by decide +kernel
theorem d_M_start_101 : decode prog_14_method_53_code 101 = .ok (.goto 9, 3) := by decide +kernel
theorem d_M_start_46 : decode prog_14_method_53_code 46 = .ok (.iconst 0, 1) := by decide +kernel
theorem d_M_start_47 : decode prog_14_method_53_code 47 = .ok (.istore_n 1, 1) := by decide +kernel
theorem d_M_start_48 : decode prog_14_method_53_code 48 = .ok (.iload_n 1, 1) := by decide +kernel
theorem d_M_start_49 : decode prog_14_method_53_code 49 = .ok (.aload_n 0, 1) := by decide +kernel
theorem d_M_start_50 : decode prog_14_method_53_code 50 = .ok (.getfield 160, 3) := by decide +kernel
theorem d_M_start_53 : decode prog_14_method_53_code 53 = .ok (.if_icmp .ge 21, 3) := by decide +kernel
theorem d_M_start_56 : decode prog_14_method_53_code 56 = .ok (.aload_n 0, 1) := by decide +kernel
theorem d_M_start_57 : decode prog_14_method_53_code 57 = .ok (.getfield 36, 3) := by decide +kernel
theorem d_M_start_60 : decode prog_14_method_53_code 60 = .ok (.iload_n 1, 1) := by decide +kernel
theorem d_M_start_61 : decode prog_14_method_53_code 61 = .ok (.aload_n 0, 1) := by decide +kernel
theorem d_M_start_62 : decode prog_14_method_53_code 62 = .ok (.getfield 40, 3) := by decide +kernel
theorem d_M_start_65 : decode prog_14_method_53_code 65 = .ok (.iload_n 1, 1) := by decide +kernel
theorem d_M_start_66 : decode prog_14_method_53_code 66 = .ok (.laload, 1) := by decide +kernel
theorem d_M_start_67 : decode prog_14_method_53_code 67 = .ok (.lastore, 1) := by decide +kernel
theorem d_M_start_68 : decode prog_14_method_53_code 68 = .ok (.iinc 1 1, 3) := by decide +kernel
theorem d_M_start_71 : decode prog_14_method_53_code 71 = .ok (.goto (-23), 3) := by decide +kernel
theorem w934 : Cond.methodLink "SeriesVaultModel" 254 ⟨"SeriesVaultModel", "newSeries", "(II)V"⟩ ∈ aW := aw_of (tb_10 (List.mem_of_getElem? (i := 2) rfl)) rfl
theorem w935 : Cond.code ⟨"SeriesVaultModel", "newSeries", "(II)V"⟩ prog_14_method_28_code 3 none ∈ aW := aw_of (tb_10 (List.mem_of_getElem? (i := 5) rfl)) rfl
theorem w936 : Cond.instanceMethod ⟨"SeriesVaultModel", "newSeries", "(II)V"⟩ ∈ aW := aw_of (tb_10 (List.mem_of_getElem? (i := 4) rfl)) rfl
theorem w937 : Cond.selects "SeriesVaultModel" ⟨"SeriesVaultModel", "newSeries", "(II)V"⟩ ⟨"SeriesVaultModel", "newSeries", "(II)V"⟩ ∈ aW := aw_pr (List.mem_map.mpr ⟨_, pv_5 (List.mem_of_getElem? (i := 13) rfl), rfl⟩) rfl
set_option maxHeartbeats 4000000 in
set_option maxRecDepth 100000 in
theorem k_start_0 (l : Launch) (D : va_G) (dA : Nat → ClassId) (sz : Nat) (h : Nat) (ad : Nat → Nat) (x : MS) (fN : Nat → Nat) (ho : x.on = false) (r1 : x.kept ≤ 32000) (h2 : x.baseSeries ≤ 256) (h1 : x.points + x.kept < 12000) (h3 : x.deletes + x.kept < 2 ^ 30) (hs : ∀ q : Nat, q < x.points → x.pointSeries q < 256) (hk : ∀ r : Nat, r < x.kept → x.recordSeries r < 256 ∧ x.units r ≤ 126 ∧ x.recordBlocks r < 2 ^ 20 ∧ (x.kinds r = 0 → x.firsts r = lN (fN r))) : Met l ⟨"SeriesVaultModel", "start", "()I"⟩ [Cond.code ⟨"SeriesVaultModel", "start", "()I"⟩ prog_14_method_53_code 2 (some FieldType.int)] { frames := 3, cells := 0, slots := 0, locals := 48 } (pC D dA [.ref h] (MW dA h ad x) sz) (va_Qi (fun (r9 : Int32) (u9 : MS) => r9 = nI x.kept ∧ u9 = x.st2.rpS fN x.kept) (fun (u9 : MS) t9 => bW D (va_A (MW dA h ad x) sz) (MW dA h ad u9) t9) (va_A (MW dA h ad x) sz)) 0 0 (va_A (MW dA h ad x) sz) := by
  refine mkC (y := ⟨"SeriesVaultModel", "start", "()I"⟩) (cc := prog_14_method_53_code) (maxL := 2) (av := [.ref h]) (ws := MW dA h ad x) (sz := sz) (Qc := fun A => va_Qi (fun (r9 : Int32) (u9 : MS) => r9 = nI x.kept ∧ u9 = x.st2.rpS fN x.kept) (fun (u9 : MS) t9 => bW D A (MW dA h ad u9) t9) A) (by decide) (Nat.le_of_ble_eq_true rfl) ?_
  intro A p e s m below meth c ls hsz hB
  obtain ⟨hx, hb, hr, hml, hown, hin, hlk, hE, hK, hP, hD, hS, hA, hN, hl⟩ := hB
  have hown : s.vm.findClass "SeriesVaultModel" = some m.cls := hown
  have hl : lv_has ls 2 [(0, .ref h)] := hl
  obtain ⟨H, hH⟩ : ∃ z, z = s.heap := ⟨_, rfl⟩
  have hP : va_P D vwCl (MW dA h ad x) H := by rw [hH]; exact hP
  have hS : va_S A s.heap H [] := by rw [hH]; exact hS
  rw [← hH]
  refine lv_aload_n hx hb d_M_start_0 rfl (lv_at hl 0 rfl) ?_
  refine lv_aload_n hx hb d_M_start_1 rfl (lv_at hl 0 rfl) ?_
  refine gF (v := .int (bI x.on)) hx hb hown hE hK hP 0 rfl rfl layM 7 (by decide) w324 rfl d_M_start_2 ?_
  refine lv_if_eq hx hb d_M_start_5 (tgt := 12) rfl (fun _ => ?_) (fun h9 => absurd (by rw [ho]; decide) h9)
  refine lv_iconst (v := 0) hx hb d_M_start_12 (by decide) ?_
  refine pF (v := .int 0) hx hb hown hE hK hP hD hS 0 rfl rfl layM tyM tokM nmM 0 (by decide) w319 rfl rfl rfl (Nat.le_of_ble_eq_true rfl) d_M_start_13 (fun H locs hP hD hS => ?_)
  have hP : va_P D vwCl (MW dA h ad (MS.s_cod x 0)) H := hP
  have hD : va_D A (MW dA h ad (MS.s_cod x 0)) := hD
  refine lv_aload_n hx hb d_M_start_16 rfl (lv_at hl 0 rfl) ?_
  refine gF (v := .int 0) hx hb hown hE hK hP 0 rfl rfl layM 0 (by decide) w319 rfl d_M_start_17 ?_
  refine lv_if_le hx hb d_M_start_20 (tgt := 25) rfl (fun _ => ?_) (fun h9 => absurd (by decide) h9)
  refine lv_aload_n hx hb d_M_start_25 rfl (lv_at hl 0 rfl) ?_
  refine lv_iconst (v := 1) hx hb d_M_start_26 (by decide) ?_
  refine pF (v := .int (bI true)) hx hb hown hE hK hP hD hS 0 rfl rfl layM tyM tokM nmM 7 (by decide) w324 rfl (bI_nar true) (bI_fit true) (Nat.le_of_ble_eq_true rfl) d_M_start_27 (fun H locs hP hD hS => ?_)
  have hP : va_P D vwCl (MW dA h ad (MS.s_on (MS.s_cod x 0) true)) H := hP
  have hD : va_D A (MW dA h ad (MS.s_on (MS.s_cod x 0) true)) := hD
  refine lv_aload_n hx hb d_M_start_30 rfl (lv_at hl 0 rfl) ?_
  refine lv_aload_n hx hb d_M_start_31 rfl (lv_at hl 0 rfl) ?_
  refine gF (v := .long x.baseHorizon) hx hb hown hE hK hP 0 rfl rfl layM 25 (by decide) w422 rfl d_M_start_32 ?_
  refine pF (v := .long x.baseHorizon) hx hb hown hE hK hP hD hS 0 rfl rfl layM tyM tokM nmM 24 (by decide) w421 rfl rfl rfl (Nat.le_of_ble_eq_true rfl) d_M_start_35 (fun H locs hP hD hS => ?_)
  have hP : va_P D vwCl (MW dA h ad (MS.s_horizon (MS.s_on (MS.s_cod x 0) true) x.baseHorizon)) H := hP
  have hD : va_D A (MW dA h ad (MS.s_horizon (MS.s_on (MS.s_cod x 0) true) x.baseHorizon)) := hD
  refine lv_aload_n hx hb d_M_start_38 rfl (lv_at hl 0 rfl) ?_
  refine lv_aload_n hx hb d_M_start_39 rfl (lv_at hl 0 rfl) ?_
  refine gF (v := .int (nI x.baseSeries)) hx hb hown hE hK hP 0 rfl rfl layM 14 (by decide) w418 rfl d_M_start_40 ?_
  refine pF (v := .int (nI x.baseSeries)) hx hb hown hE hK hP hD hS 0 rfl rfl layM tyM tokM nmM 12 (by decide) w332 rfl rfl rfl (Nat.le_of_ble_eq_true rfl) d_M_start_43 (fun H locs hP hD hS => ?_)
  have hP : va_P D vwCl (MW dA h ad (MS.s_horizon (MS.s_seriesCount (MS.s_on (MS.s_cod x 0) true) x.baseSeries) x.baseHorizon)) H := hP
  have hD : va_D A (MW dA h ad (MS.s_horizon (MS.s_seriesCount (MS.s_on (MS.s_cod x 0) true) x.baseSeries) x.baseHorizon)) := hD
  have J74 : ∀ (H : Heap) (locs : List Loc) (ls : Array Slot) (hP : va_P D vwCl (MW dA h ad (MS.s_horizon (MS.s_lasts (MS.s_seriesCount (MS.s_on (MS.s_cod x 0) true) x.baseSeries) (mapT x.baseSeries (fun _ => true) x.baseLasts x.lasts)) x.baseHorizon)) H) (hD : va_D A (MW dA h ad (MS.s_horizon (MS.s_lasts (MS.s_seriesCount (MS.s_on (MS.s_cod x 0) true) x.baseSeries) (mapT x.baseSeries (fun _ => true) x.baseLasts x.lasts)) x.baseHorizon))) (hS : va_S A s.heap H locs) (hl : lv_has ls 2 [(0, .ref h)]), W p l e ({ frames := 3, cells := 0, slots := 0, locals := 48 } : Room) s m ([.ref h] : List Value).toArray below meth c H locs 0 0 (MQ below (va_Qi (fun (r9 : Int32) (u9 : MS) => r9 = nI x.kept ∧ u9 = x.st2.rpS fN x.kept) (fun (u9 : MS) t9 => bW D A (MW dA h ad u9) t9) A) ([.ref h] : List Value).toArray s 0 0 A) (F0 m 74 ls []) := by
    intro  H locs ls hP hD hS hl
    have J129 : ∀ (y7 : MS) (ey7 : y7 = x.st1) (y1 : y7.points = x.points) (y2 : y7.kept = x.kept), ∀ (H : Heap) (locs : List Loc) (ls : Array Slot) (hP : va_P D vwCl (MW dA h ad y7) H) (hD : va_D A (MW dA h ad y7)) (hS : va_S A s.heap H locs) (hl : lv_has ls 2 [(0, .ref h)]), W p l e ({ frames := 3, cells := 0, slots := 0, locals := 48 } : Room) s m ([.ref h] : List Value).toArray below meth c H locs 0 0 (MQ below (va_Qi (fun (r9 : Int32) (u9 : MS) => r9 = nI x.kept ∧ u9 = x.st2.rpS fN x.kept) (fun (u9 : MS) t9 => bW D A (MW dA h ad u9) t9) A) ([.ref h] : List Value).toArray s 0 0 A) (F0 m 129 ls []) := by
      intro y7 ey7 y1 y2 H locs ls hP hD hS hl
      have J156 : ∀ (y : MS) (ey : y = x.st2), ∀ (H : Heap) (locs : List Loc) (ls : Array Slot) (hP : va_P D vwCl (MW dA h ad y) H) (hD : va_D A (MW dA h ad y)) (hS : va_S A s.heap H locs) (hl : lv_has ls 2 [(0, .ref h)]), W p l e ({ frames := 3, cells := 0, slots := 0, locals := 48 } : Room) s m ([.ref h] : List Value).toArray below meth c H locs 0 0 (MQ below (va_Qi (fun (r9 : Int32) (u9 : MS) => r9 = nI x.kept ∧ u9 = x.st2.rpS fN x.kept) (fun (u9 : MS) t9 => bW D A (MW dA h ad u9) t9) A) ([.ref h] : List Value).toArray s 0 0 A) (F0 m 156 ls []) := by
        intro y ey H locs ls hP hD hS hl
        refine lv_iconst (v := 0) hx hb d_M_start_156 (by decide) ?_
        refine lv_istore_n hx hb d_M_start_157 rfl hl (by decide) rfl (fun ls hl => ?_)
        have hl : lv_has ls 2 [(1, .int 0), (0, .ref h)] := hl
        have L158 : ∀ (k9 : Nat) (k : Nat) (z : MS) (ez : z = x.st2.rpS fN k) (k1 : k ≤ x.kept) (a1 : z.kinds = x.kinds) (a2 : z.recordSeries = x.recordSeries) (a3 : z.firsts = x.firsts) (a4 : z.seconds = x.seconds) (a5 : z.units = x.units) (a6 : z.recordBlocks = x.recordBlocks) (a7 : z.records = x.kept) (a8 : z.points ≤ x.points + k) (a9 : z.deletes ≤ x.deletes + k) (b1 : ∀ q : Nat, q < z.points → z.pointSeries q < 256) (b2 : z.used ≤ 126 * (k + 1)) (b3 : z.block < 2 ^ 20) (hk9 : x.kept - k = k9), ∀ (H : Heap) (locs : List Loc) (ls : Array Slot) (hP : va_P D vwCl (MW dA h ad z) H) (hD : va_D A (MW dA h ad z)) (hS : va_S A s.heap H locs) (hl : lv_has ls 2 [(1, .int (nI k)), (0, .ref h)]), W p l e ({ frames := 3, cells := 0, slots := 0, locals := 48 } : Room) s m ([.ref h] : List Value).toArray below meth c H locs 0 0 (MQ below (va_Qi (fun (r9 : Int32) (u9 : MS) => r9 = nI x.kept ∧ u9 = x.st2.rpS fN x.kept) (fun (u9 : MS) t9 => bW D A (MW dA h ad u9) t9) A) ([.ref h] : List Value).toArray s 0 0 A) (F0 m 158 ls []) := by
          intro k9
          induction k9 using Nat.strongRecOn with
          | ind k9 ih158 =>
            intro k z ez k1 a1 a2 a3 a4 a5 a6 a7 a8 a9 b1 b2 b3 hk9 H locs ls hP hD hS hl
            refine lv_iload_n hx hb d_M_start_158 rfl (lv_at hl 0 rfl) ?_
            refine lv_aload_n hx hb d_M_start_159 rfl (lv_at hl 1 rfl) ?_
            refine gF (v := .int (nI z.records)) hx hb hown hE hK hP 0 rfl rfl layM 37 (by decide) w338 rfl d_M_start_160 ?_
            refine lv_icmp_ge hx hb d_M_start_163 (tgt := 306) rfl (fun g1 => ?_) (fun g1 => ?_)
            · have g1 := (nI_leI (a := z.records) (b := k) (by omega) (by omega)).mp g1
              refine lv_aload_n hx hb d_M_start_306 rfl (lv_at hl 1 rfl) ?_
              refine gF (v := .int (nI z.records)) hx hb hown hE hK hP 0 rfl rfl layM 37 (by decide) w338 rfl d_M_start_307 ?_
              exact rfI hx hb hr hlk hS z ⟨by rw [a7], by rw [ez, show k = x.kept by omega]⟩ hP hD (Nat.le_of_ble_eq_true rfl) (Nat.le_of_ble_eq_true rfl) d_M_start_310
            · have g1 := mt (nI_leI (a := z.records) (b := k) (by omega) (by omega)).mpr g1
              have J200 : ∀ (v : Nat) (hv9 : (if z.recordBlocks k = z.block then z.used + z.units k else z.units k) = v) (hv8 : v ≤ 126 * (k + 2)), ∀ (H : Heap) (locs : List Loc) (ls : Array Slot) (hP : va_P D vwCl (MW dA h ad z) H) (hD : va_D A (MW dA h ad z)) (hS : va_S A s.heap H locs) (hl : lv_has ls 2 [(1, .int (nI k)), (0, .ref h)]), W p l e ({ frames := 3, cells := 0, slots := 0, locals := 48 } : Room) s m ([.ref h] : List Value).toArray below meth c H locs 0 0 (MQ below (va_Qi (fun (r9 : Int32) (u9 : MS) => r9 = nI x.kept ∧ u9 = x.st2.rpS fN x.kept) (fun (u9 : MS) t9 => bW D A (MW dA h ad u9) t9) A) ([.ref h] : List Value).toArray s 0 0 A) (F0 m 200 ls [.int (nI v), .ref h]) := by
                intro v hv9 hv8 H locs ls hP hD hS hl
                have h5 := hk k (by omega)
                rw [← a2, ← a5, ← a6, ← a1, ← a3] at h5
                have h6 := h5.1
                have h7 := h5.2.1
                have h8 := h5.2.2.1
                refine pF (v := .int (nI v)) hx hb hown hE hK hP hD hS 0 rfl rfl layM tyM tokM nmM 40 (by decide) w424 rfl rfl rfl (Nat.le_of_ble_eq_true rfl) d_M_start_200 (fun H locs hP hD hS => ?_)
                have hP : va_P D vwCl (MW dA h ad (MS.s_used z v)) H := hP
                have hD : va_D A (MW dA h ad (MS.s_used z v)) := hD
                refine lv_aload_n hx hb d_M_start_203 rfl (lv_at hl 1 rfl) ?_
                refine lv_aload_n hx hb d_M_start_204 rfl (lv_at hl 1 rfl) ?_
                refine gF (v := .ref (ad 36)) hx hb hown hE hK hP 0 rfl rfl layM 36 (by decide) w516 rfl d_M_start_205 ?_
                refine lv_iload_n hx hb d_M_start_208 rfl (lv_at hl 0 rfl) ?_
                refine nild (f := (fun z9 => nI (z.recordBlocks z9))) hx hb hK hP 19 1 rfl rfl (k) (by omega) (by decide) d_M_start_209 ?_
                refine pF (v := .int (nI (z.recordBlocks k))) hx hb hown hE hK hP hD hS 0 rfl rfl layM tyM tokM nmM 39 (by decide) w423 rfl rfl rfl (Nat.le_of_ble_eq_true rfl) d_M_start_210 (fun H locs hP hD hS => ?_)
                have hP : va_P D vwCl (MW dA h ad (MS.s_used (MS.s_block z (z.recordBlocks k)) v)) H := hP
                have hD : va_D A (MW dA h ad (MS.s_used (MS.s_block z (z.recordBlocks k)) v)) := hD
                refine lv_aload_n hx hb d_M_start_213 rfl (lv_at hl 1 rfl) ?_
                refine gF (v := .ref (ad 31)) hx hb hown hE hK hP 0 rfl rfl layM 31 (by decide) w511 rfl d_M_start_214 ?_
                refine lv_iload_n hx hb d_M_start_217 rfl (lv_at hl 0 rfl) ?_
                refine nbld (f := z.kinds) hx hb hK hP 14 0 rfl rfl (k) (by omega) (by decide) d_M_start_218 ?_
                refine lv_if_ne hx hb d_M_start_219 (tgt := 242) rfl (fun g2 => ?_) (fun g2 => ?_)
                · have g2 := g2
                  refine lv_aload_n hx hb d_M_start_242 rfl (lv_at hl 1 rfl) ?_
                  refine gF (v := .ref (ad 31)) hx hb hown hE hK hP 0 rfl rfl layM 31 (by decide) w511 rfl d_M_start_243 ?_
                  refine lv_iload_n hx hb d_M_start_246 rfl (lv_at hl 0 rfl) ?_
                  refine nbld (f := z.kinds) hx hb hK hP 14 0 rfl rfl (k) (by omega) (by decide) d_M_start_247 ?_
                  refine lv_iconst (v := 1) hx hb d_M_start_248 (by decide) ?_
                  refine lv_icmp_ne hx hb d_M_start_249 (tgt := 277) rfl (fun g3 => ?_) (fun g3 => ?_)
                  · have g3 := g3
                    refine lv_aload_n hx hb d_M_start_277 rfl (lv_at hl 1 rfl) ?_
                    refine lv_aload_n hx hb d_M_start_278 rfl (lv_at hl 1 rfl) ?_
                    refine gF (v := .ref (ad 32)) hx hb hown hE hK hP 0 rfl rfl layM 32 (by decide) w512 rfl d_M_start_279 ?_
                    refine lv_iload_n hx hb d_M_start_282 rfl (lv_at hl 0 rfl) ?_
                    refine nild (f := (fun z9 => nI (z.recordSeries z9))) hx hb hK hP 15 1 rfl rfl (k) (by omega) (by decide) d_M_start_283 ?_
                    refine lv_aload_n hx hb d_M_start_284 rfl (lv_at hl 1 rfl) ?_
                    refine gF (v := .ref (ad 33)) hx hb hown hE hK hP 0 rfl rfl layM 33 (by decide) w513 rfl d_M_start_285 ?_
                    refine lv_iload_n hx hb d_M_start_288 rfl (lv_at hl 0 rfl) ?_
                    refine nlld (f := z.firsts) hx hb hK hP 16 2 rfl rfl (k) (by omega) (by decide) d_M_start_289 ?_
                    refine lv_aload_n hx hb d_M_start_290 rfl (lv_at hl 1 rfl) ?_
                    refine gF (v := .ref (ad 34)) hx hb hown hE hK hP 0 rfl rfl layM 34 (by decide) w514 rfl d_M_start_291 ?_
                    refine lv_iload_n hx hb d_M_start_294 rfl (lv_at hl 0 rfl) ?_
                    refine nlld (f := z.seconds) hx hb hK hP 17 2 rfl rfl (k) (by omega) (by decide) d_M_start_295 ?_
                    refine jfI (rnV (As := [.int (nI (z.recordSeries k)), .long (z.firsts k), .long (z.seconds k)]) (rest := []) hx hb hml hown hE hK (hN _ _ hS) hP hD (k_go l D dA H.size h ad (MS.s_used (MS.s_block z (z.recordBlocks k)) v) (z.recordSeries k) (z.firsts k) (z.seconds k) (show z.points ≤ 12000 from by omega) (show z.deletes < 2 ^ 30 from by omega) (show (z.recordSeries k) < 256 from by omega) b1) (q0 := 0) rfl rfl w901 w900 w902 w903 w328 rfl rfl ⟨⟨by decide, by decide⟩, rfl⟩ ⟨(Nat.le_of_ble_eq_true rfl), (Nat.le_of_ble_eq_true rfl)⟩ rfl hl.1 rfl (Nat.le_of_ble_eq_true rfl) d_M_start_296 ⟨(Nat.le_of_ble_eq_true rfl), (Nat.le_of_ble_eq_true rfl)⟩) hP hD hS hA (fun r4 u5 H locs hp9 hP hD hS => ?_)
                    have hP : va_P D vwCl (MW dA h ad (MS.s_used (MS.s_block (MS.s_deletes (MS.s_hidden (MS.s_places z (mapT z.points (z.hit (z.recordSeries k) (z.firsts k) (z.seconds k)) z.gP z.places)) (mapT z.points (z.hit (z.recordSeries k) (z.firsts k) (z.seconds k)) z.gH z.hidden)) (z.deletes + 1)) (z.recordBlocks k)) v)) H := hP
                    have hD : va_D A (MW dA h ad (MS.s_used (MS.s_block (MS.s_deletes (MS.s_hidden (MS.s_places z (mapT z.points (z.hit (z.recordSeries k) (z.firsts k) (z.seconds k)) z.gP z.places)) (mapT z.points (z.hit (z.recordSeries k) (z.firsts k) (z.seconds k)) z.gH z.hidden)) (z.deletes + 1)) (z.recordBlocks k)) v)) := hD
                    replace hp9 : nI (cnt z.points (z.hit (z.recordSeries k) (z.firsts k) (z.seconds k))) = r4 := Eq.symm hp9
                    subst hp9
                    refine lv_pop hx hb d_M_start_299 rfl ?_
                    refine lv_iinc (k := 0) (v := nI (k + 1)) hx hb d_M_start_300 hl rfl (iincN (k) 1 1 (by decide)) (by decide) rfl (fun ls hl => ?_)
                    have hl : lv_has ls 2 [(1, .int (nI (k + 1))), (0, .ref h)] := hl
                    refine lv_goto hx hb d_M_start_303 (tgt := 158) rfl ?_
                    exact ih158 _ (by omega) (k + 1) (MS.s_used (MS.s_block (MS.s_deletes (MS.s_hidden (MS.s_places z (mapT z.points (z.hit (z.recordSeries k) (z.firsts k) (z.seconds k)) z.gP z.places)) (mapT z.points (z.hit (z.recordSeries k) (z.firsts k) (z.seconds k)) z.gH z.hidden)) (z.deletes + 1)) (z.recordBlocks k)) v) (by rw [rpS_s, ← ez]; unfold MS.rp1; rw [if_neg g2]; rw [if_neg g3]; rw [← hv9]; rfl) (by omega) a1 a2 a3 a4 a5 a6 a7 (show z.points ≤ _ from by omega) (show z.deletes + 1 ≤ _ from by omega) b1 (show v ≤ _ from by omega) (show z.recordBlocks k < _ from by omega) rfl H _ ls hP hD hS (lv_sub hl [0, 1] rfl)
                  · have g3 := g3
                    refine lv_aload_n hx hb d_M_start_252 rfl (lv_at hl 1 rfl) ?_
                    refine lv_aload_n hx hb d_M_start_253 rfl (lv_at hl 1 rfl) ?_
                    refine gF (v := .ref (ad 32)) hx hb hown hE hK hP 0 rfl rfl layM 32 (by decide) w512 rfl d_M_start_254 ?_
                    refine lv_iload_n hx hb d_M_start_257 rfl (lv_at hl 0 rfl) ?_
                    refine nild (f := (fun z9 => nI (z.recordSeries z9))) hx hb hK hP 15 1 rfl rfl (k) (by omega) (by decide) d_M_start_258 ?_
                    refine lv_aload_n hx hb d_M_start_259 rfl (lv_at hl 1 rfl) ?_
                    refine gF (v := .ref (ad 33)) hx hb hown hE hK hP 0 rfl rfl layM 33 (by decide) w513 rfl d_M_start_260 ?_
                    refine lv_iload_n hx hb d_M_start_263 rfl (lv_at hl 0 rfl) ?_
                    refine nlld (f := z.firsts) hx hb hK hP 16 2 rfl rfl (k) (by omega) (by decide) d_M_start_264 ?_
                    refine lv_aload_n hx hb d_M_start_265 rfl (lv_at hl 1 rfl) ?_
                    refine gF (v := .ref (ad 34)) hx hb hown hE hK hP 0 rfl rfl layM 34 (by decide) w514 rfl d_M_start_266 ?_
                    refine lv_iload_n hx hb d_M_start_269 rfl (lv_at hl 0 rfl) ?_
                    refine nlld (f := z.seconds) hx hb hK hP 17 2 rfl rfl (k) (by omega) (by decide) d_M_start_270 ?_
                    rcases (Classical.em (z.firsts k < z.horizon)) with c1 | c1
                    · refine jfV (rnV (As := [.int (nI (z.recordSeries k)), .long (z.firsts k), .long (z.seconds k)]) (rest := []) hx hb hml hown hE hK (hN _ _ hS) hP hD (k_come_0 l D dA H.size h ad (MS.s_used (MS.s_block z (z.recordBlocks k)) v) (z.recordSeries k) (z.firsts k) (z.seconds k) (show (z.recordSeries k) < 256 from by omega) c1) (q0 := 0) rfl rfl w893 w892 w894 w895 w328 rfl rfl ⟨⟨by decide, by decide⟩, rfl⟩ ⟨(Nat.le_of_ble_eq_true rfl), (Nat.le_of_ble_eq_true rfl)⟩ rfl hl.1 rfl (Nat.le_of_ble_eq_true rfl) d_M_start_271 ⟨(Nat.le_of_ble_eq_true rfl), (Nat.le_of_ble_eq_true rfl)⟩) hP hD hS hA (fun u7 H locs hp9 hP hD hS => ?_)
                      have hP : va_P D vwCl (MW dA h ad (MS.s_used (MS.s_block (MS.s_lasts z (va_up z.lasts (z.recordSeries k) (z.firsts k))) (z.recordBlocks k)) v)) H := hP
                      have hD : va_D A (MW dA h ad (MS.s_used (MS.s_block (MS.s_lasts z (va_up z.lasts (z.recordSeries k) (z.firsts k))) (z.recordBlocks k)) v)) := hD
                      refine lv_goto hx hb d_M_start_274 (tgt := 300) rfl ?_
                      refine lv_iinc (k := 0) (v := nI (k + 1)) hx hb d_M_start_300 hl rfl (iincN (k) 1 1 (by decide)) (by decide) rfl (fun ls hl => ?_)
                      have hl : lv_has ls 2 [(1, .int (nI (k + 1))), (0, .ref h)] := hl
                      refine lv_goto hx hb d_M_start_303 (tgt := 158) rfl ?_
                      exact ih158 _ (by omega) (k + 1) (MS.s_used (MS.s_block (MS.s_lasts z (va_up z.lasts (z.recordSeries k) (z.firsts k))) (z.recordBlocks k)) v) (by rw [rpS_s, ← ez]; unfold MS.rp1; rw [if_neg g2]; rw [if_pos g3]; rw [if_pos c1]; rw [← hv9]; rfl) (by omega) a1 a2 a3 a4 a5 a6 a7 (show z.points ≤ _ from by omega) (show z.deletes ≤ _ from by omega) b1 (show v ≤ _ from by omega) (show z.recordBlocks k < _ from by omega) rfl H _ ls hP hD hS (lv_sub hl [0, 1] rfl)
                    · refine jfV (rnV (As := [.int (nI (z.recordSeries k)), .long (z.firsts k), .long (z.seconds k)]) (rest := []) hx hb hml hown hE hK (hN _ _ hS) hP hD (k_come l D dA H.size h ad (MS.s_used (MS.s_block z (z.recordBlocks k)) v) (z.recordSeries k) (z.firsts k) (z.seconds k) (show (z.recordSeries k) < 256 from by omega) c1 (show z.points < 12000 from by omega)) (q0 := 0) rfl rfl w893 w892 w894 w895 w328 rfl rfl ⟨⟨by decide, by decide⟩, rfl⟩ ⟨(Nat.le_of_ble_eq_true rfl), (Nat.le_of_ble_eq_true rfl)⟩ rfl hl.1 rfl (Nat.le_of_ble_eq_true rfl) d_M_start_271 ⟨(Nat.le_of_ble_eq_true rfl), (Nat.le_of_ble_eq_true rfl)⟩) hP hD hS hA (fun u9 H locs hp9 hP hD hS => ?_)
                      have hP : va_P D vwCl (MW dA h ad (MS.s_used (MS.s_block (MS.s_points (MS.s_baseHidden (MS.s_hidden (MS.s_places (MS.s_pointValues (MS.s_pointTimes (MS.s_pointSeries (MS.s_lasts z (va_up z.lasts (z.recordSeries k) (z.firsts k))) (va_up z.pointSeries z.points (z.recordSeries k))) (va_up z.pointTimes z.points (z.firsts k))) (va_up z.pointValues z.points (z.seconds k))) (va_up z.places z.points (-1))) (va_up z.hidden z.points (-1))) (va_up z.baseHidden z.points (-1))) (z.points + 1)) (z.recordBlocks k)) v)) H := hP
                      have hD : va_D A (MW dA h ad (MS.s_used (MS.s_block (MS.s_points (MS.s_baseHidden (MS.s_hidden (MS.s_places (MS.s_pointValues (MS.s_pointTimes (MS.s_pointSeries (MS.s_lasts z (va_up z.lasts (z.recordSeries k) (z.firsts k))) (va_up z.pointSeries z.points (z.recordSeries k))) (va_up z.pointTimes z.points (z.firsts k))) (va_up z.pointValues z.points (z.seconds k))) (va_up z.places z.points (-1))) (va_up z.hidden z.points (-1))) (va_up z.baseHidden z.points (-1))) (z.points + 1)) (z.recordBlocks k)) v)) := hD
                      refine lv_goto hx hb d_M_start_274 (tgt := 300) rfl ?_
                      refine lv_iinc (k := 0) (v := nI (k + 1)) hx hb d_M_start_300 hl rfl (iincN (k) 1 1 (by decide)) (by decide) rfl (fun ls hl => ?_)
                      have hl : lv_has ls 2 [(1, .int (nI (k + 1))), (0, .ref h)] := hl
                      refine lv_goto hx hb d_M_start_303 (tgt := 158) rfl ?_
                      exact ih158 _ (by omega) (k + 1) (MS.s_used (MS.s_block (MS.s_points (MS.s_baseHidden (MS.s_hidden (MS.s_places (MS.s_pointValues (MS.s_pointTimes (MS.s_pointSeries (MS.s_lasts z (va_up z.lasts (z.recordSeries k) (z.firsts k))) (va_up z.pointSeries z.points (z.recordSeries k))) (va_up z.pointTimes z.points (z.firsts k))) (va_up z.pointValues z.points (z.seconds k))) (va_up z.places z.points (-1))) (va_up z.hidden z.points (-1))) (va_up z.baseHidden z.points (-1))) (z.points + 1)) (z.recordBlocks k)) v) (by rw [rpS_s, ← ez]; unfold MS.rp1; rw [if_neg g2]; rw [if_pos g3]; rw [if_neg c1]; rw [← hv9]; rfl) (by omega) a1 a2 a3 a4 a5 a6 a7 (show z.points + 1 ≤ _ from by omega) (show z.deletes ≤ _ from by omega) (up_all b1 (by rw [a2]; exact (hk k (by omega)).1)) (show v ≤ _ from by omega) (show z.recordBlocks k < _ from by omega) rfl H _ ls hP hD hS (lv_sub hl [0, 1] rfl)
                · have g2 := g2
                  refine lv_aload_n hx hb d_M_start_222 rfl (lv_at hl 1 rfl) ?_
                  refine lv_aload_n hx hb d_M_start_223 rfl (lv_at hl 1 rfl) ?_
                  refine gF (v := .ref (ad 32)) hx hb hown hE hK hP 0 rfl rfl layM 32 (by decide) w512 rfl d_M_start_224 ?_
                  refine lv_iload_n hx hb d_M_start_227 rfl (lv_at hl 0 rfl) ?_
                  refine nild (f := (fun z9 => nI (z.recordSeries z9))) hx hb hK hP 15 1 rfl rfl (k) (by omega) (by decide) d_M_start_228 ?_
                  refine lv_aload_n hx hb d_M_start_229 rfl (lv_at hl 1 rfl) ?_
                  refine gF (v := .ref (ad 33)) hx hb hown hE hK hP 0 rfl rfl layM 33 (by decide) w513 rfl d_M_start_230 ?_
                  refine lv_iload_n hx hb d_M_start_233 rfl (lv_at hl 0 rfl) ?_
                  refine nlld (f := z.firsts) hx hb hK hP 16 2 rfl rfl (k) (by omega) (by decide) d_M_start_234 ?_
                  refine lv_l2i hx hb d_M_start_235 rfl ?_
                  refine tpi (y := nI (fN k)) (by rw [h5.2.2.2 g2]; exact lN_i _) ?_
                  refine jfV (rnV (As := [.int (nI (z.recordSeries k)), .int (nI (fN k))]) (rest := []) hx hb hml hown hE hK (hN _ _ hS) hP hD (k_newSeries l D dA H.size h ad (MS.s_used (MS.s_block z (z.recordBlocks k)) v) (z.recordSeries k) (fN k) (show (z.recordSeries k) < 256 from by omega)) (q0 := 0) rfl rfl w935 w934 w936 w937 w328 rfl rfl ⟨⟨by decide, by decide⟩, rfl⟩ ⟨(Nat.le_of_ble_eq_true rfl), (Nat.le_of_ble_eq_true rfl)⟩ rfl hl.1 rfl (Nat.le_of_ble_eq_true rfl) d_M_start_236 ⟨(Nat.le_of_ble_eq_true rfl), (Nat.le_of_ble_eq_true rfl)⟩) hP hD hS hA (fun u11 H locs hp9 hP hD hS => ?_)
                  have hP : va_P D vwCl (MW dA h ad (MS.s_used (MS.s_block (MS.s_lasts (MS.s_seriesCount (MS.s_textLengths z (va_up z.textLengths (z.recordSeries k) (fN k))) ((z.recordSeries k) + 1)) (va_up z.lasts (z.recordSeries k) (-1))) (z.recordBlocks k)) v)) H := hP
                  have hD : va_D A (MW dA h ad (MS.s_used (MS.s_block (MS.s_lasts (MS.s_seriesCount (MS.s_textLengths z (va_up z.textLengths (z.recordSeries k) (fN k))) ((z.recordSeries k) + 1)) (va_up z.lasts (z.recordSeries k) (-1))) (z.recordBlocks k)) v)) := hD
                  refine lv_goto hx hb d_M_start_239 (tgt := 300) rfl ?_
                  refine lv_iinc (k := 0) (v := nI (k + 1)) hx hb d_M_start_300 hl rfl (iincN (k) 1 1 (by decide)) (by decide) rfl (fun ls hl => ?_)
                  have hl : lv_has ls 2 [(1, .int (nI (k + 1))), (0, .ref h)] := hl
                  refine lv_goto hx hb d_M_start_303 (tgt := 158) rfl ?_
                  exact ih158 _ (by omega) (k + 1) (MS.s_used (MS.s_block (MS.s_lasts (MS.s_seriesCount (MS.s_textLengths z (va_up z.textLengths (z.recordSeries k) (fN k))) ((z.recordSeries k) + 1)) (va_up z.lasts (z.recordSeries k) (-1))) (z.recordBlocks k)) v) (by rw [rpS_s, ← ez]; unfold MS.rp1; rw [if_pos g2]; rw [← hv9]; rfl) (by omega) a1 a2 a3 a4 a5 a6 a7 (show z.points ≤ _ from by omega) (show z.deletes ≤ _ from by omega) b1 (show v ≤ _ from by omega) (show z.recordBlocks k < _ from by omega) rfl H _ ls hP hD hS (lv_sub hl [0, 1] rfl)
              have h5 := hk k (by omega)
              rw [← a2, ← a5, ← a6, ← a1, ← a3] at h5
              have h6 := h5.1
              have h7 := h5.2.1
              have h8 := h5.2.2.1
              refine lv_aload_n hx hb d_M_start_166 rfl (lv_at hl 1 rfl) ?_
              refine lv_aload_n hx hb d_M_start_167 rfl (lv_at hl 1 rfl) ?_
              refine gF (v := .ref (ad 36)) hx hb hown hE hK hP 0 rfl rfl layM 36 (by decide) w516 rfl d_M_start_168 ?_
              refine lv_iload_n hx hb d_M_start_171 rfl (lv_at hl 0 rfl) ?_
              refine nild (f := (fun z9 => nI (z.recordBlocks z9))) hx hb hK hP 19 1 rfl rfl (k) (by omega) (by decide) d_M_start_172 ?_
              refine lv_aload_n hx hb d_M_start_173 rfl (lv_at hl 1 rfl) ?_
              refine gF (v := .int (nI z.block)) hx hb hown hE hK hP 0 rfl rfl layM 39 (by decide) w423 rfl d_M_start_174 ?_
              refine lv_icmp_ne hx hb d_M_start_177 (tgt := 194) rfl (fun g12 => ?_) (fun g12 => ?_)
              · have g12 := mt (nI_eq (a := z.recordBlocks k) (b := z.block) (by omega) (by omega)).mpr g12
                refine lv_aload_n hx hb d_M_start_194 rfl (lv_at hl 1 rfl) ?_
                refine gF (v := .ref (ad 35)) hx hb hown hE hK hP 0 rfl rfl layM 35 (by decide) w515 rfl d_M_start_195 ?_
                refine lv_iload_n hx hb d_M_start_198 rfl (lv_at hl 0 rfl) ?_
                refine nild (f := (fun z9 => nI (z.units z9))) hx hb hK hP 18 1 rfl rfl (k) (by omega) (by decide) d_M_start_199 ?_
                exact J200 (z.units k) (if_neg g12) (by omega) H _ ls hP hD hS (lv_sub hl [0, 1] rfl)
              · have g12 := (nI_eq (a := z.recordBlocks k) (b := z.block) (by omega) (by omega)).mp g12
                refine lv_aload_n hx hb d_M_start_180 rfl (lv_at hl 1 rfl) ?_
                refine gF (v := .int (nI z.used)) hx hb hown hE hK hP 0 rfl rfl layM 40 (by decide) w424 rfl d_M_start_181 ?_
                refine lv_aload_n hx hb d_M_start_184 rfl (lv_at hl 1 rfl) ?_
                refine gF (v := .ref (ad 35)) hx hb hown hE hK hP 0 rfl rfl layM 35 (by decide) w515 rfl d_M_start_185 ?_
                refine lv_iload_n hx hb d_M_start_188 rfl (lv_at hl 0 rfl) ?_
                refine nild (f := (fun z9 => nI (z.units z9))) hx hb hK hP 18 1 rfl rfl (k) (by omega) (by decide) d_M_start_189 ?_
                refine lv_iadd hx hb d_M_start_190 (tpi (y := nI (z.used + (z.units k))) (nI_add (z.used) (z.units k)) ?_)
                refine lv_goto hx hb d_M_start_191 (tgt := 200) rfl ?_
                exact J200 (z.used + (z.units k)) (if_pos g12) (by omega) H _ ls hP hD hS (lv_sub hl [0, 1] rfl)
        exact L158 _ 0 y ey (Nat.zero_le _) (by rw [ey]; rfl) (by rw [ey]; rfl) (by rw [ey]; rfl) (by rw [ey]; rfl) (by rw [ey]; rfl) (by rw [ey]; rfl) (by rw [ey]; rfl) (by rw [ey]; exact cnt_le x.points _) (by rw [ey]; exact Nat.le_refl _) (by rw [ey]; exact st2_hs hs) (by rw [ey]; exact Nat.zero_le _) (by rw [ey]; show 0 < 2 ^ 20; decide) rfl H _ ls hP hD hS (lv_sub hl [0, 1] rfl)
      refine lv_aload_n hx hb d_M_start_129 rfl (lv_at hl 0 rfl) ?_
      refine jfV (rnV (As := []) (rest := []) hx hb hml hown hE hK (hN _ _ hS) hP hD (k_tidy l D dA H.size h ad y7 (show y7.points ≤ 12000 from by omega)) (q0 := 0) rfl rfl w456 w455 w457 w458 w328 rfl rfl ⟨⟨by decide, by decide⟩, rfl⟩ ⟨(Nat.le_of_ble_eq_true rfl), (Nat.le_of_ble_eq_true rfl)⟩ rfl hl.1 rfl (Nat.le_of_ble_eq_true rfl) d_M_start_130 ⟨(Nat.le_of_ble_eq_true rfl), (Nat.le_of_ble_eq_true rfl)⟩) hP hD hS hA (fun u14 H locs hp9 hP hD hS => ?_)
      have hP : va_P D vwCl (MW dA h ad (MS.s_points (MS.s_baseHidden (MS.s_hidden (MS.s_places (MS.s_pointValues (MS.s_pointTimes (MS.s_pointSeries y7 (tdT y7.stay y7.pointSeries y7.points)) (tdT y7.stay y7.pointTimes y7.points)) (tdT y7.stay y7.pointValues y7.points)) (tdT y7.stay y7.places y7.points)) (tdT y7.stay y7.hidden y7.points)) (tdT y7.stay y7.baseHidden y7.points)) (cnt y7.points y7.stay))) H := hP
      have hD : va_D A (MW dA h ad (MS.s_points (MS.s_baseHidden (MS.s_hidden (MS.s_places (MS.s_pointValues (MS.s_pointTimes (MS.s_pointSeries y7 (tdT y7.stay y7.pointSeries y7.points)) (tdT y7.stay y7.pointTimes y7.points)) (tdT y7.stay y7.pointValues y7.points)) (tdT y7.stay y7.places y7.points)) (tdT y7.stay y7.hidden y7.points)) (tdT y7.stay y7.baseHidden y7.points)) (cnt y7.points y7.stay))) := hD
      refine lv_aload_n hx hb d_M_start_133 rfl (lv_at hl 0 rfl) ?_
      refine lv_aload_n hx hb d_M_start_134 rfl (lv_at hl 0 rfl) ?_
      refine gF (v := .int (nI y7.kept)) hx hb hown hE hK hP 0 rfl rfl layM 38 (by decide) w339 rfl d_M_start_135 ?_
      refine pF (v := .int (nI y7.kept)) hx hb hown hE hK hP hD hS 0 rfl rfl layM tyM tokM nmM 37 (by decide) w338 rfl rfl rfl (Nat.le_of_ble_eq_true rfl) d_M_start_138 (fun H locs hP hD hS => ?_)
      have hP : va_P D vwCl (MW dA h ad (MS.s_records (MS.s_points (MS.s_baseHidden (MS.s_hidden (MS.s_places (MS.s_pointValues (MS.s_pointTimes (MS.s_pointSeries y7 (tdT y7.stay y7.pointSeries y7.points)) (tdT y7.stay y7.pointTimes y7.points)) (tdT y7.stay y7.pointValues y7.points)) (tdT y7.stay y7.places y7.points)) (tdT y7.stay y7.hidden y7.points)) (tdT y7.stay y7.baseHidden y7.points)) (cnt y7.points y7.stay)) y7.kept)) H := hP
      have hD : va_D A (MW dA h ad (MS.s_records (MS.s_points (MS.s_baseHidden (MS.s_hidden (MS.s_places (MS.s_pointValues (MS.s_pointTimes (MS.s_pointSeries y7 (tdT y7.stay y7.pointSeries y7.points)) (tdT y7.stay y7.pointTimes y7.points)) (tdT y7.stay y7.pointValues y7.points)) (tdT y7.stay y7.places y7.points)) (tdT y7.stay y7.hidden y7.points)) (tdT y7.stay y7.baseHidden y7.points)) (cnt y7.points y7.stay)) y7.kept)) := hD
      refine lv_aload_n hx hb d_M_start_141 rfl (lv_at hl 0 rfl) ?_
      refine lv_iconst (v := 0) hx hb d_M_start_142 (by decide) ?_
      refine pF (v := .int (bI false)) hx hb hown hE hK hP hD hS 0 rfl rfl layM tyM tokM nmM 41 (by decide) w337 rfl (bI_nar false) (bI_fit false) (Nat.le_of_ble_eq_true rfl) d_M_start_143 (fun H locs hP hD hS => ?_)
      have hP : va_P D vwCl (MW dA h ad (MS.s_fresh (MS.s_records (MS.s_points (MS.s_baseHidden (MS.s_hidden (MS.s_places (MS.s_pointValues (MS.s_pointTimes (MS.s_pointSeries y7 (tdT y7.stay y7.pointSeries y7.points)) (tdT y7.stay y7.pointTimes y7.points)) (tdT y7.stay y7.pointValues y7.points)) (tdT y7.stay y7.places y7.points)) (tdT y7.stay y7.hidden y7.points)) (tdT y7.stay y7.baseHidden y7.points)) (cnt y7.points y7.stay)) y7.kept) false)) H := hP
      have hD : va_D A (MW dA h ad (MS.s_fresh (MS.s_records (MS.s_points (MS.s_baseHidden (MS.s_hidden (MS.s_places (MS.s_pointValues (MS.s_pointTimes (MS.s_pointSeries y7 (tdT y7.stay y7.pointSeries y7.points)) (tdT y7.stay y7.pointTimes y7.points)) (tdT y7.stay y7.pointValues y7.points)) (tdT y7.stay y7.places y7.points)) (tdT y7.stay y7.hidden y7.points)) (tdT y7.stay y7.baseHidden y7.points)) (cnt y7.points y7.stay)) y7.kept) false)) := hD
      refine lv_aload_n hx hb d_M_start_146 rfl (lv_at hl 0 rfl) ?_
      refine lv_iconst (v := 0) hx hb d_M_start_147 (by decide) ?_
      refine pF (v := .int (nI 0)) hx hb hown hE hK hP hD hS 0 rfl rfl layM tyM tokM nmM 39 (by decide) w423 rfl rfl rfl (Nat.le_of_ble_eq_true rfl) d_M_start_148 (fun H locs hP hD hS => ?_)
      have hP : va_P D vwCl (MW dA h ad (MS.s_fresh (MS.s_block (MS.s_records (MS.s_points (MS.s_baseHidden (MS.s_hidden (MS.s_places (MS.s_pointValues (MS.s_pointTimes (MS.s_pointSeries y7 (tdT y7.stay y7.pointSeries y7.points)) (tdT y7.stay y7.pointTimes y7.points)) (tdT y7.stay y7.pointValues y7.points)) (tdT y7.stay y7.places y7.points)) (tdT y7.stay y7.hidden y7.points)) (tdT y7.stay y7.baseHidden y7.points)) (cnt y7.points y7.stay)) y7.kept) 0) false)) H := hP
      have hD : va_D A (MW dA h ad (MS.s_fresh (MS.s_block (MS.s_records (MS.s_points (MS.s_baseHidden (MS.s_hidden (MS.s_places (MS.s_pointValues (MS.s_pointTimes (MS.s_pointSeries y7 (tdT y7.stay y7.pointSeries y7.points)) (tdT y7.stay y7.pointTimes y7.points)) (tdT y7.stay y7.pointValues y7.points)) (tdT y7.stay y7.places y7.points)) (tdT y7.stay y7.hidden y7.points)) (tdT y7.stay y7.baseHidden y7.points)) (cnt y7.points y7.stay)) y7.kept) 0) false)) := hD
      refine lv_aload_n hx hb d_M_start_151 rfl (lv_at hl 0 rfl) ?_
      refine lv_iconst (v := 0) hx hb d_M_start_152 (by decide) ?_
      refine pF (v := .int (nI 0)) hx hb hown hE hK hP hD hS 0 rfl rfl layM tyM tokM nmM 40 (by decide) w424 rfl rfl rfl (Nat.le_of_ble_eq_true rfl) d_M_start_153 (fun H locs hP hD hS => ?_)
      have hP : va_P D vwCl (MW dA h ad (MS.s_fresh (MS.s_used (MS.s_block (MS.s_records (MS.s_points (MS.s_baseHidden (MS.s_hidden (MS.s_places (MS.s_pointValues (MS.s_pointTimes (MS.s_pointSeries y7 (tdT y7.stay y7.pointSeries y7.points)) (tdT y7.stay y7.pointTimes y7.points)) (tdT y7.stay y7.pointValues y7.points)) (tdT y7.stay y7.places y7.points)) (tdT y7.stay y7.hidden y7.points)) (tdT y7.stay y7.baseHidden y7.points)) (cnt y7.points y7.stay)) y7.kept) 0) 0) false)) H := hP
      have hD : va_D A (MW dA h ad (MS.s_fresh (MS.s_used (MS.s_block (MS.s_records (MS.s_points (MS.s_baseHidden (MS.s_hidden (MS.s_places (MS.s_pointValues (MS.s_pointTimes (MS.s_pointSeries y7 (tdT y7.stay y7.pointSeries y7.points)) (tdT y7.stay y7.pointTimes y7.points)) (tdT y7.stay y7.pointValues y7.points)) (tdT y7.stay y7.places y7.points)) (tdT y7.stay y7.hidden y7.points)) (tdT y7.stay y7.baseHidden y7.points)) (cnt y7.points y7.stay)) y7.kept) 0) 0) false)) := hD
      exact J156 (MS.s_fresh (MS.s_used (MS.s_block (MS.s_records (MS.s_points (MS.s_baseHidden (MS.s_hidden (MS.s_places (MS.s_pointValues (MS.s_pointTimes (MS.s_pointSeries y7 (tdT y7.stay y7.pointSeries y7.points)) (tdT y7.stay y7.pointTimes y7.points)) (tdT y7.stay y7.pointValues y7.points)) (tdT y7.stay y7.places y7.points)) (tdT y7.stay y7.hidden y7.points)) (tdT y7.stay y7.baseHidden y7.points)) (cnt y7.points y7.stay)) y7.kept) 0) 0) false) (by rw [ey7]; rfl) H _ ls hP hD hS (lv_sub hl [0] rfl)
    refine lv_iconst (v := 0) hx hb d_M_start_74 (by decide) ?_
    refine lv_istore_n hx hb d_M_start_75 rfl hl (by decide) rfl (fun ls hl => ?_)
    have hl : lv_has ls 2 [(1, .int 0), (0, .ref h)] := hl
    have L76 : ∀ (k9 : Nat) (q : Nat) (i1 : q ≤ x.points) (hk9 : x.points - q = k9), ∀ (H : Heap) (locs : List Loc) (ls : Array Slot) (hP : va_P D vwCl (MW dA h ad (MS.s_horizon (MS.s_hidden (MS.s_places (MS.s_lasts (MS.s_seriesCount (MS.s_on (MS.s_cod x 0) true) x.baseSeries) (mapT x.baseSeries (fun _ => true) x.baseLasts x.lasts)) (mapT q x.isM1 m2F x.places)) (mapT q (fun _ => true) x.baseHidden x.hidden)) x.baseHorizon)) H) (hD : va_D A (MW dA h ad (MS.s_horizon (MS.s_hidden (MS.s_places (MS.s_lasts (MS.s_seriesCount (MS.s_on (MS.s_cod x 0) true) x.baseSeries) (mapT x.baseSeries (fun _ => true) x.baseLasts x.lasts)) (mapT q x.isM1 m2F x.places)) (mapT q (fun _ => true) x.baseHidden x.hidden)) x.baseHorizon))) (hS : va_S A s.heap H locs) (hl : lv_has ls 2 [(1, .int (nI q)), (0, .ref h)]), W p l e ({ frames := 3, cells := 0, slots := 0, locals := 48 } : Room) s m ([.ref h] : List Value).toArray below meth c H locs 0 0 (MQ below (va_Qi (fun (r9 : Int32) (u9 : MS) => r9 = nI x.kept ∧ u9 = x.st2.rpS fN x.kept) (fun (u9 : MS) t9 => bW D A (MW dA h ad u9) t9) A) ([.ref h] : List Value).toArray s 0 0 A) (F0 m 76 ls []) := by
      intro k9
      induction k9 using Nat.strongRecOn with
      | ind k9 ih76 =>
        intro q i1 hk9 H locs ls hP hD hS hl
        refine lv_iload_n hx hb d_M_start_76 rfl (lv_at hl 0 rfl) ?_
        refine lv_aload_n hx hb d_M_start_77 rfl (lv_at hl 1 rfl) ?_
        refine gF (v := .int (nI x.points)) hx hb hown hE hK hP 0 rfl rfl layM 23 (by decide) w420 rfl d_M_start_78 ?_
        refine lv_icmp_ge hx hb d_M_start_81 (tgt := 129) rfl (fun g15 => ?_) (fun g15 => ?_)
        · have g15 := (nI_leI (a := x.points) (b := q) (by omega) (by omega)).mp g15
          exact J129 (MS.s_horizon (MS.s_hidden (MS.s_places (MS.s_lasts (MS.s_seriesCount (MS.s_on (MS.s_cod x 0) true) x.baseSeries) (mapT x.baseSeries (fun _ => true) x.baseLasts x.lasts)) (mapT q x.isM1 m2F x.places)) (mapT q (fun _ => true) x.baseHidden x.hidden)) x.baseHorizon) (by rw [show q = x.points by omega]; rfl) rfl rfl H _ ls hP hD hS (lv_sub hl [1] rfl)
        · have g15 := mt (nI_leI (a := x.points) (b := q) (by omega) (by omega)).mpr g15
          refine lv_aload_n hx hb d_M_start_84 rfl (lv_at hl 1 rfl) ?_
          refine gF (v := .ref (ad 20)) hx hb hown hE hK hP 0 rfl rfl layM 20 (by decide) w506 rfl d_M_start_85 ?_
          refine lv_iload_n hx hb d_M_start_88 rfl (lv_at hl 0 rfl) ?_
          refine lv_aload_n hx hb d_M_start_89 rfl (lv_at hl 1 rfl) ?_
          refine gF (v := .ref (ad 20)) hx hb hown hE hK hP 0 rfl rfl layM 20 (by decide) w506 rfl d_M_start_90 ?_
          refine lv_iload_n hx hb d_M_start_93 rfl (lv_at hl 0 rfl) ?_
          refine nild (f := (mapT q x.isM1 m2F x.places)) hx hb hK hP 9 1 rfl rfl (q) (by omega) (by decide) d_M_start_94 ?_
          refine tpi (y := (x.places q)) (mapT_at _ _ _ (Nat.le_refl q)) ?_
          refine lv_iconst (v := (-1)) hx hb d_M_start_95 (by decide) ?_
          refine lv_icmp_ne hx hb d_M_start_96 (tgt := 104) rfl (fun g16 => ?_) (fun g16 => ?_)
          · have g16 := g16
            refine lv_aload_n hx hb d_M_start_104 rfl (lv_at hl 1 rfl) ?_
            refine gF (v := .ref (ad 20)) hx hb hown hE hK hP 0 rfl rfl layM 20 (by decide) w506 rfl d_M_start_105 ?_
            refine lv_iload_n hx hb d_M_start_108 rfl (lv_at hl 0 rfl) ?_
            refine nild (f := (mapT q x.isM1 m2F x.places)) hx hb hK hP 9 1 rfl rfl (q) (by omega) (by decide) d_M_start_109 ?_
            refine tpi (y := (x.places q)) (mapT_at _ _ _ (Nat.le_refl q)) ?_
            refine nist hx hb hK hP hD hS 9 1 rfl rfl (q) (by omega) (by decide) d_M_start_110 (fun H locs hP hD hS => ?_)
            have hP : va_P D vwCl (MW dA h ad (MS.s_horizon (MS.s_hidden (MS.s_places (MS.s_lasts (MS.s_seriesCount (MS.s_on (MS.s_cod x 0) true) x.baseSeries) (mapT x.baseSeries (fun _ => true) x.baseLasts x.lasts)) (va_up (mapT q x.isM1 m2F x.places) q (x.places q))) (mapT q (fun _ => true) x.baseHidden x.hidden)) x.baseHorizon)) H := hP
            have hD : va_D A (MW dA h ad (MS.s_horizon (MS.s_hidden (MS.s_places (MS.s_lasts (MS.s_seriesCount (MS.s_on (MS.s_cod x 0) true) x.baseSeries) (mapT x.baseSeries (fun _ => true) x.baseLasts x.lasts)) (va_up (mapT q x.isM1 m2F x.places) q (x.places q))) (mapT q (fun _ => true) x.baseHidden x.hidden)) x.baseHorizon)) := hD
            refine lv_aload_n hx hb d_M_start_111 rfl (lv_at hl 1 rfl) ?_
            refine gF (v := .ref (ad 21)) hx hb hown hE hK hP 0 rfl rfl layM 21 (by decide) w507 rfl d_M_start_112 ?_
            refine lv_iload_n hx hb d_M_start_115 rfl (lv_at hl 0 rfl) ?_
            refine lv_aload_n hx hb d_M_start_116 rfl (lv_at hl 1 rfl) ?_
            refine gF (v := .ref (ad 22)) hx hb hown hE hK hP 0 rfl rfl layM 22 (by decide) w508 rfl d_M_start_117 ?_
            refine lv_iload_n hx hb d_M_start_120 rfl (lv_at hl 0 rfl) ?_
            refine nild (f := x.baseHidden) hx hb hK hP 11 1 rfl rfl (q) (by omega) (by decide) d_M_start_121 ?_
            refine nist hx hb hK hP hD hS 10 1 rfl rfl (q) (by omega) (by decide) d_M_start_122 (fun H locs hP hD hS => ?_)
            have hP : va_P D vwCl (MW dA h ad (MS.s_horizon (MS.s_hidden (MS.s_places (MS.s_lasts (MS.s_seriesCount (MS.s_on (MS.s_cod x 0) true) x.baseSeries) (mapT x.baseSeries (fun _ => true) x.baseLasts x.lasts)) (va_up (mapT q x.isM1 m2F x.places) q (x.places q))) (va_up (mapT q (fun _ => true) x.baseHidden x.hidden) q (x.baseHidden q))) x.baseHorizon)) H := hP
            have hD : va_D A (MW dA h ad (MS.s_horizon (MS.s_hidden (MS.s_places (MS.s_lasts (MS.s_seriesCount (MS.s_on (MS.s_cod x 0) true) x.baseSeries) (mapT x.baseSeries (fun _ => true) x.baseLasts x.lasts)) (va_up (mapT q x.isM1 m2F x.places) q (x.places q))) (va_up (mapT q (fun _ => true) x.baseHidden x.hidden) q (x.baseHidden q))) x.baseHorizon)) := hD
            refine lv_iinc (k := 0) (v := nI (q + 1)) hx hb d_M_start_123 hl rfl (iincN (q) 1 1 (by decide)) (by decide) rfl (fun ls hl => ?_)
            have hl : lv_has ls 2 [(1, .int (nI (q + 1))), (0, .ref h)] := hl
            refine lv_goto hx hb d_M_start_126 (tgt := 76) rfl ?_
            have e9 : (MS.s_horizon (MS.s_hidden (MS.s_places (MS.s_lasts (MS.s_seriesCount (MS.s_on (MS.s_cod x 0) true) x.baseSeries) (mapT x.baseSeries (fun _ => true) x.baseLasts x.lasts)) (va_up (mapT q x.isM1 m2F x.places) q (x.places q))) (va_up (mapT q (fun _ => true) x.baseHidden x.hidden) q (x.baseHidden q))) x.baseHorizon : MS) = MS.s_horizon (MS.s_hidden (MS.s_places (MS.s_lasts (MS.s_seriesCount (MS.s_on (MS.s_cod x 0) true) x.baseSeries) (mapT x.baseSeries (fun _ => true) x.baseLasts x.lasts)) (mapT (q + 1) x.isM1 m2F x.places)) (mapT (q + 1) (fun _ => true) x.baseHidden x.hidden)) x.baseHorizon := by rw [show (mapT (q + 1) (fun _ => true) x.baseHidden x.hidden) = (va_up (mapT q (fun _ => true) x.baseHidden x.hidden) q (x.baseHidden q)) from (mapT_t rfl rfl), show (mapT (q + 1) x.isM1 m2F x.places) = (va_up (mapT q x.isM1 m2F x.places) q (x.places q)) from (mapT_u (decide_eq_false g16) rfl)] <;> rfl
            exact ih76 _ (by omega) (q + 1) (by omega) rfl H _ ls (cvP e9 hP) (cvD e9 hD) hS (lv_sub hl [0, 1] rfl)
          · have g16 := g16
            refine lv_bipush (v := (-2)) hx hb d_M_start_99 (by decide) ?_
            refine lv_goto hx hb d_M_start_101 (tgt := 110) rfl ?_
            refine nist hx hb hK hP hD hS 9 1 rfl rfl (q) (by omega) (by decide) d_M_start_110 (fun H locs hP hD hS => ?_)
            have hP : va_P D vwCl (MW dA h ad (MS.s_horizon (MS.s_hidden (MS.s_places (MS.s_lasts (MS.s_seriesCount (MS.s_on (MS.s_cod x 0) true) x.baseSeries) (mapT x.baseSeries (fun _ => true) x.baseLasts x.lasts)) (va_up (mapT q x.isM1 m2F x.places) q (-2))) (mapT q (fun _ => true) x.baseHidden x.hidden)) x.baseHorizon)) H := hP
            have hD : va_D A (MW dA h ad (MS.s_horizon (MS.s_hidden (MS.s_places (MS.s_lasts (MS.s_seriesCount (MS.s_on (MS.s_cod x 0) true) x.baseSeries) (mapT x.baseSeries (fun _ => true) x.baseLasts x.lasts)) (va_up (mapT q x.isM1 m2F x.places) q (-2))) (mapT q (fun _ => true) x.baseHidden x.hidden)) x.baseHorizon)) := hD
            refine lv_aload_n hx hb d_M_start_111 rfl (lv_at hl 1 rfl) ?_
            refine gF (v := .ref (ad 21)) hx hb hown hE hK hP 0 rfl rfl layM 21 (by decide) w507 rfl d_M_start_112 ?_
            refine lv_iload_n hx hb d_M_start_115 rfl (lv_at hl 0 rfl) ?_
            refine lv_aload_n hx hb d_M_start_116 rfl (lv_at hl 1 rfl) ?_
            refine gF (v := .ref (ad 22)) hx hb hown hE hK hP 0 rfl rfl layM 22 (by decide) w508 rfl d_M_start_117 ?_
            refine lv_iload_n hx hb d_M_start_120 rfl (lv_at hl 0 rfl) ?_
            refine nild (f := x.baseHidden) hx hb hK hP 11 1 rfl rfl (q) (by omega) (by decide) d_M_start_121 ?_
            refine nist hx hb hK hP hD hS 10 1 rfl rfl (q) (by omega) (by decide) d_M_start_122 (fun H locs hP hD hS => ?_)
            have hP : va_P D vwCl (MW dA h ad (MS.s_horizon (MS.s_hidden (MS.s_places (MS.s_lasts (MS.s_seriesCount (MS.s_on (MS.s_cod x 0) true) x.baseSeries) (mapT x.baseSeries (fun _ => true) x.baseLasts x.lasts)) (va_up (mapT q x.isM1 m2F x.places) q (-2))) (va_up (mapT q (fun _ => true) x.baseHidden x.hidden) q (x.baseHidden q))) x.baseHorizon)) H := hP
            have hD : va_D A (MW dA h ad (MS.s_horizon (MS.s_hidden (MS.s_places (MS.s_lasts (MS.s_seriesCount (MS.s_on (MS.s_cod x 0) true) x.baseSeries) (mapT x.baseSeries (fun _ => true) x.baseLasts x.lasts)) (va_up (mapT q x.isM1 m2F x.places) q (-2))) (va_up (mapT q (fun _ => true) x.baseHidden x.hidden) q (x.baseHidden q))) x.baseHorizon)) := hD
            refine lv_iinc (k := 0) (v := nI (q + 1)) hx hb d_M_start_123 hl rfl (iincN (q) 1 1 (by decide)) (by decide) rfl (fun ls hl => ?_)
            have hl : lv_has ls 2 [(1, .int (nI (q + 1))), (0, .ref h)] := hl
            refine lv_goto hx hb d_M_start_126 (tgt := 76) rfl ?_
            have e9 : (MS.s_horizon (MS.s_hidden (MS.s_places (MS.s_lasts (MS.s_seriesCount (MS.s_on (MS.s_cod x 0) true) x.baseSeries) (mapT x.baseSeries (fun _ => true) x.baseLasts x.lasts)) (va_up (mapT q x.isM1 m2F x.places) q (-2))) (va_up (mapT q (fun _ => true) x.baseHidden x.hidden) q (x.baseHidden q))) x.baseHorizon : MS) = MS.s_horizon (MS.s_hidden (MS.s_places (MS.s_lasts (MS.s_seriesCount (MS.s_on (MS.s_cod x 0) true) x.baseSeries) (mapT x.baseSeries (fun _ => true) x.baseLasts x.lasts)) (mapT (q + 1) x.isM1 m2F x.places)) (mapT (q + 1) (fun _ => true) x.baseHidden x.hidden)) x.baseHorizon := by rw [show (mapT (q + 1) (fun _ => true) x.baseHidden x.hidden) = (va_up (mapT q (fun _ => true) x.baseHidden x.hidden) q (x.baseHidden q)) from (mapT_t rfl rfl), show (mapT (q + 1) x.isM1 m2F x.places) = (va_up (mapT q x.isM1 m2F x.places) q (-2)) from (mapT_t (decide_eq_true g16) rfl)] <;> rfl
            exact ih76 _ (by omega) (q + 1) (by omega) rfl H _ ls (cvP e9 hP) (cvD e9 hD) hS (lv_sub hl [0, 1] rfl)
    have e9 : (MS.s_horizon (MS.s_lasts (MS.s_seriesCount (MS.s_on (MS.s_cod x 0) true) x.baseSeries) (mapT x.baseSeries (fun _ => true) x.baseLasts x.lasts)) x.baseHorizon : MS) = MS.s_horizon (MS.s_hidden (MS.s_places (MS.s_lasts (MS.s_seriesCount (MS.s_on (MS.s_cod x 0) true) x.baseSeries) (mapT x.baseSeries (fun _ => true) x.baseLasts x.lasts)) (mapT 0 x.isM1 m2F x.places)) (mapT 0 (fun _ => true) x.baseHidden x.hidden)) x.baseHorizon := by rw [show (mapT 0 (fun _ => true) x.baseHidden x.hidden) = x.hidden from (mapT_0 _ _ _), show (mapT 0 x.isM1 m2F x.places) = x.places from (mapT_0 _ _ _)] <;> rfl
    exact L76 _ 0 (Nat.zero_le _) rfl H _ ls (cvP e9 hP) (cvD e9 hD) hS (lv_sub hl [0, 1] rfl)
  refine lv_iconst (v := 0) hx hb d_M_start_46 (by decide) ?_
  refine lv_istore_n hx hb d_M_start_47 rfl hl (by decide) rfl (fun ls hl => ?_)
  have hl : lv_has ls 2 [(1, .int 0), (0, .ref h)] := hl
  have L48 : ∀ (k9 : Nat) (k : Nat) (k1 : k ≤ x.baseSeries) (hk9 : x.baseSeries - k = k9), ∀ (H : Heap) (locs : List Loc) (ls : Array Slot) (hP : va_P D vwCl (MW dA h ad (MS.s_horizon (MS.s_lasts (MS.s_seriesCount (MS.s_on (MS.s_cod x 0) true) x.baseSeries) (mapT k (fun _ => true) x.baseLasts x.lasts)) x.baseHorizon)) H) (hD : va_D A (MW dA h ad (MS.s_horizon (MS.s_lasts (MS.s_seriesCount (MS.s_on (MS.s_cod x 0) true) x.baseSeries) (mapT k (fun _ => true) x.baseLasts x.lasts)) x.baseHorizon))) (hS : va_S A s.heap H locs) (hl : lv_has ls 2 [(1, .int (nI k)), (0, .ref h)]), W p l e ({ frames := 3, cells := 0, slots := 0, locals := 48 } : Room) s m ([.ref h] : List Value).toArray below meth c H locs 0 0 (MQ below (va_Qi (fun (r9 : Int32) (u9 : MS) => r9 = nI x.kept ∧ u9 = x.st2.rpS fN x.kept) (fun (u9 : MS) t9 => bW D A (MW dA h ad u9) t9) A) ([.ref h] : List Value).toArray s 0 0 A) (F0 m 48 ls []) := by
    intro k9
    induction k9 using Nat.strongRecOn with
    | ind k9 ih48 =>
      intro k k1 hk9 H locs ls hP hD hS hl
      refine lv_iload_n hx hb d_M_start_48 rfl (lv_at hl 0 rfl) ?_
      refine lv_aload_n hx hb d_M_start_49 rfl (lv_at hl 1 rfl) ?_
      refine gF (v := .int (nI x.baseSeries)) hx hb hown hE hK hP 0 rfl rfl layM 12 (by decide) w332 rfl d_M_start_50 ?_
      refine lv_icmp_ge hx hb d_M_start_53 (tgt := 74) rfl (fun g17 => ?_) (fun g17 => ?_)
      · have g17 := (nI_leI (a := x.baseSeries) (b := k) (by omega) (by omega)).mp g17
        have e9 : (MS.s_horizon (MS.s_lasts (MS.s_seriesCount (MS.s_on (MS.s_cod x 0) true) x.baseSeries) (mapT k (fun _ => true) x.baseLasts x.lasts)) x.baseHorizon : MS) = MS.s_horizon (MS.s_lasts (MS.s_seriesCount (MS.s_on (MS.s_cod x 0) true) x.baseSeries) (mapT x.baseSeries (fun _ => true) x.baseLasts x.lasts)) x.baseHorizon := by rw [show (mapT x.baseSeries (fun _ => true) x.baseLasts x.lasts) = (mapT k (fun _ => true) x.baseLasts x.lasts) from (by rw [show k = x.baseSeries by omega])] <;> rfl
        exact J74  H _ ls (cvP e9 hP) (cvD e9 hD) hS (lv_sub hl [1] rfl)
      · have g17 := mt (nI_leI (a := x.baseSeries) (b := k) (by omega) (by omega)).mpr g17
        refine lv_aload_n hx hb d_M_start_56 rfl (lv_at hl 1 rfl) ?_
        refine gF (v := .ref (ad 13)) hx hb hown hE hK hP 0 rfl rfl layM 13 (by decide) w501 rfl d_M_start_57 ?_
        refine lv_iload_n hx hb d_M_start_60 rfl (lv_at hl 0 rfl) ?_
        refine lv_aload_n hx hb d_M_start_61 rfl (lv_at hl 1 rfl) ?_
        refine gF (v := .ref (ad 15)) hx hb hown hE hK hP 0 rfl rfl layM 15 (by decide) w502 rfl d_M_start_62 ?_
        refine lv_iload_n hx hb d_M_start_65 rfl (lv_at hl 0 rfl) ?_
        refine nlld (f := x.baseLasts) hx hb hK hP 5 2 rfl rfl (k) (by omega) (by decide) d_M_start_66 ?_
        refine nlst hx hb hK hP hD hS 4 2 rfl rfl (k) (by omega) (by decide) d_M_start_67 (fun H locs hP hD hS => ?_)
        have hP : va_P D vwCl (MW dA h ad (MS.s_horizon (MS.s_lasts (MS.s_seriesCount (MS.s_on (MS.s_cod x 0) true) x.baseSeries) (va_up (mapT k (fun _ => true) x.baseLasts x.lasts) k (x.baseLasts k))) x.baseHorizon)) H := hP
        have hD : va_D A (MW dA h ad (MS.s_horizon (MS.s_lasts (MS.s_seriesCount (MS.s_on (MS.s_cod x 0) true) x.baseSeries) (va_up (mapT k (fun _ => true) x.baseLasts x.lasts) k (x.baseLasts k))) x.baseHorizon)) := hD
        refine lv_iinc (k := 0) (v := nI (k + 1)) hx hb d_M_start_68 hl rfl (iincN (k) 1 1 (by decide)) (by decide) rfl (fun ls hl => ?_)
        have hl : lv_has ls 2 [(1, .int (nI (k + 1))), (0, .ref h)] := hl
        refine lv_goto hx hb d_M_start_71 (tgt := 48) rfl ?_
        have e9 : (MS.s_horizon (MS.s_lasts (MS.s_seriesCount (MS.s_on (MS.s_cod x 0) true) x.baseSeries) (va_up (mapT k (fun _ => true) x.baseLasts x.lasts) k (x.baseLasts k))) x.baseHorizon : MS) = MS.s_horizon (MS.s_lasts (MS.s_seriesCount (MS.s_on (MS.s_cod x 0) true) x.baseSeries) (mapT (k + 1) (fun _ => true) x.baseLasts x.lasts)) x.baseHorizon := by rw [show (mapT (k + 1) (fun _ => true) x.baseLasts x.lasts) = (va_up (mapT k (fun _ => true) x.baseLasts x.lasts) k (x.baseLasts k)) from (mapT_t rfl rfl)] <;> rfl
        exact ih48 _ (by omega) (k + 1) (by omega) rfl H _ ls (cvP e9 hP) (cvD e9 hD) hS (lv_sub hl [0, 1] rfl)
  have e9 : (MS.s_horizon (MS.s_seriesCount (MS.s_on (MS.s_cod x 0) true) x.baseSeries) x.baseHorizon : MS) = MS.s_horizon (MS.s_lasts (MS.s_seriesCount (MS.s_on (MS.s_cod x 0) true) x.baseSeries) (mapT 0 (fun _ => true) x.baseLasts x.lasts)) x.baseHorizon := by rw [show (mapT 0 (fun _ => true) x.baseLasts x.lasts) = x.lasts from (mapT_0 _ _ _)] <;> rfl
  exact L48 _ 0 (Nat.zero_le _) rfl H _ ls (cvP e9 hP) (cvD e9 hD) hS (lv_sub hl [0, 1] rfl)
end
section
def anyB (n : Nat) (f : Nat → Bool) : Bool := match n with
  | 0 => false
  | k + 1 => anyB k f || f k
theorem anyB_s (k : Nat) (f : Nat → Bool) : anyB (k + 1) f = (anyB k f || f k) := rfl
/-- reading labels from place q on, c of them read: a flaw (its number, its place), or the labels -/
def rdM (f : Nat → Int32) (len : Nat) : Nat → Nat → Nat → (Nat → Nat) → (Int32 × Nat) ⊕ (Nat × (Nat → Nat))
  | 0, q, _, _ => .inl (8, q)
  | w + 1, q, c, g =>
    if wlen f len 25 q = 0 then .inl (7, q) else if 24 < wlen f len 25 q then .inl (7, q + 24) else
    if len ≤ q + wlen f len 25 q then .inl (7, q + wlen f len 25 q) else if ¬ f (q + wlen f len 25 q) = 61 then .inl (7, q + wlen f len 25 q) else
    if (decide (c = 6) || anyB c (fun k => decide (cmpT f (g (4 * k)) (g (4 * k + 1)) q (wlen f len 25 q) = 0))) = true then .inl (8, q) else
    if wlen f len 25 (q + wlen f len 25 q + 1) = 0 then .inl (7, q + wlen f len 25 q + 1) else if 24 < wlen f len 25 (q + wlen f len 25 q + 1) then .inl (7, q + wlen f len 25 q + 1 + 24) else
    if q + wlen f len 25 q + 1 + wlen f len 25 (q + wlen f len 25 q + 1) = len then .inr (c + 1, va_up (va_up (va_up (va_up g (4 * c) q) (4 * c + 1) (wlen f len 25 q)) (4 * c + 2) (q + wlen f len 25 q + 1)) (4 * c + 3) (wlen f len 25 (q + wlen f len 25 q + 1))) else
    if ¬ f (q + wlen f len 25 q + 1 + wlen f len 25 (q + wlen f len 25 q + 1)) = 44 then .inl (7, q + wlen f len 25 q + 1 + wlen f len 25 (q + wlen f len 25 q + 1)) else
    rdM f len w (q + wlen f len 25 q + 1 + wlen f len 25 (q + wlen f len 25 q + 1) + 1) (c + 1) (va_up (va_up (va_up (va_up g (4 * c) q) (4 * c + 1) (wlen f len 25 q)) (4 * c + 2) (q + wlen f len 25 q + 1)) (4 * c + 3) (wlen f len 25 (q + wlen f len 25 q + 1)))
/-- one label, told with its lengths named -/
theorem rdM_s {f : Nat → Int32} {len w q c n v : Nat} {g : Nat → Nat} (hn : wlen f len 25 q = n) (hv : wlen f len 25 (q + n + 1) = v) : rdM f len (w + 1) q c g =
    (if n = 0 then .inl (7, q) else if 24 < n then .inl (7, q + 24) else if len ≤ q + n then .inl (7, q + n) else if ¬ f (q + n) = 61 then .inl (7, q + n) else
    if (decide (c = 6) || anyB c (fun k => decide (cmpT f (g (4 * k)) (g (4 * k + 1)) q n = 0))) = true then .inl (8, q) else
    if v = 0 then .inl (7, q + n + 1) else if 24 < v then .inl (7, q + n + 1 + 24) else
    if q + n + 1 + v = len then .inr (c + 1, va_up (va_up (va_up (va_up g (4 * c) q) (4 * c + 1) n) (4 * c + 2) (q + n + 1)) (4 * c + 3) v) else
    if ¬ f (q + n + 1 + v) = 44 then .inl (7, q + n + 1 + v) else
    rdM f len w (q + n + 1 + v + 1) (c + 1) (va_up (va_up (va_up (va_up g (4 * c) q) (4 * c + 1) n) (4 * c + 2) (q + n + 1)) (4 * c + 3) v)) := by
  subst hn
  subst hv
  rfl
theorem wlen_in {f : Nat → Int32} {len : Nat} : ∀ {w q : Nat}, q ≤ len → q + wlen f len w q ≤ len
  | 0, q, h => h
  | w + 1, q, h => by
    unfold wlen
    split
    · exact h
    · split
      · have := wlen_in (f := f) (len := len) (w := w) (q := q + 1) (by omega); omega
      · exact h
theorem lab_up {g : Nat → Nat} {c q n a b L : Nat} (h : ∀ k, k < c → g (4 * k) + g (4 * k + 1) ≤ L) (hq : q + n ≤ L) : ∀ k, k < c + 1 → (va_up (va_up (va_up (va_up g (4 * c) q) (4 * c + 1) n) (4 * c + 2) a) (4 * c + 3) b) (4 * k) + (va_up (va_up (va_up (va_up g (4 * c) q) (4 * c + 1) n) (4 * c + 2) a) (4 * c + 3) b) (4 * k + 1) ≤ L := by
  intro k hk
  unfold va_up
  by_cases e : k = c
  · subst e
    simp
    exact hq
  · have h1 : ¬ 4 * k = 4 * c + 3 := by omega
    have h2 : ¬ 4 * k = 4 * c + 2 := by omega
    have h3 : ¬ 4 * k = 4 * c + 1 := by omega
    have h4 : ¬ 4 * k = 4 * c := by omega
    have h5 : ¬ 4 * k + 1 = 4 * c + 3 := by omega
    have h6 : ¬ 4 * k + 1 = 4 * c + 2 := by omega
    have h7 : ¬ 4 * k + 1 = 4 * c + 1 := by omega
    have h8 : ¬ 4 * k + 1 = 4 * c := by omega
    simp only [if_neg h1, if_neg h2, if_neg h3, if_neg h4, if_neg h5, if_neg h6, if_neg h7, if_neg h8]
    exact h k (by omega)
def twB (f : Nat → Int32) (g : Nat → Nat) (q n z : Nat) : Bool := decide (cmpT f (g (4 * z)) (g (4 * z + 1)) q n = 0)
theorem d_M_readLabels_33 : decode prog_14_method_24_code 33 = .ok (.bipush 24, 2) := by decide +kernel
theorem d_M_readLabels_35 : decode prog_14_method_24_code 35 = .ok (.goto 4, 3) := by decide +kernel
theorem d_M_readLabels_17 : decode prog_14_method_24_code 17 = .ok (.iload_n 2, 1) := by decide +kernel
theorem d_M_readLabels_18 : decode prog_14_method_24_code 18 = .ok (.bipush 24, 2) := by decide +kernel
theorem d_M_readLabels_20 : decode prog_14_method_24_code 20 = .ok (.if_icmp .le 24, 3) := by decide +kernel
theorem d_M_readLabels_44 : decode prog_14_method_24_code 44 = .ok (.iload_n 1, 1) := by decide +kernel
theorem d_M_readLabels_45 : decode prog_14_method_24_code 45 = .ok (.iload_n 2, 1) := by decide +kernel
theorem d_M_readLabels_46 : decode prog_14_method_24_code 46 = .ok (.iadd, 1) := by decide +kernel
theorem d_M_readLabels_47 : decode prog_14_method_24_code 47 = .ok (.aload_n 0, 1) := by decide +kernel
theorem d_M_readLabels_48 : decode prog_14_method_24_code 48 = .ok (.getfield 148, 3) := by decide +kernel
theorem d_M_readLabels_51 : decode prog_14_method_24_code 51 = .ok (.if_icmp .ge 16, 3) := by decide +kernel
theorem d_M_readLabels_67 : decode prog_14_method_24_code 67 = .ok (.aload_n 0, 1) := by decide +kernel
theorem d_M_readLabels_68 : decode prog_14_method_24_code 68 = .ok (.bipush 7, 2) := by decide +kernel
theorem d_M_readLabels_70 : decode prog_14_method_24_code 70 = .ok (.iload_n 1, 1) := by decide +kernel
theorem d_M_readLabels_71 : decode prog_14_method_24_code 71 = .ok (.iload_n 2, 1) := by decide +kernel
theorem d_M_readLabels_72 : decode prog_14_method_24_code 72 = .ok (.iadd, 1) := by decide +kernel
theorem d_M_readLabels_73 : decode prog_14_method_24_code 73 = .ok (.invokevirtual 224, 3) := by decide +kernel
theorem d_M_readLabels_76 : decode prog_14_method_24_code 76 = .ok (.ireturn, 1) := by decide +kernel
theorem d_M_readLabels_54 : decode prog_14_method_24_code 54 = .ok (.aload_n 0, 1) := by decide +kernel
theorem d_M_readLabels_55 : decode prog_14_method_24_code 55 = .ok (.getfield 8, 3) := by decide +kernel
theorem d_M_readLabels_58 : decode prog_14_method_24_code 58 = .ok (.iload_n 1, 1) := by decide +kernel
theorem d_M_readLabels_59 : decode prog_14_method_24_code 59 = .ok (.iload_n 2, 1) := by decide +kernel
theorem d_M_readLabels_60 : decode prog_14_method_24_code 60 = .ok (.iadd, 1) := by decide +kernel
theorem d_M_readLabels_61 : decode prog_14_method_24_code 61 = .ok (.baload, 1) := by decide +kernel
theorem d_M_readLabels_62 : decode prog_14_method_24_code 62 = .ok (.bipush 61, 2) := by decide +kernel
theorem d_M_readLabels_64 : decode prog_14_method_24_code 64 = .ok (.if_icmp .eq 13, 3) := by decide +kernel
theorem d_M_readLabels_91 : decode prog_14_method_24_code 91 = .ok (.istore_n 3, 1) := by decide +kernel
theorem d_M_readLabels_149 : decode prog_14_method_24_code 149 = .ok (.iload_n 3, 1) := by decide +kernel
theorem d_M_readLabels_150 : decode prog_14_method_24_code 150 = .ok (.ifCond .eq 11, 3) := by decide +kernel
theorem d_M_readLabels_161 : decode prog_14_method_24_code 161 = .ok (.iload_n 1, 1) := by decide +kernel
theorem d_M_readLabels_162 : decode prog_14_method_24_code 162 = .ok (.iload_n 2, 1) := by decide +kernel
theorem d_M_readLabels_163 : decode prog_14_method_24_code 163 = .ok (.iadd, 1) := by decide +kernel
theorem d_M_readLabels_164 : decode prog_14_method_24_code 164 = .ok (.iconst 1, 1) := by decide +kernel
theorem d_M_readLabels_165 : decode prog_14_method_24_code 165 = .ok (.iadd, 1) := by decide +kernel
theorem d_M_readLabels_166 : decode prog_14_method_24_code 166 = .ok (.istore 4, 2) := by decide +kernel
theorem d_M_readLabels_168 : decode prog_14_method_24_code 168 = .ok (.aload_n 0, 1) := by decide +kernel
theorem d_M_readLabels_169 : decode prog_14_method_24_code 169 = .ok (.iload 4, 2) := by decide +kernel
theorem d_M_readLabels_171 : decode prog_14_method_24_code 171 = .ok (.invokevirtual 220, 3) := by decide +kernel
theorem d_M_readLabels_174 : decode prog_14_method_24_code 174 = .ok (.istore 5, 2) := by decide +kernel
theorem d_M_readLabels_176 : decode prog_14_method_24_code 176 = .ok (.iload 5, 2) := by decide +kernel
theorem d_M_readLabels_178 : decode prog_14_method_24_code 178 = .ok (.ifCond .eq 10, 3) := by decide +kernel
theorem d_M_readLabels_188 : decode prog_14_method_24_code 188 = .ok (.aload_n 0, 1) := by decide +kernel
theorem d_M_readLabels_189 : decode prog_14_method_24_code 189 = .ok (.bipush 7, 2) := by decide +kernel
theorem d_M_readLabels_191 : decode prog_14_method_24_code 191 = .ok (.iload 4, 2) := by decide +kernel
theorem d_M_readLabels_193 : decode prog_14_method_24_code 193 = .ok (.iload 5, 2) := by decide +kernel
theorem d_M_readLabels_195 : decode prog_14_method_24_code 195 = .ok (.bipush 24, 2) := by decide +kernel
theorem d_M_readLabels_197 : decode prog_14_method_24_code 197 = .ok (.if_icmp .le 8, 3) := by decide +kernel
theorem d_M_readLabels_205 : decode prog_14_method_24_code 205 = .ok (.iconst 0, 1) := by decide +kernel
theorem d_M_readLabels_206 : decode prog_14_method_24_code 206 = .ok (.iadd, 1) := by decide +kernel
theorem d_M_readLabels_207 : decode prog_14_method_24_code 207 = .ok (.invokevirtual 224, 3) := by decide +kernel
theorem d_M_readLabels_210 : decode prog_14_method_24_code 210 = .ok (.ireturn, 1) := by decide +kernel
theorem d_M_readLabels_200 : decode prog_14_method_24_code 200 = .ok (.bipush 24, 2) := by decide +kernel
theorem d_M_readLabels_202 : decode prog_14_method_24_code 202 = .ok (.goto 4, 3) := by decide +kernel
theorem d_M_readLabels_181 : decode prog_14_method_24_code 181 = .ok (.iload 5, 2) := by decide +kernel
theorem d_M_readLabels_183 : decode prog_14_method_24_code 183 = .ok (.bipush 24, 2) := by decide +kernel
theorem d_M_readLabels_185 : decode prog_14_method_24_code 185 = .ok (.if_icmp .le 26, 3) := by decide +kernel
theorem d_M_readLabels_211 : decode prog_14_method_24_code 211 = .ok (.aload_n 0, 1) := by decide +kernel
theorem d_M_readLabels_212 : decode prog_14_method_24_code 212 = .ok (.getfield 85, 3) := by decide +kernel
theorem d_M_readLabels_215 : decode prog_14_method_24_code 215 = .ok (.iconst 4, 1) := by decide +kernel
theorem d_M_readLabels_216 : decode prog_14_method_24_code 216 = .ok (.aload_n 0, 1) := by decide +kernel
theorem d_M_readLabels_217 : decode prog_14_method_24_code 217 = .ok (.getfield 217, 3) := by decide +kernel
theorem d_M_readLabels_220 : decode prog_14_method_24_code 220 = .ok (.imul, 1) := by decide +kernel
theorem d_M_readLabels_221 : decode prog_14_method_24_code 221 = .ok (.iload_n 1, 1) := by decide +kernel
theorem d_M_readLabels_222 : decode prog_14_method_24_code 222 = .ok (.iastore, 1) := by decide +kernel
theorem d_M_readLabels_223 : decode prog_14_method_24_code 223 = .ok (.aload_n 0, 1) := by decide +kernel
theorem d_M_readLabels_224 : decode prog_14_method_24_code 224 = .ok (.getfield 85, 3) := by decide +kernel
theorem d_M_readLabels_227 : decode prog_14_method_24_code 227 = .ok (.iconst 4, 1) := by decide +kernel
theorem d_M_readLabels_228 : decode prog_14_method_24_code 228 = .ok (.aload_n 0, 1) := by decide +kernel
theorem d_M_readLabels_229 : decode prog_14_method_24_code 229 = .ok (.getfield 217, 3) := by decide +kernel
theorem d_M_readLabels_232 : decode prog_14_method_24_code 232 = .ok (.imul, 1) := by decide +kernel
theorem d_M_readLabels_233 : decode prog_14_method_24_code 233 = .ok (.iconst 1, 1) := by decide +kernel
theorem d_M_readLabels_234 : decode prog_14_method_24_code 234 = .ok (.iadd, 1) := by decide +kernel
theorem d_M_readLabels_235 : decode prog_14_method_24_code 235 = .ok (.iload_n 2, 1) := by decide +kernel
theorem d_M_readLabels_236 : decode prog_14_method_24_code 236 = .ok (.iastore, 1) := by decide +kernel
theorem d_M_readLabels_237 : decode prog_14_method_24_code 237 = .ok (.aload_n 0, 1) := by decide +kernel
theorem d_M_readLabels_238 : decode prog_14_method_24_code 238 = .ok (.getfield 85, 3) := by decide +kernel
theorem d_M_readLabels_241 : decode prog_14_method_24_code 241 = .ok (.iconst 4, 1) := by decide +kernel
theorem d_M_readLabels_242 : decode prog_14_method_24_code 242 = .ok (.aload_n 0, 1) := by decide +kernel
theorem d_M_readLabels_243 : decode prog_14_method_24_code 243 = .ok (.getfield 217, 3) := by decide +kernel
theorem d_M_readLabels_246 : decode prog_14_method_24_code 246 = .ok (.imul, 1) := by decide +kernel
theorem d_M_readLabels_247 : decode prog_14_method_24_code 247 = .ok (.iconst 2, 1) := by decide +kernel
theorem d_M_readLabels_248 : decode prog_14_method_24_code 248 = .ok (.iadd, 1) := by decide +kernel
theorem d_M_readLabels_249 : decode prog_14_method_24_code 249 = .ok (.iload 4, 2) := by decide +kernel
theorem d_M_readLabels_251 : decode prog_14_method_24_code 251 = .ok (.iastore, 1) := by decide +kernel
theorem d_M_readLabels_252 : decode prog_14_method_24_code 252 = .ok (.aload_n 0, 1) := by decide +kernel
theorem d_M_readLabels_253 : decode prog_14_method_24_code 253 = .ok (.getfield 85, 3) := by decide +kernel
theorem d_M_readLabels_256 : decode prog_14_method_24_code 256 = .ok (.iconst 4, 1) := by decide +kernel
theorem d_M_readLabels_257 : decode prog_14_method_24_code 257 = .ok (.aload_n 0, 1) := by decide +kernel
theorem d_M_readLabels_258 : decode prog_14_method_24_code 258 = .ok (.getfield 217, 3) := by decide +kernel
theorem d_M_readLabels_261 : decode prog_14_method_24_code 261 = .ok (.imul, 1) := by decide +kernel
theorem d_M_readLabels_262 : decode prog_14_method_24_code 262 = .ok (.iconst 3, 1) := by decide +kernel
theorem d_M_readLabels_263 : decode prog_14_method_24_code 263 = .ok (.iadd, 1) := by decide +kernel
theorem d_M_readLabels_264 : decode prog_14_method_24_code 264 = .ok (.iload 5, 2) := by decide +kernel
theorem d_M_readLabels_266 : decode prog_14_method_24_code 266 = .ok (.iastore, 1) := by decide +kernel
theorem d_M_readLabels_267 : decode prog_14_method_24_code 267 = .ok (.aload_n 0, 1) := by decide +kernel
theorem d_M_readLabels_268 : decode prog_14_method_24_code 268 = .ok (.dup, 1) := by decide +kernel
theorem d_M_readLabels_269 : decode prog_14_method_24_code 269 = .ok (.getfield 217, 3) := by decide +kernel
theorem d_M_readLabels_272 : decode prog_14_method_24_code 272 = .ok (.iconst 1, 1) := by decide +kernel
theorem d_M_readLabels_273 : decode prog_14_method_24_code 273 = .ok (.iadd, 1) := by decide +kernel
theorem d_M_readLabels_274 : decode prog_14_method_24_code 274 = .ok (.putfield 217, 3) := by decide +kernel
theorem d_M_readLabels_277 : decode prog_14_method_24_code 277 = .ok (.iload 4, 2) := by decide +kernel
theorem d_M_readLabels_279 : decode prog_14_method_24_code 279 = .ok (.iload 5, 2) := by decide +kernel
theorem d_M_readLabels_281 : decode prog_14_method_24_code 281 = .ok (.iadd, 1) := by decide +kernel
theorem d_M_readLabels_282 : decode prog_14_method_24_code 282 = .ok (.istore_n 1, 1) := by decide +kernel
theorem d_M_readLabels_283 : decode prog_14_method_24_code 283 = .ok (.iload_n 1, 1) := by decide +kernel
theorem d_M_readLabels_284 : decode prog_14_method_24_code 284 = .ok (.aload_n 0, 1) := by decide +kernel
theorem d_M_readLabels_285 : decode prog_14_method_24_code 285 = .ok (.getfield 148, 3) := by decide +kernel
theorem d_M_readLabels_288 : decode prog_14_method_24_code 288 = .ok (.if_icmp .ne 5, 3) := by decide +kernel
theorem d_M_readLabels_293 : decode prog_14_method_24_code 293 = .ok (.aload_n 0, 1) := by decide +kernel
theorem d_M_readLabels_294 : decode prog_14_method_24_code 294 = .ok (.getfield 8, 3) := by decide +kernel
theorem d_M_readLabels_297 : decode prog_14_method_24_code 297 = .ok (.iload_n 1, 1) := by decide +kernel
theorem d_M_readLabels_298 : decode prog_14_method_24_code 298 = .ok (.baload, 1) := by decide +kernel
theorem d_M_readLabels_299 : decode prog_14_method_24_code 299 = .ok (.bipush 44, 2) := by decide +kernel
theorem d_M_readLabels_301 : decode prog_14_method_24_code 301 = .ok (.if_icmp .eq 11, 3) := by decide +kernel
theorem d_M_readLabels_312 : decode prog_14_method_24_code 312 = .ok (.iinc 1 1, 3) := by decide +kernel
theorem d_M_readLabels_315 : decode prog_14_method_24_code 315 = .ok (.goto (-308), 3) := by decide +kernel
theorem d_M_readLabels_304 : decode prog_14_method_24_code 304 = .ok (.aload_n 0, 1) := by decide +kernel
theorem d_M_readLabels_305 : decode prog_14_method_24_code 305 = .ok (.bipush 7, 2) := by decide +kernel
theorem d_M_readLabels_307 : decode prog_14_method_24_code 307 = .ok (.iload_n 1, 1) := by decide +kernel
theorem d_M_readLabels_308 : decode prog_14_method_24_code 308 = .ok (.invokevirtual 224, 3) := by decide +kernel
theorem d_M_readLabels_311 : decode prog_14_method_24_code 311 = .ok (.ireturn, 1) := by decide +kernel
theorem d_M_readLabels_291 : decode prog_14_method_24_code 291 = .ok (.iconst 1, 1) := by decide +kernel
theorem d_M_readLabels_292 : decode prog_14_method_24_code 292 = .ok (.ireturn, 1) := by decide +kernel
theorem d_M_readLabels_153 : decode prog_14_method_24_code 153 = .ok (.aload_n 0, 1) := by decide +kernel
theorem d_M_readLabels_154 : decode prog_14_method_24_code 154 = .ok (.bipush 8, 2) := by decide +kernel
theorem d_M_readLabels_156 : decode prog_14_method_24_code 156 = .ok (.iload_n 1, 1) := by decide +kernel
theorem d_M_readLabels_157 : decode prog_14_method_24_code 157 = .ok (.invokevirtual 224, 3) := by decide +kernel
theorem d_M_readLabels_160 : decode prog_14_method_24_code 160 = .ok (.ireturn, 1) := by decide +kernel
theorem d_M_readLabels_92 : decode prog_14_method_24_code 92 = .ok (.iconst 0, 1) := by decide +kernel
theorem d_M_readLabels_93 : decode prog_14_method_24_code 93 = .ok (.istore 4, 2) := by decide +kernel
theorem d_M_readLabels_95 : decode prog_14_method_24_code 95 = .ok (.iload 4, 2) := by decide +kernel
theorem d_M_readLabels_97 : decode prog_14_method_24_code 97 = .ok (.aload_n 0, 1) := by decide +kernel
theorem d_M_readLabels_98 : decode prog_14_method_24_code 98 = .ok (.getfield 217, 3) := by decide +kernel
theorem d_M_readLabels_101 : decode prog_14_method_24_code 101 = .ok (.if_icmp .ge 48, 3) := by decide +kernel
theorem d_M_readLabels_104 : decode prog_14_method_24_code 104 = .ok (.iload_n 3, 1) := by decide +kernel
theorem d_M_readLabels_105 : decode prog_14_method_24_code 105 = .ok (.ifCond .ne 32, 3) := by decide +kernel
theorem d_M_readLabels_137 : decode prog_14_method_24_code 137 = .ok (.iconst 1, 1) := by decide +kernel
theorem d_M_readLabels_138 : decode prog_14_method_24_code 138 = .ok (.goto 4, 3) := by decide +kernel
theorem d_M_readLabels_142 : decode prog_14_method_24_code 142 = .ok (.istore_n 3, 1) := by decide +kernel
theorem d_M_readLabels_143 : decode prog_14_method_24_code 143 = .ok (.iinc 4 1, 3) := by decide +kernel
theorem d_M_readLabels_146 : decode prog_14_method_24_code 146 = .ok (.goto (-51), 3) := by decide +kernel
theorem d_M_readLabels_108 : decode prog_14_method_24_code 108 = .ok (.aload_n 0, 1) := by decide +kernel
theorem d_M_readLabels_109 : decode prog_14_method_24_code 109 = .ok (.aload_n 0, 1) := by decide +kernel
theorem d_M_readLabels_110 : decode prog_14_method_24_code 110 = .ok (.getfield 85, 3) := by decide +kernel
theorem d_M_readLabels_113 : decode prog_14_method_24_code 113 = .ok (.iconst 4, 1) := by decide +kernel
theorem d_M_readLabels_114 : decode prog_14_method_24_code 114 = .ok (.iload 4, 2) := by decide +kernel
theorem d_M_readLabels_116 : decode prog_14_method_24_code 116 = .ok (.imul, 1) := by decide +kernel
theorem d_M_readLabels_117 : decode prog_14_method_24_code 117 = .ok (.iaload, 1) := by decide +kernel
theorem d_M_readLabels_118 : decode prog_14_method_24_code 118 = .ok (.aload_n 0, 1) := by decide +kernel
theorem d_M_readLabels_119 : decode prog_14_method_24_code 119 = .ok (.getfield 85, 3) := by decide +kernel
theorem d_M_readLabels_122 : decode prog_14_method_24_code 122 = .ok (.iconst 4, 1) := by decide +kernel
theorem d_M_readLabels_123 : decode prog_14_method_24_code 123 = .ok (.iload 4, 2) := by decide +kernel
theorem d_M_readLabels_125 : decode prog_14_method_24_code 125 = .ok (.imul, 1) := by decide +kernel
theorem d_M_readLabels_126 : decode prog_14_method_24_code 126 = .ok (.iconst 1, 1) := by decide +kernel
theorem d_M_readLabels_127 : decode prog_14_method_24_code 127 = .ok (.iadd, 1) := by decide +kernel
theorem d_M_readLabels_128 : decode prog_14_method_24_code 128 = .ok (.iaload, 1) := by decide +kernel
theorem d_M_readLabels_129 : decode prog_14_method_24_code 129 = .ok (.iload_n 1, 1) := by decide +kernel
theorem d_M_readLabels_130 : decode prog_14_method_24_code 130 = .ok (.iload_n 2, 1) := by decide +kernel
theorem d_M_readLabels_131 : decode prog_14_method_24_code 131 = .ok (.invokevirtual 228, 3) := by decide +kernel
theorem d_M_readLabels_134 : decode prog_14_method_24_code 134 = .ok (.ifCond .ne 7, 3) := by decide +kernel
theorem d_M_readLabels_141 : decode prog_14_method_24_code 141 = .ok (.iconst 0, 1) := by decide +kernel
theorem d_M_readLabels_77 : decode prog_14_method_24_code 77 = .ok (.aload_n 0, 1) := by decide +kernel
theorem d_M_readLabels_78 : decode prog_14_method_24_code 78 = .ok (.getfield 217, 3) := by decide +kernel
theorem d_M_readLabels_81 : decode prog_14_method_24_code 81 = .ok (.bipush 6, 2) := by decide +kernel
theorem d_M_readLabels_83 : decode prog_14_method_24_code 83 = .ok (.if_icmp .ne 7, 3) := by decide +kernel
theorem d_M_readLabels_90 : decode prog_14_method_24_code 90 = .ok (.iconst 0, 1) := by decide +kernel
theorem d_M_readLabels_86 : decode prog_14_method_24_code 86 = .ok (.iconst 1, 1) := by decide +kernel
theorem d_M_readLabels_87 : decode prog_14_method_24_code 87 = .ok (.goto 4, 3) := by decide +kernel
theorem w938 : Cond.methodLink "SeriesVaultModel" 228 ⟨"SeriesVaultModel", "compare", "(IIII)I"⟩ ∈ aW := aw_of (tb_9 (List.mem_of_getElem? (i := 211) rfl)) rfl
theorem w939 : Cond.code ⟨"SeriesVaultModel", "compare", "(IIII)I"⟩ prog_14_method_23_code 6 (some FieldType.int) ∈ aW := aw_of (tb_9 (List.mem_of_getElem? (i := 214) rfl)) rfl
theorem w940 : Cond.instanceMethod ⟨"SeriesVaultModel", "compare", "(IIII)I"⟩ ∈ aW := aw_of (tb_9 (List.mem_of_getElem? (i := 213) rfl)) rfl
theorem w941 : Cond.selects "SeriesVaultModel" ⟨"SeriesVaultModel", "compare", "(IIII)I"⟩ ⟨"SeriesVaultModel", "compare", "(IIII)I"⟩ ∈ aW := aw_pr (List.mem_map.mpr ⟨_, pv_5 (List.mem_of_getElem? (i := 6) rfl), rfl⟩) rfl
set_option maxHeartbeats 4000000 in
set_option maxRecDepth 100000 in
theorem k_readLabels_0 (l : Launch) (D : va_G) (dA : Nat → ClassId) (sz : Nat) (h : Nat) (ad : Nat → Nat) (x : MS) (c0 : Nat) (g0 : Nat → Nat) (hl1 : x.length ≤ 65536) (hf : x.faultCode = 0) (hrd : rdM x.tape x.length 7 0 0 x.labels = .inr (c0, g0)) : Met l ⟨"SeriesVaultModel", "readLabels", "()Z"⟩ [Cond.code ⟨"SeriesVaultModel", "readLabels", "()Z"⟩ prog_14_method_24_code 6 (some FieldType.boolean)] { frames := 3, cells := 0, slots := 0, locals := 42 } (pC D dA [.ref h] (MW dA h ad x) sz) (va_Qi (fun (r9 : Int32) (u9 : MS) => r9 = bI true ∧ u9 = (x.s_labels g0).s_labelCount c0) (fun (u9 : MS) t9 => bW D (va_A (MW dA h ad x) sz) (MW dA h ad u9) t9) (va_A (MW dA h ad x) sz)) 0 0 (va_A (MW dA h ad x) sz) := by
  refine mkC (y := ⟨"SeriesVaultModel", "readLabels", "()Z"⟩) (cc := prog_14_method_24_code) (maxL := 6) (av := [.ref h]) (ws := MW dA h ad x) (sz := sz) (Qc := fun A => va_Qi (fun (r9 : Int32) (u9 : MS) => r9 = bI true ∧ u9 = (x.s_labels g0).s_labelCount c0) (fun (u9 : MS) t9 => bW D A (MW dA h ad u9) t9) A) (by decide) (Nat.le_of_ble_eq_true rfl) ?_
  intro A p e s m below meth c ls hsz hB
  obtain ⟨hx, hb, hr, hml, hown, hin, hlk, hE, hK, hP, hD, hS, hA, hN, hl⟩ := hB
  have hown : s.vm.findClass "SeriesVaultModel" = some m.cls := hown
  have hl : lv_has ls 6 [(0, .ref h)] := hl
  obtain ⟨H, hH⟩ : ∃ z, z = s.heap := ⟨_, rfl⟩
  have hP : va_P D vwCl (MW dA h ad x) H := by rw [hH]; exact hP
  have hS : va_S A s.heap H [] := by rw [hH]; exact hS
  rw [← hH]
  refine lv_aload_n hx hb d_M_readLabels_0 rfl (lv_at hl 0 rfl) ?_
  refine lv_iconst (v := 0) hx hb d_M_readLabels_1 (by decide) ?_
  refine pF (v := .int (nI 0)) hx hb hown hE hK hP hD hS 0 rfl rfl layM tyM tokM nmM 43 (by decide) w425 rfl rfl rfl (Nat.le_of_ble_eq_true rfl) d_M_readLabels_2 (fun H locs hP hD hS => ?_)
  have hP : va_P D vwCl (MW dA h ad (MS.s_labelCount x 0)) H := hP
  have hD : va_D A (MW dA h ad (MS.s_labelCount x 0)) := hD
  refine lv_iconst (v := 0) hx hb d_M_readLabels_5 (by decide) ?_
  refine lv_istore_n hx hb d_M_readLabels_6 rfl hl (by decide) rfl (fun ls hl => ?_)
  have hl : lv_has ls 6 [(1, .int 0), (0, .ref h)] := hl
  have L7 : ∀ (k9 : Nat) (w : Nat) (q : Nat) (c9 : Nat) (g : Nat → Nat) (i1 : rdM x.tape x.length w q c9 g = .inr (c0, g0)) (i2 : c9 + w = 7) (i5 : c9 ≤ 6) (i3 : q ≤ x.length) (i4 : ∀ k, k < c9 → g (4 * k) + g (4 * k + 1) ≤ x.length) (hk9 : w = k9), ∀ (H : Heap) (locs : List Loc) (ls : Array Slot) (hP : va_P D vwCl (MW dA h ad (MS.s_labelCount (MS.s_labels x g) c9)) H) (hD : va_D A (MW dA h ad (MS.s_labelCount (MS.s_labels x g) c9))) (hS : va_S A s.heap H locs) (hl : lv_has ls 6 [(1, .int (nI q)), (0, .ref h)]), W p l e ({ frames := 3, cells := 0, slots := 0, locals := 42 } : Room) s m ([.ref h] : List Value).toArray below meth c H locs 0 0 (MQ below (va_Qi (fun (r9 : Int32) (u9 : MS) => r9 = bI true ∧ u9 = (x.s_labels g0).s_labelCount c0) (fun (u9 : MS) t9 => bW D A (MW dA h ad u9) t9) A) ([.ref h] : List Value).toArray s 0 0 A) (F0 m 7 ls []) := by
    intro k9
    induction k9 using Nat.strongRecOn with
    | ind k9 ih7 =>
      intro w q c9 g i1 i2 i5 i3 i4 hk9 H locs ls hP hD hS hl
      obtain ⟨n, hn⟩ : ∃ n, wlen x.tape x.length 25 q = n := ⟨_, rfl⟩
      obtain ⟨v, hv⟩ : ∃ v, wlen x.tape x.length 25 (q + n + 1) = v := ⟨_, rfl⟩
      have n1 : n ≤ 25 := by rw [← hn]; exact wlen_le _ _ _ _
      have n2 : q + n ≤ x.length := by rw [← hn]; exact wlen_in i3
      have v1 : v ≤ 25 := by rw [← hv]; exact wlen_le _ _ _ _
      have v2 : q + n + 1 ≤ x.length → q + n + 1 + v ≤ x.length := fun z => by rw [← hv]; exact wlen_in z
      obtain ⟨w, rfl⟩ : ∃ z, w = z + 1 := ⟨w - 1, by omega⟩
      rw [rdM_s hn hv] at i1
      refine lv_aload_n hx hb d_M_readLabels_7 rfl (lv_at hl 1 rfl) ?_
      refine lv_iload_n hx hb d_M_readLabels_8 rfl (lv_at hl 0 rfl) ?_
      refine jfI (rnV (As := [.int (nI q)]) (rest := []) hx hb hml hown hE hK (hN _ _ hS) hP hD (k_wordLength l D dA H.size h ad (MS.s_labelCount (MS.s_labels x g) c9) q (show q ≤ 131072 from by omega) (show x.length ≤ 65536 from by omega)) (q0 := 0) rfl rfl w427 w426 w428 w429 w328 rfl rfl ⟨⟨by decide, by decide⟩, rfl⟩ ⟨(Nat.le_of_ble_eq_true rfl), (Nat.le_of_ble_eq_true rfl)⟩ rfl hl.1 rfl (Nat.le_of_ble_eq_true rfl) d_M_readLabels_9 ⟨(Nat.le_of_ble_eq_true rfl), (Nat.le_of_ble_eq_true rfl)⟩) hP hD hS hA (fun r1 u2 H locs hp9 hP hD hS => ?_)
      have hP : va_P D vwCl (MW dA h ad (MS.s_labelCount (MS.s_labels x g) c9)) H := hP
      have hD : va_D A (MW dA h ad (MS.s_labelCount (MS.s_labels x g) c9)) := hD
      replace hp9 : nI (wlen x.tape x.length 25 q) = r1 := Eq.symm hp9
      subst hp9
      refine tpi (y := nI n) (congrArg nI hn) ?_
      refine lv_istore_n hx hb d_M_readLabels_12 rfl hl (by decide) rfl (fun ls hl => ?_)
      have hl : lv_has ls 6 [(2, .int (nI n)), (1, .int (nI q)), (0, .ref h)] := hl
      refine lv_iload_n hx hb d_M_readLabels_13 rfl (lv_at hl 0 rfl) ?_
      refine lv_if_eq hx hb d_M_readLabels_14 (tgt := 23) rfl (fun g3 => ?_) (fun g3 => ?_)
      · have g3 := (nI_eq (a := n) (b := 0) (by omega) (by decide)).mp g3
        refine lv_aload_n hx hb d_M_readLabels_23 rfl (lv_at hl 2 rfl) ?_
        refine lv_bipush (v := 7) hx hb d_M_readLabels_24 (by decide) ?_
        refine lv_iload_n hx hb d_M_readLabels_26 rfl (lv_at hl 1 rfl) ?_
        refine lv_iload_n hx hb d_M_readLabels_27 rfl (lv_at hl 0 rfl) ?_
        refine lv_bipush (v := 24) hx hb d_M_readLabels_28 (by decide) ?_
        refine lv_icmp_le hx hb d_M_readLabels_30 (tgt := 38) rfl (fun g4 => ?_) (fun g4 => ?_)
        · have g4 := (nI_leI (a := n) (b := 24) (by omega) (by omega)).mp g4
          refine lv_iconst (v := 0) hx hb d_M_readLabels_38 (by decide) ?_
          refine lv_iadd hx hb d_M_readLabels_39 (tpi (y := nI (q)) (nI_add (q) (0)) ?_)
          refine jfI (rnV (As := [.int 7, .int (nI (q))]) (rest := []) hx hb hml hown hE hK (hN _ _ hS) hP hD (k_flaw_0 l D dA H.size h ad (MS.s_labelCount (MS.s_labels x g) c9) 7 (nI (q)) hf) (q0 := 0) rfl rfl w431 w430 w432 w433 w328 rfl rfl ⟨⟨by decide, by decide⟩, rfl⟩ ⟨(Nat.le_of_ble_eq_true rfl), (Nat.le_of_ble_eq_true rfl)⟩ rfl hl.1 rfl (Nat.le_of_ble_eq_true rfl) d_M_readLabels_40 ⟨(Nat.le_of_ble_eq_true rfl), (Nat.le_of_ble_eq_true rfl)⟩) hP hD hS hA (fun r5 u6 H locs hp9 hP hD hS => ?_)
          have hP : va_P D vwCl (MW dA h ad (MS.s_labelCount (MS.s_labels (MS.s_faultPlace (MS.s_faultCode x 7) (nI (q))) g) c9)) H := hP
          have hD : va_D A (MW dA h ad (MS.s_labelCount (MS.s_labels (MS.s_faultPlace (MS.s_faultCode x 7) (nI (q))) g) c9)) := hD
          replace hp9 : bI false = r5 := Eq.symm hp9
          subst hp9
          exact rfZ hx hb hr (bI_nar false) hlk hS (MS.s_labelCount (MS.s_labels (MS.s_faultPlace (MS.s_faultCode x 7) (nI (q))) g) c9) (by exfalso; rw [if_pos g3] at i1; cases i1) hP hD (Nat.le_of_ble_eq_true rfl) (Nat.le_of_ble_eq_true rfl) d_M_readLabels_43
        · have g4 := mt (nI_leI (a := n) (b := 24) (by omega) (by omega)).mpr g4
          refine lv_bipush (v := 24) hx hb d_M_readLabels_33 (by decide) ?_
          refine lv_goto hx hb d_M_readLabels_35 (tgt := 39) rfl ?_
          refine lv_iadd hx hb d_M_readLabels_39 (tpi (y := nI (q + 24)) (nI_add (q) (24)) ?_)
          refine jfI (rnV (As := [.int 7, .int (nI (q + 24))]) (rest := []) hx hb hml hown hE hK (hN _ _ hS) hP hD (k_flaw_0 l D dA H.size h ad (MS.s_labelCount (MS.s_labels x g) c9) 7 (nI (q + 24)) hf) (q0 := 0) rfl rfl w431 w430 w432 w433 w328 rfl rfl ⟨⟨by decide, by decide⟩, rfl⟩ ⟨(Nat.le_of_ble_eq_true rfl), (Nat.le_of_ble_eq_true rfl)⟩ rfl hl.1 rfl (Nat.le_of_ble_eq_true rfl) d_M_readLabels_40 ⟨(Nat.le_of_ble_eq_true rfl), (Nat.le_of_ble_eq_true rfl)⟩) hP hD hS hA (fun r7 u8 H locs hp9 hP hD hS => ?_)
          have hP : va_P D vwCl (MW dA h ad (MS.s_labelCount (MS.s_labels (MS.s_faultPlace (MS.s_faultCode x 7) (nI (q + 24))) g) c9)) H := hP
          have hD : va_D A (MW dA h ad (MS.s_labelCount (MS.s_labels (MS.s_faultPlace (MS.s_faultCode x 7) (nI (q + 24))) g) c9)) := hD
          replace hp9 : bI false = r7 := Eq.symm hp9
          subst hp9
          exact rfZ hx hb hr (bI_nar false) hlk hS (MS.s_labelCount (MS.s_labels (MS.s_faultPlace (MS.s_faultCode x 7) (nI (q + 24))) g) c9) (by exfalso; omega) hP hD (Nat.le_of_ble_eq_true rfl) (Nat.le_of_ble_eq_true rfl) d_M_readLabels_43
      · have g3 := mt (nI_eq (a := n) (b := 0) (by omega) (by decide)).mpr g3
        refine lv_iload_n hx hb d_M_readLabels_17 rfl (lv_at hl 0 rfl) ?_
        refine lv_bipush (v := 24) hx hb d_M_readLabels_18 (by decide) ?_
        refine lv_icmp_le hx hb d_M_readLabels_20 (tgt := 44) rfl (fun g9 => ?_) (fun g9 => ?_)
        · have g9 := (nI_leI (a := n) (b := 24) (by omega) (by omega)).mp g9
          refine lv_iload_n hx hb d_M_readLabels_44 rfl (lv_at hl 1 rfl) ?_
          refine lv_iload_n hx hb d_M_readLabels_45 rfl (lv_at hl 0 rfl) ?_
          refine lv_iadd hx hb d_M_readLabels_46 (tpi (y := nI (q + n)) (nI_add (q) (n)) ?_)
          refine lv_aload_n hx hb d_M_readLabels_47 rfl (lv_at hl 2 rfl) ?_
          refine gF (v := .int (nI x.length)) hx hb hown hE hK hP 0 rfl rfl layM 2 (by decide) w320 rfl d_M_readLabels_48 ?_
          refine lv_icmp_ge hx hb d_M_readLabels_51 (tgt := 67) rfl (fun g10 => ?_) (fun g10 => ?_)
          · have g10 := (nI_leI (a := x.length) (b := q + n) (by omega) (by omega)).mp g10
            refine lv_aload_n hx hb d_M_readLabels_67 rfl (lv_at hl 2 rfl) ?_
            refine lv_bipush (v := 7) hx hb d_M_readLabels_68 (by decide) ?_
            refine lv_iload_n hx hb d_M_readLabels_70 rfl (lv_at hl 1 rfl) ?_
            refine lv_iload_n hx hb d_M_readLabels_71 rfl (lv_at hl 0 rfl) ?_
            refine lv_iadd hx hb d_M_readLabels_72 (tpi (y := nI (q + n)) (nI_add (q) (n)) ?_)
            refine jfI (rnV (As := [.int 7, .int (nI (q + n))]) (rest := []) hx hb hml hown hE hK (hN _ _ hS) hP hD (k_flaw_0 l D dA H.size h ad (MS.s_labelCount (MS.s_labels x g) c9) 7 (nI (q + n)) hf) (q0 := 0) rfl rfl w431 w430 w432 w433 w328 rfl rfl ⟨⟨by decide, by decide⟩, rfl⟩ ⟨(Nat.le_of_ble_eq_true rfl), (Nat.le_of_ble_eq_true rfl)⟩ rfl hl.1 rfl (Nat.le_of_ble_eq_true rfl) d_M_readLabels_73 ⟨(Nat.le_of_ble_eq_true rfl), (Nat.le_of_ble_eq_true rfl)⟩) hP hD hS hA (fun r11 u12 H locs hp9 hP hD hS => ?_)
            have hP : va_P D vwCl (MW dA h ad (MS.s_labelCount (MS.s_labels (MS.s_faultPlace (MS.s_faultCode x 7) (nI (q + n))) g) c9)) H := hP
            have hD : va_D A (MW dA h ad (MS.s_labelCount (MS.s_labels (MS.s_faultPlace (MS.s_faultCode x 7) (nI (q + n))) g) c9)) := hD
            replace hp9 : bI false = r11 := Eq.symm hp9
            subst hp9
            exact rfZ hx hb hr (bI_nar false) hlk hS (MS.s_labelCount (MS.s_labels (MS.s_faultPlace (MS.s_faultCode x 7) (nI (q + n))) g) c9) (by exfalso; rw [if_neg g3, if_neg (show ¬ 24 < n by omega), if_pos g10] at i1; cases i1) hP hD (Nat.le_of_ble_eq_true rfl) (Nat.le_of_ble_eq_true rfl) d_M_readLabels_76
          · have g10 := mt (nI_leI (a := x.length) (b := q + n) (by omega) (by omega)).mpr g10
            refine lv_aload_n hx hb d_M_readLabels_54 rfl (lv_at hl 2 rfl) ?_
            refine gF (v := .ref (ad 1)) hx hb hown hE hK hP 0 rfl rfl layM 1 (by decide) w497 rfl d_M_readLabels_55 ?_
            refine lv_iload_n hx hb d_M_readLabels_58 rfl (lv_at hl 1 rfl) ?_
            refine lv_iload_n hx hb d_M_readLabels_59 rfl (lv_at hl 0 rfl) ?_
            refine lv_iadd hx hb d_M_readLabels_60 (tpi (y := nI (q + n)) (nI_add (q) (n)) ?_)
            refine nbld (f := x.tape) hx hb hK hP 1 0 rfl rfl (q + n) (by omega) (by decide) d_M_readLabels_61 ?_
            refine lv_bipush (v := 61) hx hb d_M_readLabels_62 (by decide) ?_
            refine lv_icmp_eq hx hb d_M_readLabels_64 (tgt := 77) rfl (fun g13 => ?_) (fun g13 => ?_)
            · have g13 := g13
              have J91 : ∀ (tw : Bool) (i6 : decide (c9 = 6) = tw), ∀ (H : Heap) (locs : List Loc) (ls : Array Slot) (hP : va_P D vwCl (MW dA h ad (MS.s_labelCount (MS.s_labels x g) c9)) H) (hD : va_D A (MW dA h ad (MS.s_labelCount (MS.s_labels x g) c9))) (hS : va_S A s.heap H locs) (hl : lv_has ls 6 [(2, .int (nI n)), (1, .int (nI q)), (0, .ref h)]), W p l e ({ frames := 3, cells := 0, slots := 0, locals := 42 } : Room) s m ([.ref h] : List Value).toArray below meth c H locs 0 0 (MQ below (va_Qi (fun (r9 : Int32) (u9 : MS) => r9 = bI true ∧ u9 = (x.s_labels g0).s_labelCount c0) (fun (u9 : MS) t9 => bW D A (MW dA h ad u9) t9) A) ([.ref h] : List Value).toArray s 0 0 A) (F0 m 91 ls [.int (bI tw)]) := by
                intro tw i6 H locs ls hP hD hS hl
                refine lv_istore_n hx hb d_M_readLabels_91 rfl hl (by decide) rfl (fun ls hl => ?_)
                have hl : lv_has ls 6 [(3, .int (bI tw)), (2, .int (nI n)), (1, .int (nI q)), (0, .ref h)] := hl
                have J149 : ∀ (tw : Bool) (i9 : (decide (c9 = 6) || anyB c9 (fun z => decide (cmpT x.tape (g (4 * z)) (g (4 * z + 1)) q n = 0))) = tw), ∀ (H : Heap) (locs : List Loc) (ls : Array Slot) (hP : va_P D vwCl (MW dA h ad (MS.s_labelCount (MS.s_labels x g) c9)) H) (hD : va_D A (MW dA h ad (MS.s_labelCount (MS.s_labels x g) c9))) (hS : va_S A s.heap H locs) (hl : lv_has ls 6 [(3, .int (bI tw)), (2, .int (nI n)), (1, .int (nI q)), (0, .ref h)]), W p l e ({ frames := 3, cells := 0, slots := 0, locals := 42 } : Room) s m ([.ref h] : List Value).toArray below meth c H locs 0 0 (MQ below (va_Qi (fun (r9 : Int32) (u9 : MS) => r9 = bI true ∧ u9 = (x.s_labels g0).s_labelCount c0) (fun (u9 : MS) t9 => bW D A (MW dA h ad u9) t9) A) ([.ref h] : List Value).toArray s 0 0 A) (F0 m 149 ls []) := by
                  intro tw i9 H locs ls hP hD hS hl
                  refine lv_iload_n hx hb d_M_readLabels_149 rfl (lv_at hl 0 rfl) ?_
                  refine lv_if_eq hx hb d_M_readLabels_150 (tgt := 161) rfl (fun g14 => ?_) (fun g14 => ?_)
                  · have g14 := bI_0 g14
                    have c6 : ¬ c9 = 6 := fun z => by rw [decide_eq_true z, Bool.true_or, g14] at i9; cases i9
                    refine lv_iload_n hx hb d_M_readLabels_161 rfl (lv_at hl 2 rfl) ?_
                    refine lv_iload_n hx hb d_M_readLabels_162 rfl (lv_at hl 1 rfl) ?_
                    refine lv_iadd hx hb d_M_readLabels_163 (tpi (y := nI (q + n)) (nI_add (q) (n)) ?_)
                    refine lv_iconst (v := 1) hx hb d_M_readLabels_164 (by decide) ?_
                    refine lv_iadd hx hb d_M_readLabels_165 (tpi (y := nI (q + n + 1)) (nI_add (q + n) (1)) ?_)
                    refine lv_istore hx hb d_M_readLabels_166 hl (by decide) rfl (fun ls hl => ?_)
                    have hl : lv_has ls 6 [(4, .int (nI (q + n + 1))), (3, .int (bI tw)), (2, .int (nI n)), (1, .int (nI q)), (0, .ref h)] := hl
                    refine lv_aload_n hx hb d_M_readLabels_168 rfl (lv_at hl 4 rfl) ?_
                    refine lv_iload hx hb d_M_readLabels_169 (lv_at hl 0 rfl) ?_
                    refine jfI (rnV (As := [.int (nI (q + n + 1))]) (rest := []) hx hb hml hown hE hK (hN _ _ hS) hP hD (k_wordLength l D dA H.size h ad (MS.s_labelCount (MS.s_labels x g) c9) (q + n + 1) (show (q + n + 1) ≤ 131072 from by omega) (show x.length ≤ 65536 from by omega)) (q0 := 0) rfl rfl w427 w426 w428 w429 w328 rfl rfl ⟨⟨by decide, by decide⟩, rfl⟩ ⟨(Nat.le_of_ble_eq_true rfl), (Nat.le_of_ble_eq_true rfl)⟩ rfl hl.1 rfl (Nat.le_of_ble_eq_true rfl) d_M_readLabels_171 ⟨(Nat.le_of_ble_eq_true rfl), (Nat.le_of_ble_eq_true rfl)⟩) hP hD hS hA (fun r15 u16 H locs hp9 hP hD hS => ?_)
                    have hP : va_P D vwCl (MW dA h ad (MS.s_labelCount (MS.s_labels x g) c9)) H := hP
                    have hD : va_D A (MW dA h ad (MS.s_labelCount (MS.s_labels x g) c9)) := hD
                    replace hp9 : nI (wlen x.tape x.length 25 (q + n + 1)) = r15 := Eq.symm hp9
                    subst hp9
                    refine tpi (y := nI v) (congrArg nI hv) ?_
                    refine lv_istore hx hb d_M_readLabels_174 hl (by decide) rfl (fun ls hl => ?_)
                    have hl : lv_has ls 6 [(5, .int (nI v)), (4, .int (nI (q + n + 1))), (3, .int (bI tw)), (2, .int (nI n)), (1, .int (nI q)), (0, .ref h)] := hl
                    refine lv_iload hx hb d_M_readLabels_176 (lv_at hl 0 rfl) ?_
                    refine lv_if_eq hx hb d_M_readLabels_178 (tgt := 188) rfl (fun g17 => ?_) (fun g17 => ?_)
                    · have g17 := (nI_eq (a := v) (b := 0) (by omega) (by decide)).mp g17
                      refine lv_aload_n hx hb d_M_readLabels_188 rfl (lv_at hl 5 rfl) ?_
                      refine lv_bipush (v := 7) hx hb d_M_readLabels_189 (by decide) ?_
                      refine lv_iload hx hb d_M_readLabels_191 (lv_at hl 1 rfl) ?_
                      refine lv_iload hx hb d_M_readLabels_193 (lv_at hl 0 rfl) ?_
                      refine lv_bipush (v := 24) hx hb d_M_readLabels_195 (by decide) ?_
                      refine lv_icmp_le hx hb d_M_readLabels_197 (tgt := 205) rfl (fun g18 => ?_) (fun g18 => ?_)
                      · have g18 := (nI_leI (a := v) (b := 24) (by omega) (by omega)).mp g18
                        refine lv_iconst (v := 0) hx hb d_M_readLabels_205 (by decide) ?_
                        refine lv_iadd hx hb d_M_readLabels_206 (tpi (y := nI (q + n + 1)) (nI_add (q + n + 1) (0)) ?_)
                        refine jfI (rnV (As := [.int 7, .int (nI (q + n + 1))]) (rest := []) hx hb hml hown hE hK (hN _ _ hS) hP hD (k_flaw_0 l D dA H.size h ad (MS.s_labelCount (MS.s_labels x g) c9) 7 (nI (q + n + 1)) hf) (q0 := 0) rfl rfl w431 w430 w432 w433 w328 rfl rfl ⟨⟨by decide, by decide⟩, rfl⟩ ⟨(Nat.le_of_ble_eq_true rfl), (Nat.le_of_ble_eq_true rfl)⟩ rfl hl.1 rfl (Nat.le_of_ble_eq_true rfl) d_M_readLabels_207 ⟨(Nat.le_of_ble_eq_true rfl), (Nat.le_of_ble_eq_true rfl)⟩) hP hD hS hA (fun r19 u20 H locs hp9 hP hD hS => ?_)
                        have hP : va_P D vwCl (MW dA h ad (MS.s_labelCount (MS.s_labels (MS.s_faultPlace (MS.s_faultCode x 7) (nI (q + n + 1))) g) c9)) H := hP
                        have hD : va_D A (MW dA h ad (MS.s_labelCount (MS.s_labels (MS.s_faultPlace (MS.s_faultCode x 7) (nI (q + n + 1))) g) c9)) := hD
                        replace hp9 : bI false = r19 := Eq.symm hp9
                        subst hp9
                        exact rfZ hx hb hr (bI_nar false) hlk hS (MS.s_labelCount (MS.s_labels (MS.s_faultPlace (MS.s_faultCode x 7) (nI (q + n + 1))) g) c9) (by exfalso; rw [if_neg g3, if_neg (show ¬ 24 < n by omega), if_neg g10, if_neg (not_not_intro g13), if_neg (by rw [i9, g14]; decide), if_pos g17] at i1; cases i1) hP hD (Nat.le_of_ble_eq_true rfl) (Nat.le_of_ble_eq_true rfl) d_M_readLabels_210
                      · have g18 := mt (nI_leI (a := v) (b := 24) (by omega) (by omega)).mpr g18
                        refine lv_bipush (v := 24) hx hb d_M_readLabels_200 (by decide) ?_
                        refine lv_goto hx hb d_M_readLabels_202 (tgt := 206) rfl ?_
                        refine lv_iadd hx hb d_M_readLabels_206 (tpi (y := nI (q + n + 1 + 24)) (nI_add (q + n + 1) (24)) ?_)
                        refine jfI (rnV (As := [.int 7, .int (nI (q + n + 1 + 24))]) (rest := []) hx hb hml hown hE hK (hN _ _ hS) hP hD (k_flaw_0 l D dA H.size h ad (MS.s_labelCount (MS.s_labels x g) c9) 7 (nI (q + n + 1 + 24)) hf) (q0 := 0) rfl rfl w431 w430 w432 w433 w328 rfl rfl ⟨⟨by decide, by decide⟩, rfl⟩ ⟨(Nat.le_of_ble_eq_true rfl), (Nat.le_of_ble_eq_true rfl)⟩ rfl hl.1 rfl (Nat.le_of_ble_eq_true rfl) d_M_readLabels_207 ⟨(Nat.le_of_ble_eq_true rfl), (Nat.le_of_ble_eq_true rfl)⟩) hP hD hS hA (fun r21 u22 H locs hp9 hP hD hS => ?_)
                        have hP : va_P D vwCl (MW dA h ad (MS.s_labelCount (MS.s_labels (MS.s_faultPlace (MS.s_faultCode x 7) (nI (q + n + 1 + 24))) g) c9)) H := hP
                        have hD : va_D A (MW dA h ad (MS.s_labelCount (MS.s_labels (MS.s_faultPlace (MS.s_faultCode x 7) (nI (q + n + 1 + 24))) g) c9)) := hD
                        replace hp9 : bI false = r21 := Eq.symm hp9
                        subst hp9
                        exact rfZ hx hb hr (bI_nar false) hlk hS (MS.s_labelCount (MS.s_labels (MS.s_faultPlace (MS.s_faultCode x 7) (nI (q + n + 1 + 24))) g) c9) (by exfalso; omega) hP hD (Nat.le_of_ble_eq_true rfl) (Nat.le_of_ble_eq_true rfl) d_M_readLabels_210
                    · have g17 := mt (nI_eq (a := v) (b := 0) (by omega) (by decide)).mpr g17
                      refine lv_iload hx hb d_M_readLabels_181 (lv_at hl 0 rfl) ?_
                      refine lv_bipush (v := 24) hx hb d_M_readLabels_183 (by decide) ?_
                      refine lv_icmp_le hx hb d_M_readLabels_185 (tgt := 211) rfl (fun g23 => ?_) (fun g23 => ?_)
                      · have g23 := (nI_leI (a := v) (b := 24) (by omega) (by omega)).mp g23
                        refine lv_aload_n hx hb d_M_readLabels_211 rfl (lv_at hl 5 rfl) ?_
                        refine gF (v := .ref (ad 42)) hx hb hown hE hK hP 0 rfl rfl layM 42 (by decide) w517 rfl d_M_readLabels_212 ?_
                        refine lv_iconst (v := 4) hx hb d_M_readLabels_215 (by decide) ?_
                        refine lv_aload_n hx hb d_M_readLabels_216 rfl (lv_at hl 5 rfl) ?_
                        refine gF (v := .int (nI c9)) hx hb hown hE hK hP 0 rfl rfl layM 43 (by decide) w425 rfl d_M_readLabels_217 ?_
                        refine lv_imul hx hb d_M_readLabels_220 (tpi (y := nI (4 * c9)) (pk_mul (4) (c9)) ?_)
                        refine lv_iload_n hx hb d_M_readLabels_221 rfl (lv_at hl 4 rfl) ?_
                        refine nistN (v := q) hx hb hK hP hD hS 20 1 rfl rfl (4 * c9) (by omega) (by decide) d_M_readLabels_222 (fun H locs hP hD hS => ?_)
                        have hP : va_P D vwCl (MW dA h ad (MS.s_labelCount (MS.s_labels x (va_up g (4 * c9) q)) c9)) H := hP
                        have hD : va_D A (MW dA h ad (MS.s_labelCount (MS.s_labels x (va_up g (4 * c9) q)) c9)) := hD
                        refine lv_aload_n hx hb d_M_readLabels_223 rfl (lv_at hl 5 rfl) ?_
                        refine gF (v := .ref (ad 42)) hx hb hown hE hK hP 0 rfl rfl layM 42 (by decide) w517 rfl d_M_readLabels_224 ?_
                        refine lv_iconst (v := 4) hx hb d_M_readLabels_227 (by decide) ?_
                        refine lv_aload_n hx hb d_M_readLabels_228 rfl (lv_at hl 5 rfl) ?_
                        refine gF (v := .int (nI c9)) hx hb hown hE hK hP 0 rfl rfl layM 43 (by decide) w425 rfl d_M_readLabels_229 ?_
                        refine lv_imul hx hb d_M_readLabels_232 (tpi (y := nI (4 * c9)) (pk_mul (4) (c9)) ?_)
                        refine lv_iconst (v := 1) hx hb d_M_readLabels_233 (by decide) ?_
                        refine lv_iadd hx hb d_M_readLabels_234 (tpi (y := nI ((4 * c9) + 1)) (nI_add (4 * c9) (1)) ?_)
                        refine lv_iload_n hx hb d_M_readLabels_235 rfl (lv_at hl 3 rfl) ?_
                        refine nistN (v := n) hx hb hK hP hD hS 20 1 rfl rfl ((4 * c9) + 1) (by omega) (by decide) d_M_readLabels_236 (fun H locs hP hD hS => ?_)
                        have hP : va_P D vwCl (MW dA h ad (MS.s_labelCount (MS.s_labels x (va_up (va_up g (4 * c9) q) ((4 * c9) + 1) n)) c9)) H := hP
                        have hD : va_D A (MW dA h ad (MS.s_labelCount (MS.s_labels x (va_up (va_up g (4 * c9) q) ((4 * c9) + 1) n)) c9)) := hD
                        refine lv_aload_n hx hb d_M_readLabels_237 rfl (lv_at hl 5 rfl) ?_
                        refine gF (v := .ref (ad 42)) hx hb hown hE hK hP 0 rfl rfl layM 42 (by decide) w517 rfl d_M_readLabels_238 ?_
                        refine lv_iconst (v := 4) hx hb d_M_readLabels_241 (by decide) ?_
                        refine lv_aload_n hx hb d_M_readLabels_242 rfl (lv_at hl 5 rfl) ?_
                        refine gF (v := .int (nI c9)) hx hb hown hE hK hP 0 rfl rfl layM 43 (by decide) w425 rfl d_M_readLabels_243 ?_
                        refine lv_imul hx hb d_M_readLabels_246 (tpi (y := nI (4 * c9)) (pk_mul (4) (c9)) ?_)
                        refine lv_iconst (v := 2) hx hb d_M_readLabels_247 (by decide) ?_
                        refine lv_iadd hx hb d_M_readLabels_248 (tpi (y := nI ((4 * c9) + 2)) (nI_add (4 * c9) (2)) ?_)
                        refine lv_iload hx hb d_M_readLabels_249 (lv_at hl 1 rfl) ?_
                        refine nistN (v := q + n + 1) hx hb hK hP hD hS 20 1 rfl rfl ((4 * c9) + 2) (by omega) (by decide) d_M_readLabels_251 (fun H locs hP hD hS => ?_)
                        have hP : va_P D vwCl (MW dA h ad (MS.s_labelCount (MS.s_labels x (va_up (va_up (va_up g (4 * c9) q) ((4 * c9) + 1) n) ((4 * c9) + 2) (q + n + 1))) c9)) H := hP
                        have hD : va_D A (MW dA h ad (MS.s_labelCount (MS.s_labels x (va_up (va_up (va_up g (4 * c9) q) ((4 * c9) + 1) n) ((4 * c9) + 2) (q + n + 1))) c9)) := hD
                        refine lv_aload_n hx hb d_M_readLabels_252 rfl (lv_at hl 5 rfl) ?_
                        refine gF (v := .ref (ad 42)) hx hb hown hE hK hP 0 rfl rfl layM 42 (by decide) w517 rfl d_M_readLabels_253 ?_
                        refine lv_iconst (v := 4) hx hb d_M_readLabels_256 (by decide) ?_
                        refine lv_aload_n hx hb d_M_readLabels_257 rfl (lv_at hl 5 rfl) ?_
                        refine gF (v := .int (nI c9)) hx hb hown hE hK hP 0 rfl rfl layM 43 (by decide) w425 rfl d_M_readLabels_258 ?_
                        refine lv_imul hx hb d_M_readLabels_261 (tpi (y := nI (4 * c9)) (pk_mul (4) (c9)) ?_)
                        refine lv_iconst (v := 3) hx hb d_M_readLabels_262 (by decide) ?_
                        refine lv_iadd hx hb d_M_readLabels_263 (tpi (y := nI ((4 * c9) + 3)) (nI_add (4 * c9) (3)) ?_)
                        refine lv_iload hx hb d_M_readLabels_264 (lv_at hl 0 rfl) ?_
                        refine nistN (v := v) hx hb hK hP hD hS 20 1 rfl rfl ((4 * c9) + 3) (by omega) (by decide) d_M_readLabels_266 (fun H locs hP hD hS => ?_)
                        have hP : va_P D vwCl (MW dA h ad (MS.s_labelCount (MS.s_labels x (va_up (va_up (va_up (va_up g (4 * c9) q) ((4 * c9) + 1) n) ((4 * c9) + 2) (q + n + 1)) ((4 * c9) + 3) v)) c9)) H := hP
                        have hD : va_D A (MW dA h ad (MS.s_labelCount (MS.s_labels x (va_up (va_up (va_up (va_up g (4 * c9) q) ((4 * c9) + 1) n) ((4 * c9) + 2) (q + n + 1)) ((4 * c9) + 3) v)) c9)) := hD
                        refine lv_aload_n hx hb d_M_readLabels_267 rfl (lv_at hl 5 rfl) ?_
                        refine lv_dup hx hb d_M_readLabels_268 rfl ?_
                        refine gF (v := .int (nI c9)) hx hb hown hE hK hP 0 rfl rfl layM 43 (by decide) w425 rfl d_M_readLabels_269 ?_
                        refine lv_iconst (v := 1) hx hb d_M_readLabels_272 (by decide) ?_
                        refine lv_iadd hx hb d_M_readLabels_273 (tpi (y := nI (c9 + 1)) (nI_add (c9) (1)) ?_)
                        refine pF (v := .int (nI (c9 + 1))) hx hb hown hE hK hP hD hS 0 rfl rfl layM tyM tokM nmM 43 (by decide) w425 rfl rfl rfl (Nat.le_of_ble_eq_true rfl) d_M_readLabels_274 (fun H locs hP hD hS => ?_)
                        have hP : va_P D vwCl (MW dA h ad (MS.s_labelCount (MS.s_labels x (va_up (va_up (va_up (va_up g (4 * c9) q) ((4 * c9) + 1) n) ((4 * c9) + 2) (q + n + 1)) ((4 * c9) + 3) v)) (c9 + 1))) H := hP
                        have hD : va_D A (MW dA h ad (MS.s_labelCount (MS.s_labels x (va_up (va_up (va_up (va_up g (4 * c9) q) ((4 * c9) + 1) n) ((4 * c9) + 2) (q + n + 1)) ((4 * c9) + 3) v)) (c9 + 1))) := hD
                        refine lv_iload hx hb d_M_readLabels_277 (lv_at hl 1 rfl) ?_
                        refine lv_iload hx hb d_M_readLabels_279 (lv_at hl 0 rfl) ?_
                        refine lv_iadd hx hb d_M_readLabels_281 (tpi (y := nI (q + n + 1 + v)) (nI_add (q + n + 1) (v)) ?_)
                        refine lv_istore_n hx hb d_M_readLabels_282 rfl hl (by decide) rfl (fun ls hl => ?_)
                        have hl : lv_has ls 6 [(1, .int (nI (q + n + 1 + v))), (5, .int (nI v)), (4, .int (nI (q + n + 1))), (3, .int (bI tw)), (2, .int (nI n)), (0, .ref h)] := hl
                        refine lv_iload_n hx hb d_M_readLabels_283 rfl (lv_at hl 0 rfl) ?_
                        refine lv_aload_n hx hb d_M_readLabels_284 rfl (lv_at hl 5 rfl) ?_
                        refine gF (v := .int (nI x.length)) hx hb hown hE hK hP 0 rfl rfl layM 2 (by decide) w320 rfl d_M_readLabels_285 ?_
                        refine lv_icmp_ne hx hb d_M_readLabels_288 (tgt := 293) rfl (fun g24 => ?_) (fun g24 => ?_)
                        · have g24 := mt (nI_eq (a := q + n + 1 + v) (b := x.length) (by omega) (by omega)).mpr g24
                          refine lv_aload_n hx hb d_M_readLabels_293 rfl (lv_at hl 5 rfl) ?_
                          refine gF (v := .ref (ad 1)) hx hb hown hE hK hP 0 rfl rfl layM 1 (by decide) w497 rfl d_M_readLabels_294 ?_
                          refine lv_iload_n hx hb d_M_readLabels_297 rfl (lv_at hl 0 rfl) ?_
                          refine nbld (f := x.tape) hx hb hK hP 1 0 rfl rfl (q + n + 1 + v) (by omega) (by decide) d_M_readLabels_298 ?_
                          refine lv_bipush (v := 44) hx hb d_M_readLabels_299 (by decide) ?_
                          refine lv_icmp_eq hx hb d_M_readLabels_301 (tgt := 312) rfl (fun g25 => ?_) (fun g25 => ?_)
                          · have g25 := g25
                            refine lv_iinc (k := 0) (v := nI (q + n + 1 + v + 1)) hx hb d_M_readLabels_312 hl rfl (iincN (q + n + 1 + v) 1 1 (by decide)) (by decide) rfl (fun ls hl => ?_)
                            have hl : lv_has ls 6 [(1, .int (nI (q + n + 1 + v + 1))), (5, .int (nI v)), (4, .int (nI (q + n + 1))), (3, .int (bI tw)), (2, .int (nI n)), (0, .ref h)] := hl
                            refine lv_goto hx hb d_M_readLabels_315 (tgt := 7) rfl ?_
                            exact ih7 _ (by omega) w (q + n + 1 + v + 1) (c9 + 1) (va_up (va_up (va_up (va_up g (4 * c9) q) ((4 * c9) + 1) n) ((4 * c9) + 2) (q + n + 1)) ((4 * c9) + 3) v) (by rw [if_neg g3, if_neg (show ¬ 24 < n by omega), if_neg g10, if_neg (not_not_intro g13), if_neg (by rw [i9, g14]; decide), if_neg g17, if_neg (show ¬ 24 < v by omega), if_neg (show ¬ q + n + 1 + v = x.length by omega), if_neg (not_not_intro g25)] at i1; exact i1) (by omega) (by omega) (by omega) (lab_up i4 n2) rfl H _ ls hP hD hS (lv_sub hl [0, 5] rfl)
                          · have g25 := g25
                            refine lv_aload_n hx hb d_M_readLabels_304 rfl (lv_at hl 5 rfl) ?_
                            refine lv_bipush (v := 7) hx hb d_M_readLabels_305 (by decide) ?_
                            refine lv_iload_n hx hb d_M_readLabels_307 rfl (lv_at hl 0 rfl) ?_
                            refine jfI (rnV (As := [.int 7, .int (nI (q + n + 1 + v))]) (rest := []) hx hb hml hown hE hK (hN _ _ hS) hP hD (k_flaw_0 l D dA H.size h ad (MS.s_labelCount (MS.s_labels x (va_up (va_up (va_up (va_up g (4 * c9) q) ((4 * c9) + 1) n) ((4 * c9) + 2) (q + n + 1)) ((4 * c9) + 3) v)) (c9 + 1)) 7 (nI (q + n + 1 + v)) hf) (q0 := 0) rfl rfl w431 w430 w432 w433 w328 rfl rfl ⟨⟨by decide, by decide⟩, rfl⟩ ⟨(Nat.le_of_ble_eq_true rfl), (Nat.le_of_ble_eq_true rfl)⟩ rfl hl.1 rfl (Nat.le_of_ble_eq_true rfl) d_M_readLabels_308 ⟨(Nat.le_of_ble_eq_true rfl), (Nat.le_of_ble_eq_true rfl)⟩) hP hD hS hA (fun r26 u27 H locs hp9 hP hD hS => ?_)
                            have hP : va_P D vwCl (MW dA h ad (MS.s_labelCount (MS.s_labels (MS.s_faultPlace (MS.s_faultCode x 7) (nI (q + n + 1 + v))) (va_up (va_up (va_up (va_up g (4 * c9) q) ((4 * c9) + 1) n) ((4 * c9) + 2) (q + n + 1)) ((4 * c9) + 3) v)) (c9 + 1))) H := hP
                            have hD : va_D A (MW dA h ad (MS.s_labelCount (MS.s_labels (MS.s_faultPlace (MS.s_faultCode x 7) (nI (q + n + 1 + v))) (va_up (va_up (va_up (va_up g (4 * c9) q) ((4 * c9) + 1) n) ((4 * c9) + 2) (q + n + 1)) ((4 * c9) + 3) v)) (c9 + 1))) := hD
                            replace hp9 : bI false = r26 := Eq.symm hp9
                            subst hp9
                            exact rfZ hx hb hr (bI_nar false) hlk hS (MS.s_labelCount (MS.s_labels (MS.s_faultPlace (MS.s_faultCode x 7) (nI (q + n + 1 + v))) (va_up (va_up (va_up (va_up g (4 * c9) q) ((4 * c9) + 1) n) ((4 * c9) + 2) (q + n + 1)) ((4 * c9) + 3) v)) (c9 + 1)) (by exfalso; rw [if_neg g3, if_neg (show ¬ 24 < n by omega), if_neg g10, if_neg (not_not_intro g13), if_neg (by rw [i9, g14]; decide), if_neg g17, if_neg (show ¬ 24 < v by omega), if_neg (show ¬ q + n + 1 + v = x.length by omega), if_pos g25] at i1; cases i1) hP hD (Nat.le_of_ble_eq_true rfl) (Nat.le_of_ble_eq_true rfl) d_M_readLabels_311
                        · have g24 := (nI_eq (a := q + n + 1 + v) (b := x.length) (by omega) (by omega)).mp g24
                          refine lv_iconst (v := 1) hx hb d_M_readLabels_291 (by decide) ?_
                          exact rfZ hx hb hr (bI_nar true) hlk hS (MS.s_labelCount (MS.s_labels x (va_up (va_up (va_up (va_up g (4 * c9) q) ((4 * c9) + 1) n) ((4 * c9) + 2) (q + n + 1)) ((4 * c9) + 3) v)) (c9 + 1)) ⟨rfl, by rw [if_neg g3, if_neg (show ¬ 24 < n by omega), if_neg g10, if_neg (not_not_intro g13), if_neg (by rw [i9, g14]; decide), if_neg g17, if_neg (show ¬ 24 < v by omega), if_pos (show q + n + 1 + v = x.length by omega)] at i1; cases i1; rfl⟩ hP hD (Nat.le_of_ble_eq_true rfl) (Nat.le_of_ble_eq_true rfl) d_M_readLabels_292
                      · have g23 := mt (nI_leI (a := v) (b := 24) (by omega) (by omega)).mpr g23
                        refine lv_aload_n hx hb d_M_readLabels_188 rfl (lv_at hl 5 rfl) ?_
                        refine lv_bipush (v := 7) hx hb d_M_readLabels_189 (by decide) ?_
                        refine lv_iload hx hb d_M_readLabels_191 (lv_at hl 1 rfl) ?_
                        refine lv_iload hx hb d_M_readLabels_193 (lv_at hl 0 rfl) ?_
                        refine lv_bipush (v := 24) hx hb d_M_readLabels_195 (by decide) ?_
                        refine lv_icmp_le hx hb d_M_readLabels_197 (tgt := 205) rfl (fun h9 => absurd h9 (mt (nI_leI (a := v) (b := 24) (by omega) (by omega)).mp g23)) (fun _ => ?_)
                        refine lv_bipush (v := 24) hx hb d_M_readLabels_200 (by decide) ?_
                        refine lv_goto hx hb d_M_readLabels_202 (tgt := 206) rfl ?_
                        refine lv_iadd hx hb d_M_readLabels_206 (tpi (y := nI (q + n + 1 + 24)) (nI_add (q + n + 1) (24)) ?_)
                        refine jfI (rnV (As := [.int 7, .int (nI (q + n + 1 + 24))]) (rest := []) hx hb hml hown hE hK (hN _ _ hS) hP hD (k_flaw_0 l D dA H.size h ad (MS.s_labelCount (MS.s_labels x g) c9) 7 (nI (q + n + 1 + 24)) hf) (q0 := 0) rfl rfl w431 w430 w432 w433 w328 rfl rfl ⟨⟨by decide, by decide⟩, rfl⟩ ⟨(Nat.le_of_ble_eq_true rfl), (Nat.le_of_ble_eq_true rfl)⟩ rfl hl.1 rfl (Nat.le_of_ble_eq_true rfl) d_M_readLabels_207 ⟨(Nat.le_of_ble_eq_true rfl), (Nat.le_of_ble_eq_true rfl)⟩) hP hD hS hA (fun r28 u29 H locs hp9 hP hD hS => ?_)
                        have hP : va_P D vwCl (MW dA h ad (MS.s_labelCount (MS.s_labels (MS.s_faultPlace (MS.s_faultCode x 7) (nI (q + n + 1 + 24))) g) c9)) H := hP
                        have hD : va_D A (MW dA h ad (MS.s_labelCount (MS.s_labels (MS.s_faultPlace (MS.s_faultCode x 7) (nI (q + n + 1 + 24))) g) c9)) := hD
                        replace hp9 : bI false = r28 := Eq.symm hp9
                        subst hp9
                        exact rfZ hx hb hr (bI_nar false) hlk hS (MS.s_labelCount (MS.s_labels (MS.s_faultPlace (MS.s_faultCode x 7) (nI (q + n + 1 + 24))) g) c9) (by exfalso; rw [if_neg g3, if_neg (show ¬ 24 < n by omega), if_neg g10, if_neg (not_not_intro g13), if_neg (by rw [i9, g14]; decide), if_neg g17, if_pos (show 24 < v by omega)] at i1; cases i1) hP hD (Nat.le_of_ble_eq_true rfl) (Nat.le_of_ble_eq_true rfl) d_M_readLabels_210
                  · have g14 := bI_n0 g14
                    refine lv_aload_n hx hb d_M_readLabels_153 rfl (lv_at hl 3 rfl) ?_
                    refine lv_bipush (v := 8) hx hb d_M_readLabels_154 (by decide) ?_
                    refine lv_iload_n hx hb d_M_readLabels_156 rfl (lv_at hl 2 rfl) ?_
                    refine jfI (rnV (As := [.int 8, .int (nI q)]) (rest := []) hx hb hml hown hE hK (hN _ _ hS) hP hD (k_flaw_0 l D dA H.size h ad (MS.s_labelCount (MS.s_labels x g) c9) 8 (nI q) hf) (q0 := 0) rfl rfl w431 w430 w432 w433 w328 rfl rfl ⟨⟨by decide, by decide⟩, rfl⟩ ⟨(Nat.le_of_ble_eq_true rfl), (Nat.le_of_ble_eq_true rfl)⟩ rfl hl.1 rfl (Nat.le_of_ble_eq_true rfl) d_M_readLabels_157 ⟨(Nat.le_of_ble_eq_true rfl), (Nat.le_of_ble_eq_true rfl)⟩) hP hD hS hA (fun r30 u31 H locs hp9 hP hD hS => ?_)
                    have hP : va_P D vwCl (MW dA h ad (MS.s_labelCount (MS.s_labels (MS.s_faultPlace (MS.s_faultCode x 8) (nI q)) g) c9)) H := hP
                    have hD : va_D A (MW dA h ad (MS.s_labelCount (MS.s_labels (MS.s_faultPlace (MS.s_faultCode x 8) (nI q)) g) c9)) := hD
                    replace hp9 : bI false = r30 := Eq.symm hp9
                    subst hp9
                    exact rfZ hx hb hr (bI_nar false) hlk hS (MS.s_labelCount (MS.s_labels (MS.s_faultPlace (MS.s_faultCode x 8) (nI q)) g) c9) (by exfalso; rw [if_neg g3, if_neg (show ¬ 24 < n by omega), if_neg g10, if_neg (not_not_intro g13), if_pos (i9.trans g14)] at i1; cases i1) hP hD (Nat.le_of_ble_eq_true rfl) (Nat.le_of_ble_eq_true rfl) d_M_readLabels_160
                refine lv_iconst (v := 0) hx hb d_M_readLabels_92 (by decide) ?_
                refine lv_istore hx hb d_M_readLabels_93 hl (by decide) rfl (fun ls hl => ?_)
                have hl : lv_has ls 6 [(4, .int 0), (3, .int (bI tw)), (2, .int (nI n)), (1, .int (nI q)), (0, .ref h)] := hl
                have L95 : ∀ (k9 : Nat) (k : Nat) (tw : Bool) (i8 : k ≤ c9) (i7 : (decide (c9 = 6) || anyB k (twB x.tape g q n)) = tw) (hk9 : c9 - k = k9), ∀ (H : Heap) (locs : List Loc) (ls : Array Slot) (hP : va_P D vwCl (MW dA h ad (MS.s_labelCount (MS.s_labels x g) c9)) H) (hD : va_D A (MW dA h ad (MS.s_labelCount (MS.s_labels x g) c9))) (hS : va_S A s.heap H locs) (hl : lv_has ls 6 [(4, .int (nI k)), (3, .int (bI tw)), (2, .int (nI n)), (1, .int (nI q)), (0, .ref h)]), W p l e ({ frames := 3, cells := 0, slots := 0, locals := 42 } : Room) s m ([.ref h] : List Value).toArray below meth c H locs 0 0 (MQ below (va_Qi (fun (r9 : Int32) (u9 : MS) => r9 = bI true ∧ u9 = (x.s_labels g0).s_labelCount c0) (fun (u9 : MS) t9 => bW D A (MW dA h ad u9) t9) A) ([.ref h] : List Value).toArray s 0 0 A) (F0 m 95 ls []) := by
                  intro k9
                  induction k9 using Nat.strongRecOn with
                  | ind k9 ih95 =>
                    intro k tw i8 i7 hk9 H locs ls hP hD hS hl
                    refine lv_iload hx hb d_M_readLabels_95 (lv_at hl 0 rfl) ?_
                    refine lv_aload_n hx hb d_M_readLabels_97 rfl (lv_at hl 4 rfl) ?_
                    refine gF (v := .int (nI c9)) hx hb hown hE hK hP 0 rfl rfl layM 43 (by decide) w425 rfl d_M_readLabels_98 ?_
                    refine lv_icmp_ge hx hb d_M_readLabels_101 (tgt := 149) rfl (fun g32 => ?_) (fun g32 => ?_)
                    · have g32 := (nI_leI (a := c9) (b := k) (by omega) (by omega)).mp g32
                      exact J149 tw (by rw [show k = c9 by omega] at i7; exact i7) H _ ls hP hD hS (lv_sub hl [1, 2, 3, 4] rfl)
                    · have g32 := mt (nI_leI (a := c9) (b := k) (by omega) (by omega)).mpr g32
                      refine lv_iload_n hx hb d_M_readLabels_104 rfl (lv_at hl 1 rfl) ?_
                      refine lv_if_ne hx hb d_M_readLabels_105 (tgt := 137) rfl (fun g33 => ?_) (fun g33 => ?_)
                      · have g33 := bI_n0 g33
                        refine lv_iconst (v := 1) hx hb d_M_readLabels_137 (by decide) ?_
                        refine lv_goto hx hb d_M_readLabels_138 (tgt := 142) rfl ?_
                        refine lv_istore_n hx hb d_M_readLabels_142 rfl hl (by decide) rfl (fun ls hl => ?_)
                        have hl : lv_has ls 6 [(3, .int 1), (4, .int (nI k)), (2, .int (nI n)), (1, .int (nI q)), (0, .ref h)] := hl
                        refine lv_iinc (k := 1) (v := nI (k + 1)) hx hb d_M_readLabels_143 hl rfl (iincN (k) 1 1 (by decide)) (by decide) rfl (fun ls hl => ?_)
                        have hl : lv_has ls 6 [(4, .int (nI (k + 1))), (3, .int 1), (2, .int (nI n)), (1, .int (nI q)), (0, .ref h)] := hl
                        refine lv_goto hx hb d_M_readLabels_146 (tgt := 95) rfl ?_
                        exact ih95 _ (by omega) (k + 1) true (by omega) (by rw [anyB_s, ← Bool.or_assoc, i7, g33]; rfl) rfl H _ ls hP hD hS (lv_sub hl [0, 1, 2, 3, 4] rfl)
                      · have g33 := bI_0 g33
                        refine lv_aload_n hx hb d_M_readLabels_108 rfl (lv_at hl 4 rfl) ?_
                        refine lv_aload_n hx hb d_M_readLabels_109 rfl (lv_at hl 4 rfl) ?_
                        refine gF (v := .ref (ad 42)) hx hb hown hE hK hP 0 rfl rfl layM 42 (by decide) w517 rfl d_M_readLabels_110 ?_
                        refine lv_iconst (v := 4) hx hb d_M_readLabels_113 (by decide) ?_
                        refine lv_iload hx hb d_M_readLabels_114 (lv_at hl 0 rfl) ?_
                        refine lv_imul hx hb d_M_readLabels_116 (tpi (y := nI (4 * k)) (pk_mul (4) (k)) ?_)
                        refine nild (f := (fun z9 => nI (g z9))) hx hb hK hP 20 1 rfl rfl (4 * k) (by omega) (by decide) d_M_readLabels_117 ?_
                        refine lv_aload_n hx hb d_M_readLabels_118 rfl (lv_at hl 4 rfl) ?_
                        refine gF (v := .ref (ad 42)) hx hb hown hE hK hP 0 rfl rfl layM 42 (by decide) w517 rfl d_M_readLabels_119 ?_
                        refine lv_iconst (v := 4) hx hb d_M_readLabels_122 (by decide) ?_
                        refine lv_iload hx hb d_M_readLabels_123 (lv_at hl 0 rfl) ?_
                        refine lv_imul hx hb d_M_readLabels_125 (tpi (y := nI (4 * k)) (pk_mul (4) (k)) ?_)
                        refine lv_iconst (v := 1) hx hb d_M_readLabels_126 (by decide) ?_
                        refine lv_iadd hx hb d_M_readLabels_127 (tpi (y := nI ((4 * k) + 1)) (nI_add (4 * k) (1)) ?_)
                        refine nild (f := (fun z9 => nI (g z9))) hx hb hK hP 20 1 rfl rfl ((4 * k) + 1) (by omega) (by decide) d_M_readLabels_128 ?_
                        refine lv_iload_n hx hb d_M_readLabels_129 rfl (lv_at hl 3 rfl) ?_
                        refine lv_iload_n hx hb d_M_readLabels_130 rfl (lv_at hl 2 rfl) ?_
                        refine jfI (rnV (As := [.int (nI (g (4 * k))), .int (nI (g ((4 * k) + 1))), .int (nI q), .int (nI n)]) (rest := []) hx hb hml hown hE hK (hN _ _ hS) hP hD (k_compare l D dA H.size h ad (MS.s_labelCount (MS.s_labels x g) c9) (g (4 * k)) (g ((4 * k) + 1)) q n (by have := i4 k (by omega); omega) (show q + n ≤ 65536 from by omega)) (q0 := 0) rfl rfl w939 w938 w940 w941 w328 rfl rfl ⟨⟨by decide, by decide⟩, rfl⟩ ⟨(Nat.le_of_ble_eq_true rfl), (Nat.le_of_ble_eq_true rfl)⟩ rfl hl.1 rfl (Nat.le_of_ble_eq_true rfl) d_M_readLabels_131 ⟨(Nat.le_of_ble_eq_true rfl), (Nat.le_of_ble_eq_true rfl)⟩) hP hD hS hA (fun r34 u35 H locs hp9 hP hD hS => ?_)
                        have hP : va_P D vwCl (MW dA h ad (MS.s_labelCount (MS.s_labels x g) c9)) H := hP
                        have hD : va_D A (MW dA h ad (MS.s_labelCount (MS.s_labels x g) c9)) := hD
                        replace hp9 : cmpT x.tape (g (4 * k)) (g ((4 * k) + 1)) q n = r34 := Eq.symm hp9
                        subst hp9
                        refine lv_if_ne hx hb d_M_readLabels_134 (tgt := 141) rfl (fun g36 => ?_) (fun g36 => ?_)
                        · have g36 := g36
                          refine lv_iconst (v := 0) hx hb d_M_readLabels_141 (by decide) ?_
                          refine lv_istore_n hx hb d_M_readLabels_142 rfl hl (by decide) rfl (fun ls hl => ?_)
                          have hl : lv_has ls 6 [(3, .int 0), (4, .int (nI k)), (2, .int (nI n)), (1, .int (nI q)), (0, .ref h)] := hl
                          refine lv_iinc (k := 1) (v := nI (k + 1)) hx hb d_M_readLabels_143 hl rfl (iincN (k) 1 1 (by decide)) (by decide) rfl (fun ls hl => ?_)
                          have hl : lv_has ls 6 [(4, .int (nI (k + 1))), (3, .int 0), (2, .int (nI n)), (1, .int (nI q)), (0, .ref h)] := hl
                          refine lv_goto hx hb d_M_readLabels_146 (tgt := 95) rfl ?_
                          exact ih95 _ (by omega) (k + 1) false (by omega) (by rw [anyB_s, ← Bool.or_assoc, i7, g33]; show (false || decide _) = false; rw [decide_eq_false g36]; rfl) rfl H _ ls hP hD hS (lv_sub hl [0, 1, 2, 3, 4] rfl)
                        · have g36 := g36
                          refine lv_iconst (v := 1) hx hb d_M_readLabels_137 (by decide) ?_
                          refine lv_goto hx hb d_M_readLabels_138 (tgt := 142) rfl ?_
                          refine lv_istore_n hx hb d_M_readLabels_142 rfl hl (by decide) rfl (fun ls hl => ?_)
                          have hl : lv_has ls 6 [(3, .int 1), (4, .int (nI k)), (2, .int (nI n)), (1, .int (nI q)), (0, .ref h)] := hl
                          refine lv_iinc (k := 1) (v := nI (k + 1)) hx hb d_M_readLabels_143 hl rfl (iincN (k) 1 1 (by decide)) (by decide) rfl (fun ls hl => ?_)
                          have hl : lv_has ls 6 [(4, .int (nI (k + 1))), (3, .int 1), (2, .int (nI n)), (1, .int (nI q)), (0, .ref h)] := hl
                          refine lv_goto hx hb d_M_readLabels_146 (tgt := 95) rfl ?_
                          exact ih95 _ (by omega) (k + 1) true (by omega) (by rw [anyB_s, ← Bool.or_assoc, i7, g33]; show (false || decide _) = true; rw [decide_eq_true g36]; rfl) rfl H _ ls hP hD hS (lv_sub hl [0, 1, 2, 3, 4] rfl)
                exact L95 _ 0 tw (Nat.zero_le _) (by rw [i6]; exact Bool.or_false _) rfl H _ ls hP hD hS (lv_sub hl [0, 1, 2, 3, 4] rfl)
              refine lv_aload_n hx hb d_M_readLabels_77 rfl (lv_at hl 2 rfl) ?_
              refine gF (v := .int (nI c9)) hx hb hown hE hK hP 0 rfl rfl layM 43 (by decide) w425 rfl d_M_readLabels_78 ?_
              refine lv_bipush (v := 6) hx hb d_M_readLabels_81 (by decide) ?_
              refine lv_icmp_ne hx hb d_M_readLabels_83 (tgt := 90) rfl (fun g37 => ?_) (fun g37 => ?_)
              · have g37 := mt (nI_eq (a := c9) (b := 6) (by omega) (by omega)).mpr g37
                refine lv_iconst (v := 0) hx hb d_M_readLabels_90 (by decide) ?_
                exact J91 false (by simp [*]) H _ ls hP hD hS (lv_sub hl [0, 1, 2] rfl)
              · have g37 := (nI_eq (a := c9) (b := 6) (by omega) (by omega)).mp g37
                refine lv_iconst (v := 1) hx hb d_M_readLabels_86 (by decide) ?_
                refine lv_goto hx hb d_M_readLabels_87 (tgt := 91) rfl ?_
                exact J91 true (by simp [*]) H _ ls hP hD hS (lv_sub hl [0, 1, 2] rfl)
            · have g13 := g13
              refine lv_aload_n hx hb d_M_readLabels_67 rfl (lv_at hl 2 rfl) ?_
              refine lv_bipush (v := 7) hx hb d_M_readLabels_68 (by decide) ?_
              refine lv_iload_n hx hb d_M_readLabels_70 rfl (lv_at hl 1 rfl) ?_
              refine lv_iload_n hx hb d_M_readLabels_71 rfl (lv_at hl 0 rfl) ?_
              refine lv_iadd hx hb d_M_readLabels_72 (tpi (y := nI (q + n)) (nI_add (q) (n)) ?_)
              refine jfI (rnV (As := [.int 7, .int (nI (q + n))]) (rest := []) hx hb hml hown hE hK (hN _ _ hS) hP hD (k_flaw_0 l D dA H.size h ad (MS.s_labelCount (MS.s_labels x g) c9) 7 (nI (q + n)) hf) (q0 := 0) rfl rfl w431 w430 w432 w433 w328 rfl rfl ⟨⟨by decide, by decide⟩, rfl⟩ ⟨(Nat.le_of_ble_eq_true rfl), (Nat.le_of_ble_eq_true rfl)⟩ rfl hl.1 rfl (Nat.le_of_ble_eq_true rfl) d_M_readLabels_73 ⟨(Nat.le_of_ble_eq_true rfl), (Nat.le_of_ble_eq_true rfl)⟩) hP hD hS hA (fun r38 u39 H locs hp9 hP hD hS => ?_)
              have hP : va_P D vwCl (MW dA h ad (MS.s_labelCount (MS.s_labels (MS.s_faultPlace (MS.s_faultCode x 7) (nI (q + n))) g) c9)) H := hP
              have hD : va_D A (MW dA h ad (MS.s_labelCount (MS.s_labels (MS.s_faultPlace (MS.s_faultCode x 7) (nI (q + n))) g) c9)) := hD
              replace hp9 : bI false = r38 := Eq.symm hp9
              subst hp9
              exact rfZ hx hb hr (bI_nar false) hlk hS (MS.s_labelCount (MS.s_labels (MS.s_faultPlace (MS.s_faultCode x 7) (nI (q + n))) g) c9) (by exfalso; rw [if_neg g3, if_neg (show ¬ 24 < n by omega), if_neg g10, if_pos g13] at i1; cases i1) hP hD (Nat.le_of_ble_eq_true rfl) (Nat.le_of_ble_eq_true rfl) d_M_readLabels_76
        · have g9 := mt (nI_leI (a := n) (b := 24) (by omega) (by omega)).mpr g9
          refine lv_aload_n hx hb d_M_readLabels_23 rfl (lv_at hl 2 rfl) ?_
          refine lv_bipush (v := 7) hx hb d_M_readLabels_24 (by decide) ?_
          refine lv_iload_n hx hb d_M_readLabels_26 rfl (lv_at hl 1 rfl) ?_
          refine lv_iload_n hx hb d_M_readLabels_27 rfl (lv_at hl 0 rfl) ?_
          refine lv_bipush (v := 24) hx hb d_M_readLabels_28 (by decide) ?_
          refine lv_icmp_le hx hb d_M_readLabels_30 (tgt := 38) rfl (fun h9 => absurd h9 (mt (nI_leI (a := n) (b := 24) (by omega) (by omega)).mp g9)) (fun _ => ?_)
          refine lv_bipush (v := 24) hx hb d_M_readLabels_33 (by decide) ?_
          refine lv_goto hx hb d_M_readLabels_35 (tgt := 39) rfl ?_
          refine lv_iadd hx hb d_M_readLabels_39 (tpi (y := nI (q + 24)) (nI_add (q) (24)) ?_)
          refine jfI (rnV (As := [.int 7, .int (nI (q + 24))]) (rest := []) hx hb hml hown hE hK (hN _ _ hS) hP hD (k_flaw_0 l D dA H.size h ad (MS.s_labelCount (MS.s_labels x g) c9) 7 (nI (q + 24)) hf) (q0 := 0) rfl rfl w431 w430 w432 w433 w328 rfl rfl ⟨⟨by decide, by decide⟩, rfl⟩ ⟨(Nat.le_of_ble_eq_true rfl), (Nat.le_of_ble_eq_true rfl)⟩ rfl hl.1 rfl (Nat.le_of_ble_eq_true rfl) d_M_readLabels_40 ⟨(Nat.le_of_ble_eq_true rfl), (Nat.le_of_ble_eq_true rfl)⟩) hP hD hS hA (fun r40 u41 H locs hp9 hP hD hS => ?_)
          have hP : va_P D vwCl (MW dA h ad (MS.s_labelCount (MS.s_labels (MS.s_faultPlace (MS.s_faultCode x 7) (nI (q + 24))) g) c9)) H := hP
          have hD : va_D A (MW dA h ad (MS.s_labelCount (MS.s_labels (MS.s_faultPlace (MS.s_faultCode x 7) (nI (q + 24))) g) c9)) := hD
          replace hp9 : bI false = r40 := Eq.symm hp9
          subst hp9
          exact rfZ hx hb hr (bI_nar false) hlk hS (MS.s_labelCount (MS.s_labels (MS.s_faultPlace (MS.s_faultCode x 7) (nI (q + 24))) g) c9) (by exfalso; rw [if_neg g3, if_pos (show 24 < n by omega)] at i1; cases i1) hP hD (Nat.le_of_ble_eq_true rfl) (Nat.le_of_ble_eq_true rfl) d_M_readLabels_43
  exact L7 _ 7 0 0 x.labels hrd rfl (by decide) (Nat.zero_le _) (fun k hk => absurd hk (Nat.not_lt_zero k)) rfl H _ ls hP hD hS (lv_sub hl [0, 1] rfl)
set_option maxHeartbeats 4000000 in
set_option maxRecDepth 100000 in
theorem k_readLabels_x (l : Launch) (D : va_G) (dA : Nat → ClassId) (sz : Nat) (h : Nat) (ad : Nat → Nat) (x : MS) (kf : Int32) (pf : Nat) (hl1 : x.length ≤ 65536) (hf : x.faultCode = 0) (hrd : rdM x.tape x.length 7 0 0 x.labels = .inl (kf, pf)) : Met l ⟨"SeriesVaultModel", "readLabels", "()Z"⟩ [Cond.code ⟨"SeriesVaultModel", "readLabels", "()Z"⟩ prog_14_method_24_code 6 (some FieldType.boolean)] { frames := 3, cells := 0, slots := 0, locals := 42 } (pC D dA [.ref h] (MW dA h ad x) sz) (va_Qi (fun (r9 : Int32) (u9 : MS) => r9 = bI false ∧ ∃ (a1 : Nat → Nat) (a2 : Nat), u9 = (((x.s_faultCode kf).s_faultPlace (nI pf)).s_labels a1).s_labelCount a2) (fun (u9 : MS) t9 => bW D (va_A (MW dA h ad x) sz) (MW dA h ad u9) t9) (va_A (MW dA h ad x) sz)) 0 0 (va_A (MW dA h ad x) sz) := by
  refine mkC (y := ⟨"SeriesVaultModel", "readLabels", "()Z"⟩) (cc := prog_14_method_24_code) (maxL := 6) (av := [.ref h]) (ws := MW dA h ad x) (sz := sz) (Qc := fun A => va_Qi (fun (r9 : Int32) (u9 : MS) => r9 = bI false ∧ ∃ (a1 : Nat → Nat) (a2 : Nat), u9 = (((x.s_faultCode kf).s_faultPlace (nI pf)).s_labels a1).s_labelCount a2) (fun (u9 : MS) t9 => bW D A (MW dA h ad u9) t9) A) (by decide) (Nat.le_of_ble_eq_true rfl) ?_
  intro A p e s m below meth c ls hsz hB
  obtain ⟨hx, hb, hr, hml, hown, hin, hlk, hE, hK, hP, hD, hS, hA, hN, hl⟩ := hB
  have hown : s.vm.findClass "SeriesVaultModel" = some m.cls := hown
  have hl : lv_has ls 6 [(0, .ref h)] := hl
  obtain ⟨H, hH⟩ : ∃ z, z = s.heap := ⟨_, rfl⟩
  have hP : va_P D vwCl (MW dA h ad x) H := by rw [hH]; exact hP
  have hS : va_S A s.heap H [] := by rw [hH]; exact hS
  rw [← hH]
  refine lv_aload_n hx hb d_M_readLabels_0 rfl (lv_at hl 0 rfl) ?_
  refine lv_iconst (v := 0) hx hb d_M_readLabels_1 (by decide) ?_
  refine pF (v := .int (nI 0)) hx hb hown hE hK hP hD hS 0 rfl rfl layM tyM tokM nmM 43 (by decide) w425 rfl rfl rfl (Nat.le_of_ble_eq_true rfl) d_M_readLabels_2 (fun H locs hP hD hS => ?_)
  have hP : va_P D vwCl (MW dA h ad (MS.s_labelCount x 0)) H := hP
  have hD : va_D A (MW dA h ad (MS.s_labelCount x 0)) := hD
  refine lv_iconst (v := 0) hx hb d_M_readLabels_5 (by decide) ?_
  refine lv_istore_n hx hb d_M_readLabels_6 rfl hl (by decide) rfl (fun ls hl => ?_)
  have hl : lv_has ls 6 [(1, .int 0), (0, .ref h)] := hl
  have L7 : ∀ (k9 : Nat) (w : Nat) (q : Nat) (c9 : Nat) (g : Nat → Nat) (i1 : rdM x.tape x.length w q c9 g = .inl (kf, pf)) (i2 : c9 + w = 7) (i5 : c9 ≤ 6) (i3 : q ≤ x.length) (i4 : ∀ k, k < c9 → g (4 * k) + g (4 * k + 1) ≤ x.length) (hk9 : w = k9), ∀ (H : Heap) (locs : List Loc) (ls : Array Slot) (hP : va_P D vwCl (MW dA h ad (MS.s_labelCount (MS.s_labels x g) c9)) H) (hD : va_D A (MW dA h ad (MS.s_labelCount (MS.s_labels x g) c9))) (hS : va_S A s.heap H locs) (hl : lv_has ls 6 [(1, .int (nI q)), (0, .ref h)]), W p l e ({ frames := 3, cells := 0, slots := 0, locals := 42 } : Room) s m ([.ref h] : List Value).toArray below meth c H locs 0 0 (MQ below (va_Qi (fun (r9 : Int32) (u9 : MS) => r9 = bI false ∧ ∃ (a1 : Nat → Nat) (a2 : Nat), u9 = (((x.s_faultCode kf).s_faultPlace (nI pf)).s_labels a1).s_labelCount a2) (fun (u9 : MS) t9 => bW D A (MW dA h ad u9) t9) A) ([.ref h] : List Value).toArray s 0 0 A) (F0 m 7 ls []) := by
    intro k9
    induction k9 using Nat.strongRecOn with
    | ind k9 ih7 =>
      intro w q c9 g i1 i2 i5 i3 i4 hk9 H locs ls hP hD hS hl
      obtain ⟨n, hn⟩ : ∃ n, wlen x.tape x.length 25 q = n := ⟨_, rfl⟩
      obtain ⟨v, hv⟩ : ∃ v, wlen x.tape x.length 25 (q + n + 1) = v := ⟨_, rfl⟩
      have n1 : n ≤ 25 := by rw [← hn]; exact wlen_le _ _ _ _
      have n2 : q + n ≤ x.length := by rw [← hn]; exact wlen_in i3
      have v1 : v ≤ 25 := by rw [← hv]; exact wlen_le _ _ _ _
      have v2 : q + n + 1 ≤ x.length → q + n + 1 + v ≤ x.length := fun z => by rw [← hv]; exact wlen_in z
      obtain ⟨w, rfl⟩ : ∃ z, w = z + 1 := ⟨w - 1, by omega⟩
      rw [rdM_s hn hv] at i1
      refine lv_aload_n hx hb d_M_readLabels_7 rfl (lv_at hl 1 rfl) ?_
      refine lv_iload_n hx hb d_M_readLabels_8 rfl (lv_at hl 0 rfl) ?_
      refine jfI (rnV (As := [.int (nI q)]) (rest := []) hx hb hml hown hE hK (hN _ _ hS) hP hD (k_wordLength l D dA H.size h ad (MS.s_labelCount (MS.s_labels x g) c9) q (show q ≤ 131072 from by omega) (show x.length ≤ 65536 from by omega)) (q0 := 0) rfl rfl w427 w426 w428 w429 w328 rfl rfl ⟨⟨by decide, by decide⟩, rfl⟩ ⟨(Nat.le_of_ble_eq_true rfl), (Nat.le_of_ble_eq_true rfl)⟩ rfl hl.1 rfl (Nat.le_of_ble_eq_true rfl) d_M_readLabels_9 ⟨(Nat.le_of_ble_eq_true rfl), (Nat.le_of_ble_eq_true rfl)⟩) hP hD hS hA (fun r1 u2 H locs hp9 hP hD hS => ?_)
      have hP : va_P D vwCl (MW dA h ad (MS.s_labelCount (MS.s_labels x g) c9)) H := hP
      have hD : va_D A (MW dA h ad (MS.s_labelCount (MS.s_labels x g) c9)) := hD
      replace hp9 : nI (wlen x.tape x.length 25 q) = r1 := Eq.symm hp9
      subst hp9
      refine tpi (y := nI n) (congrArg nI hn) ?_
      refine lv_istore_n hx hb d_M_readLabels_12 rfl hl (by decide) rfl (fun ls hl => ?_)
      have hl : lv_has ls 6 [(2, .int (nI n)), (1, .int (nI q)), (0, .ref h)] := hl
      refine lv_iload_n hx hb d_M_readLabels_13 rfl (lv_at hl 0 rfl) ?_
      refine lv_if_eq hx hb d_M_readLabels_14 (tgt := 23) rfl (fun g3 => ?_) (fun g3 => ?_)
      · have g3 := (nI_eq (a := n) (b := 0) (by omega) (by decide)).mp g3
        refine lv_aload_n hx hb d_M_readLabels_23 rfl (lv_at hl 2 rfl) ?_
        refine lv_bipush (v := 7) hx hb d_M_readLabels_24 (by decide) ?_
        refine lv_iload_n hx hb d_M_readLabels_26 rfl (lv_at hl 1 rfl) ?_
        refine lv_iload_n hx hb d_M_readLabels_27 rfl (lv_at hl 0 rfl) ?_
        refine lv_bipush (v := 24) hx hb d_M_readLabels_28 (by decide) ?_
        refine lv_icmp_le hx hb d_M_readLabels_30 (tgt := 38) rfl (fun g4 => ?_) (fun g4 => ?_)
        · have g4 := (nI_leI (a := n) (b := 24) (by omega) (by omega)).mp g4
          refine lv_iconst (v := 0) hx hb d_M_readLabels_38 (by decide) ?_
          refine lv_iadd hx hb d_M_readLabels_39 (tpi (y := nI (q)) (nI_add (q) (0)) ?_)
          refine jfI (rnV (As := [.int 7, .int (nI (q))]) (rest := []) hx hb hml hown hE hK (hN _ _ hS) hP hD (k_flaw_0 l D dA H.size h ad (MS.s_labelCount (MS.s_labels x g) c9) 7 (nI (q)) hf) (q0 := 0) rfl rfl w431 w430 w432 w433 w328 rfl rfl ⟨⟨by decide, by decide⟩, rfl⟩ ⟨(Nat.le_of_ble_eq_true rfl), (Nat.le_of_ble_eq_true rfl)⟩ rfl hl.1 rfl (Nat.le_of_ble_eq_true rfl) d_M_readLabels_40 ⟨(Nat.le_of_ble_eq_true rfl), (Nat.le_of_ble_eq_true rfl)⟩) hP hD hS hA (fun r5 u6 H locs hp9 hP hD hS => ?_)
          have hP : va_P D vwCl (MW dA h ad (MS.s_labelCount (MS.s_labels (MS.s_faultPlace (MS.s_faultCode x 7) (nI (q))) g) c9)) H := hP
          have hD : va_D A (MW dA h ad (MS.s_labelCount (MS.s_labels (MS.s_faultPlace (MS.s_faultCode x 7) (nI (q))) g) c9)) := hD
          replace hp9 : bI false = r5 := Eq.symm hp9
          subst hp9
          exact rfZ hx hb hr (bI_nar false) hlk hS (MS.s_labelCount (MS.s_labels (MS.s_faultPlace (MS.s_faultCode x 7) (nI (q))) g) c9) ⟨rfl, by rw [if_pos g3] at i1; cases i1; exact ⟨_, _, rfl⟩⟩ hP hD (Nat.le_of_ble_eq_true rfl) (Nat.le_of_ble_eq_true rfl) d_M_readLabels_43
        · have g4 := mt (nI_leI (a := n) (b := 24) (by omega) (by omega)).mpr g4
          refine lv_bipush (v := 24) hx hb d_M_readLabels_33 (by decide) ?_
          refine lv_goto hx hb d_M_readLabels_35 (tgt := 39) rfl ?_
          refine lv_iadd hx hb d_M_readLabels_39 (tpi (y := nI (q + 24)) (nI_add (q) (24)) ?_)
          refine jfI (rnV (As := [.int 7, .int (nI (q + 24))]) (rest := []) hx hb hml hown hE hK (hN _ _ hS) hP hD (k_flaw_0 l D dA H.size h ad (MS.s_labelCount (MS.s_labels x g) c9) 7 (nI (q + 24)) hf) (q0 := 0) rfl rfl w431 w430 w432 w433 w328 rfl rfl ⟨⟨by decide, by decide⟩, rfl⟩ ⟨(Nat.le_of_ble_eq_true rfl), (Nat.le_of_ble_eq_true rfl)⟩ rfl hl.1 rfl (Nat.le_of_ble_eq_true rfl) d_M_readLabels_40 ⟨(Nat.le_of_ble_eq_true rfl), (Nat.le_of_ble_eq_true rfl)⟩) hP hD hS hA (fun r7 u8 H locs hp9 hP hD hS => ?_)
          have hP : va_P D vwCl (MW dA h ad (MS.s_labelCount (MS.s_labels (MS.s_faultPlace (MS.s_faultCode x 7) (nI (q + 24))) g) c9)) H := hP
          have hD : va_D A (MW dA h ad (MS.s_labelCount (MS.s_labels (MS.s_faultPlace (MS.s_faultCode x 7) (nI (q + 24))) g) c9)) := hD
          replace hp9 : bI false = r7 := Eq.symm hp9
          subst hp9
          exact rfZ hx hb hr (bI_nar false) hlk hS (MS.s_labelCount (MS.s_labels (MS.s_faultPlace (MS.s_faultCode x 7) (nI (q + 24))) g) c9) (by exfalso; omega) hP hD (Nat.le_of_ble_eq_true rfl) (Nat.le_of_ble_eq_true rfl) d_M_readLabels_43
      · have g3 := mt (nI_eq (a := n) (b := 0) (by omega) (by decide)).mpr g3
        refine lv_iload_n hx hb d_M_readLabels_17 rfl (lv_at hl 0 rfl) ?_
        refine lv_bipush (v := 24) hx hb d_M_readLabels_18 (by decide) ?_
        refine lv_icmp_le hx hb d_M_readLabels_20 (tgt := 44) rfl (fun g9 => ?_) (fun g9 => ?_)
        · have g9 := (nI_leI (a := n) (b := 24) (by omega) (by omega)).mp g9
          refine lv_iload_n hx hb d_M_readLabels_44 rfl (lv_at hl 1 rfl) ?_
          refine lv_iload_n hx hb d_M_readLabels_45 rfl (lv_at hl 0 rfl) ?_
          refine lv_iadd hx hb d_M_readLabels_46 (tpi (y := nI (q + n)) (nI_add (q) (n)) ?_)
          refine lv_aload_n hx hb d_M_readLabels_47 rfl (lv_at hl 2 rfl) ?_
          refine gF (v := .int (nI x.length)) hx hb hown hE hK hP 0 rfl rfl layM 2 (by decide) w320 rfl d_M_readLabels_48 ?_
          refine lv_icmp_ge hx hb d_M_readLabels_51 (tgt := 67) rfl (fun g10 => ?_) (fun g10 => ?_)
          · have g10 := (nI_leI (a := x.length) (b := q + n) (by omega) (by omega)).mp g10
            refine lv_aload_n hx hb d_M_readLabels_67 rfl (lv_at hl 2 rfl) ?_
            refine lv_bipush (v := 7) hx hb d_M_readLabels_68 (by decide) ?_
            refine lv_iload_n hx hb d_M_readLabels_70 rfl (lv_at hl 1 rfl) ?_
            refine lv_iload_n hx hb d_M_readLabels_71 rfl (lv_at hl 0 rfl) ?_
            refine lv_iadd hx hb d_M_readLabels_72 (tpi (y := nI (q + n)) (nI_add (q) (n)) ?_)
            refine jfI (rnV (As := [.int 7, .int (nI (q + n))]) (rest := []) hx hb hml hown hE hK (hN _ _ hS) hP hD (k_flaw_0 l D dA H.size h ad (MS.s_labelCount (MS.s_labels x g) c9) 7 (nI (q + n)) hf) (q0 := 0) rfl rfl w431 w430 w432 w433 w328 rfl rfl ⟨⟨by decide, by decide⟩, rfl⟩ ⟨(Nat.le_of_ble_eq_true rfl), (Nat.le_of_ble_eq_true rfl)⟩ rfl hl.1 rfl (Nat.le_of_ble_eq_true rfl) d_M_readLabels_73 ⟨(Nat.le_of_ble_eq_true rfl), (Nat.le_of_ble_eq_true rfl)⟩) hP hD hS hA (fun r11 u12 H locs hp9 hP hD hS => ?_)
            have hP : va_P D vwCl (MW dA h ad (MS.s_labelCount (MS.s_labels (MS.s_faultPlace (MS.s_faultCode x 7) (nI (q + n))) g) c9)) H := hP
            have hD : va_D A (MW dA h ad (MS.s_labelCount (MS.s_labels (MS.s_faultPlace (MS.s_faultCode x 7) (nI (q + n))) g) c9)) := hD
            replace hp9 : bI false = r11 := Eq.symm hp9
            subst hp9
            exact rfZ hx hb hr (bI_nar false) hlk hS (MS.s_labelCount (MS.s_labels (MS.s_faultPlace (MS.s_faultCode x 7) (nI (q + n))) g) c9) ⟨rfl, by rw [if_neg g3, if_neg (show ¬ 24 < n by omega), if_pos g10] at i1; cases i1; exact ⟨_, _, rfl⟩⟩ hP hD (Nat.le_of_ble_eq_true rfl) (Nat.le_of_ble_eq_true rfl) d_M_readLabels_76
          · have g10 := mt (nI_leI (a := x.length) (b := q + n) (by omega) (by omega)).mpr g10
            refine lv_aload_n hx hb d_M_readLabels_54 rfl (lv_at hl 2 rfl) ?_
            refine gF (v := .ref (ad 1)) hx hb hown hE hK hP 0 rfl rfl layM 1 (by decide) w497 rfl d_M_readLabels_55 ?_
            refine lv_iload_n hx hb d_M_readLabels_58 rfl (lv_at hl 1 rfl) ?_
            refine lv_iload_n hx hb d_M_readLabels_59 rfl (lv_at hl 0 rfl) ?_
            refine lv_iadd hx hb d_M_readLabels_60 (tpi (y := nI (q + n)) (nI_add (q) (n)) ?_)
            refine nbld (f := x.tape) hx hb hK hP 1 0 rfl rfl (q + n) (by omega) (by decide) d_M_readLabels_61 ?_
            refine lv_bipush (v := 61) hx hb d_M_readLabels_62 (by decide) ?_
            refine lv_icmp_eq hx hb d_M_readLabels_64 (tgt := 77) rfl (fun g13 => ?_) (fun g13 => ?_)
            · have g13 := g13
              have J91 : ∀ (tw : Bool) (i6 : decide (c9 = 6) = tw), ∀ (H : Heap) (locs : List Loc) (ls : Array Slot) (hP : va_P D vwCl (MW dA h ad (MS.s_labelCount (MS.s_labels x g) c9)) H) (hD : va_D A (MW dA h ad (MS.s_labelCount (MS.s_labels x g) c9))) (hS : va_S A s.heap H locs) (hl : lv_has ls 6 [(2, .int (nI n)), (1, .int (nI q)), (0, .ref h)]), W p l e ({ frames := 3, cells := 0, slots := 0, locals := 42 } : Room) s m ([.ref h] : List Value).toArray below meth c H locs 0 0 (MQ below (va_Qi (fun (r9 : Int32) (u9 : MS) => r9 = bI false ∧ ∃ (a1 : Nat → Nat) (a2 : Nat), u9 = (((x.s_faultCode kf).s_faultPlace (nI pf)).s_labels a1).s_labelCount a2) (fun (u9 : MS) t9 => bW D A (MW dA h ad u9) t9) A) ([.ref h] : List Value).toArray s 0 0 A) (F0 m 91 ls [.int (bI tw)]) := by
                intro tw i6 H locs ls hP hD hS hl
                refine lv_istore_n hx hb d_M_readLabels_91 rfl hl (by decide) rfl (fun ls hl => ?_)
                have hl : lv_has ls 6 [(3, .int (bI tw)), (2, .int (nI n)), (1, .int (nI q)), (0, .ref h)] := hl
                have J149 : ∀ (tw : Bool) (i9 : (decide (c9 = 6) || anyB c9 (fun z => decide (cmpT x.tape (g (4 * z)) (g (4 * z + 1)) q n = 0))) = tw), ∀ (H : Heap) (locs : List Loc) (ls : Array Slot) (hP : va_P D vwCl (MW dA h ad (MS.s_labelCount (MS.s_labels x g) c9)) H) (hD : va_D A (MW dA h ad (MS.s_labelCount (MS.s_labels x g) c9))) (hS : va_S A s.heap H locs) (hl : lv_has ls 6 [(3, .int (bI tw)), (2, .int (nI n)), (1, .int (nI q)), (0, .ref h)]), W p l e ({ frames := 3, cells := 0, slots := 0, locals := 42 } : Room) s m ([.ref h] : List Value).toArray below meth c H locs 0 0 (MQ below (va_Qi (fun (r9 : Int32) (u9 : MS) => r9 = bI false ∧ ∃ (a1 : Nat → Nat) (a2 : Nat), u9 = (((x.s_faultCode kf).s_faultPlace (nI pf)).s_labels a1).s_labelCount a2) (fun (u9 : MS) t9 => bW D A (MW dA h ad u9) t9) A) ([.ref h] : List Value).toArray s 0 0 A) (F0 m 149 ls []) := by
                  intro tw i9 H locs ls hP hD hS hl
                  refine lv_iload_n hx hb d_M_readLabels_149 rfl (lv_at hl 0 rfl) ?_
                  refine lv_if_eq hx hb d_M_readLabels_150 (tgt := 161) rfl (fun g14 => ?_) (fun g14 => ?_)
                  · have g14 := bI_0 g14
                    have c6 : ¬ c9 = 6 := fun z => by rw [decide_eq_true z, Bool.true_or, g14] at i9; cases i9
                    refine lv_iload_n hx hb d_M_readLabels_161 rfl (lv_at hl 2 rfl) ?_
                    refine lv_iload_n hx hb d_M_readLabels_162 rfl (lv_at hl 1 rfl) ?_
                    refine lv_iadd hx hb d_M_readLabels_163 (tpi (y := nI (q + n)) (nI_add (q) (n)) ?_)
                    refine lv_iconst (v := 1) hx hb d_M_readLabels_164 (by decide) ?_
                    refine lv_iadd hx hb d_M_readLabels_165 (tpi (y := nI (q + n + 1)) (nI_add (q + n) (1)) ?_)
                    refine lv_istore hx hb d_M_readLabels_166 hl (by decide) rfl (fun ls hl => ?_)
                    have hl : lv_has ls 6 [(4, .int (nI (q + n + 1))), (3, .int (bI tw)), (2, .int (nI n)), (1, .int (nI q)), (0, .ref h)] := hl
                    refine lv_aload_n hx hb d_M_readLabels_168 rfl (lv_at hl 4 rfl) ?_
                    refine lv_iload hx hb d_M_readLabels_169 (lv_at hl 0 rfl) ?_
                    refine jfI (rnV (As := [.int (nI (q + n + 1))]) (rest := []) hx hb hml hown hE hK (hN _ _ hS) hP hD (k_wordLength l D dA H.size h ad (MS.s_labelCount (MS.s_labels x g) c9) (q + n + 1) (show (q + n + 1) ≤ 131072 from by omega) (show x.length ≤ 65536 from by omega)) (q0 := 0) rfl rfl w427 w426 w428 w429 w328 rfl rfl ⟨⟨by decide, by decide⟩, rfl⟩ ⟨(Nat.le_of_ble_eq_true rfl), (Nat.le_of_ble_eq_true rfl)⟩ rfl hl.1 rfl (Nat.le_of_ble_eq_true rfl) d_M_readLabels_171 ⟨(Nat.le_of_ble_eq_true rfl), (Nat.le_of_ble_eq_true rfl)⟩) hP hD hS hA (fun r15 u16 H locs hp9 hP hD hS => ?_)
                    have hP : va_P D vwCl (MW dA h ad (MS.s_labelCount (MS.s_labels x g) c9)) H := hP
                    have hD : va_D A (MW dA h ad (MS.s_labelCount (MS.s_labels x g) c9)) := hD
                    replace hp9 : nI (wlen x.tape x.length 25 (q + n + 1)) = r15 := Eq.symm hp9
                    subst hp9
                    refine tpi (y := nI v) (congrArg nI hv) ?_
                    refine lv_istore hx hb d_M_readLabels_174 hl (by decide) rfl (fun ls hl => ?_)
                    have hl : lv_has ls 6 [(5, .int (nI v)), (4, .int (nI (q + n + 1))), (3, .int (bI tw)), (2, .int (nI n)), (1, .int (nI q)), (0, .ref h)] := hl
                    refine lv_iload hx hb d_M_readLabels_176 (lv_at hl 0 rfl) ?_
                    refine lv_if_eq hx hb d_M_readLabels_178 (tgt := 188) rfl (fun g17 => ?_) (fun g17 => ?_)
                    · have g17 := (nI_eq (a := v) (b := 0) (by omega) (by decide)).mp g17
                      refine lv_aload_n hx hb d_M_readLabels_188 rfl (lv_at hl 5 rfl) ?_
                      refine lv_bipush (v := 7) hx hb d_M_readLabels_189 (by decide) ?_
                      refine lv_iload hx hb d_M_readLabels_191 (lv_at hl 1 rfl) ?_
                      refine lv_iload hx hb d_M_readLabels_193 (lv_at hl 0 rfl) ?_
                      refine lv_bipush (v := 24) hx hb d_M_readLabels_195 (by decide) ?_
                      refine lv_icmp_le hx hb d_M_readLabels_197 (tgt := 205) rfl (fun g18 => ?_) (fun g18 => ?_)
                      · have g18 := (nI_leI (a := v) (b := 24) (by omega) (by omega)).mp g18
                        refine lv_iconst (v := 0) hx hb d_M_readLabels_205 (by decide) ?_
                        refine lv_iadd hx hb d_M_readLabels_206 (tpi (y := nI (q + n + 1)) (nI_add (q + n + 1) (0)) ?_)
                        refine jfI (rnV (As := [.int 7, .int (nI (q + n + 1))]) (rest := []) hx hb hml hown hE hK (hN _ _ hS) hP hD (k_flaw_0 l D dA H.size h ad (MS.s_labelCount (MS.s_labels x g) c9) 7 (nI (q + n + 1)) hf) (q0 := 0) rfl rfl w431 w430 w432 w433 w328 rfl rfl ⟨⟨by decide, by decide⟩, rfl⟩ ⟨(Nat.le_of_ble_eq_true rfl), (Nat.le_of_ble_eq_true rfl)⟩ rfl hl.1 rfl (Nat.le_of_ble_eq_true rfl) d_M_readLabels_207 ⟨(Nat.le_of_ble_eq_true rfl), (Nat.le_of_ble_eq_true rfl)⟩) hP hD hS hA (fun r19 u20 H locs hp9 hP hD hS => ?_)
                        have hP : va_P D vwCl (MW dA h ad (MS.s_labelCount (MS.s_labels (MS.s_faultPlace (MS.s_faultCode x 7) (nI (q + n + 1))) g) c9)) H := hP
                        have hD : va_D A (MW dA h ad (MS.s_labelCount (MS.s_labels (MS.s_faultPlace (MS.s_faultCode x 7) (nI (q + n + 1))) g) c9)) := hD
                        replace hp9 : bI false = r19 := Eq.symm hp9
                        subst hp9
                        exact rfZ hx hb hr (bI_nar false) hlk hS (MS.s_labelCount (MS.s_labels (MS.s_faultPlace (MS.s_faultCode x 7) (nI (q + n + 1))) g) c9) ⟨rfl, by rw [if_neg g3, if_neg (show ¬ 24 < n by omega), if_neg g10, if_neg (not_not_intro g13), if_neg (by rw [i9, g14]; decide), if_pos g17] at i1; cases i1; exact ⟨_, _, rfl⟩⟩ hP hD (Nat.le_of_ble_eq_true rfl) (Nat.le_of_ble_eq_true rfl) d_M_readLabels_210
                      · have g18 := mt (nI_leI (a := v) (b := 24) (by omega) (by omega)).mpr g18
                        refine lv_bipush (v := 24) hx hb d_M_readLabels_200 (by decide) ?_
                        refine lv_goto hx hb d_M_readLabels_202 (tgt := 206) rfl ?_
                        refine lv_iadd hx hb d_M_readLabels_206 (tpi (y := nI (q + n + 1 + 24)) (nI_add (q + n + 1) (24)) ?_)
                        refine jfI (rnV (As := [.int 7, .int (nI (q + n + 1 + 24))]) (rest := []) hx hb hml hown hE hK (hN _ _ hS) hP hD (k_flaw_0 l D dA H.size h ad (MS.s_labelCount (MS.s_labels x g) c9) 7 (nI (q + n + 1 + 24)) hf) (q0 := 0) rfl rfl w431 w430 w432 w433 w328 rfl rfl ⟨⟨by decide, by decide⟩, rfl⟩ ⟨(Nat.le_of_ble_eq_true rfl), (Nat.le_of_ble_eq_true rfl)⟩ rfl hl.1 rfl (Nat.le_of_ble_eq_true rfl) d_M_readLabels_207 ⟨(Nat.le_of_ble_eq_true rfl), (Nat.le_of_ble_eq_true rfl)⟩) hP hD hS hA (fun r21 u22 H locs hp9 hP hD hS => ?_)
                        have hP : va_P D vwCl (MW dA h ad (MS.s_labelCount (MS.s_labels (MS.s_faultPlace (MS.s_faultCode x 7) (nI (q + n + 1 + 24))) g) c9)) H := hP
                        have hD : va_D A (MW dA h ad (MS.s_labelCount (MS.s_labels (MS.s_faultPlace (MS.s_faultCode x 7) (nI (q + n + 1 + 24))) g) c9)) := hD
                        replace hp9 : bI false = r21 := Eq.symm hp9
                        subst hp9
                        exact rfZ hx hb hr (bI_nar false) hlk hS (MS.s_labelCount (MS.s_labels (MS.s_faultPlace (MS.s_faultCode x 7) (nI (q + n + 1 + 24))) g) c9) (by exfalso; omega) hP hD (Nat.le_of_ble_eq_true rfl) (Nat.le_of_ble_eq_true rfl) d_M_readLabels_210
                    · have g17 := mt (nI_eq (a := v) (b := 0) (by omega) (by decide)).mpr g17
                      refine lv_iload hx hb d_M_readLabels_181 (lv_at hl 0 rfl) ?_
                      refine lv_bipush (v := 24) hx hb d_M_readLabels_183 (by decide) ?_
                      refine lv_icmp_le hx hb d_M_readLabels_185 (tgt := 211) rfl (fun g23 => ?_) (fun g23 => ?_)
                      · have g23 := (nI_leI (a := v) (b := 24) (by omega) (by omega)).mp g23
                        refine lv_aload_n hx hb d_M_readLabels_211 rfl (lv_at hl 5 rfl) ?_
                        refine gF (v := .ref (ad 42)) hx hb hown hE hK hP 0 rfl rfl layM 42 (by decide) w517 rfl d_M_readLabels_212 ?_
                        refine lv_iconst (v := 4) hx hb d_M_readLabels_215 (by decide) ?_
                        refine lv_aload_n hx hb d_M_readLabels_216 rfl (lv_at hl 5 rfl) ?_
                        refine gF (v := .int (nI c9)) hx hb hown hE hK hP 0 rfl rfl layM 43 (by decide) w425 rfl d_M_readLabels_217 ?_
                        refine lv_imul hx hb d_M_readLabels_220 (tpi (y := nI (4 * c9)) (pk_mul (4) (c9)) ?_)
                        refine lv_iload_n hx hb d_M_readLabels_221 rfl (lv_at hl 4 rfl) ?_
                        refine nistN (v := q) hx hb hK hP hD hS 20 1 rfl rfl (4 * c9) (by omega) (by decide) d_M_readLabels_222 (fun H locs hP hD hS => ?_)
                        have hP : va_P D vwCl (MW dA h ad (MS.s_labelCount (MS.s_labels x (va_up g (4 * c9) q)) c9)) H := hP
                        have hD : va_D A (MW dA h ad (MS.s_labelCount (MS.s_labels x (va_up g (4 * c9) q)) c9)) := hD
                        refine lv_aload_n hx hb d_M_readLabels_223 rfl (lv_at hl 5 rfl) ?_
                        refine gF (v := .ref (ad 42)) hx hb hown hE hK hP 0 rfl rfl layM 42 (by decide) w517 rfl d_M_readLabels_224 ?_
                        refine lv_iconst (v := 4) hx hb d_M_readLabels_227 (by decide) ?_
                        refine lv_aload_n hx hb d_M_readLabels_228 rfl (lv_at hl 5 rfl) ?_
                        refine gF (v := .int (nI c9)) hx hb hown hE hK hP 0 rfl rfl layM 43 (by decide) w425 rfl d_M_readLabels_229 ?_
                        refine lv_imul hx hb d_M_readLabels_232 (tpi (y := nI (4 * c9)) (pk_mul (4) (c9)) ?_)
                        refine lv_iconst (v := 1) hx hb d_M_readLabels_233 (by decide) ?_
                        refine lv_iadd hx hb d_M_readLabels_234 (tpi (y := nI ((4 * c9) + 1)) (nI_add (4 * c9) (1)) ?_)
                        refine lv_iload_n hx hb d_M_readLabels_235 rfl (lv_at hl 3 rfl) ?_
                        refine nistN (v := n) hx hb hK hP hD hS 20 1 rfl rfl ((4 * c9) + 1) (by omega) (by decide) d_M_readLabels_236 (fun H locs hP hD hS => ?_)
                        have hP : va_P D vwCl (MW dA h ad (MS.s_labelCount (MS.s_labels x (va_up (va_up g (4 * c9) q) ((4 * c9) + 1) n)) c9)) H := hP
                        have hD : va_D A (MW dA h ad (MS.s_labelCount (MS.s_labels x (va_up (va_up g (4 * c9) q) ((4 * c9) + 1) n)) c9)) := hD
                        refine lv_aload_n hx hb d_M_readLabels_237 rfl (lv_at hl 5 rfl) ?_
                        refine gF (v := .ref (ad 42)) hx hb hown hE hK hP 0 rfl rfl layM 42 (by decide) w517 rfl d_M_readLabels_238 ?_
                        refine lv_iconst (v := 4) hx hb d_M_readLabels_241 (by decide) ?_
                        refine lv_aload_n hx hb d_M_readLabels_242 rfl (lv_at hl 5 rfl) ?_
                        refine gF (v := .int (nI c9)) hx hb hown hE hK hP 0 rfl rfl layM 43 (by decide) w425 rfl d_M_readLabels_243 ?_
                        refine lv_imul hx hb d_M_readLabels_246 (tpi (y := nI (4 * c9)) (pk_mul (4) (c9)) ?_)
                        refine lv_iconst (v := 2) hx hb d_M_readLabels_247 (by decide) ?_
                        refine lv_iadd hx hb d_M_readLabels_248 (tpi (y := nI ((4 * c9) + 2)) (nI_add (4 * c9) (2)) ?_)
                        refine lv_iload hx hb d_M_readLabels_249 (lv_at hl 1 rfl) ?_
                        refine nistN (v := q + n + 1) hx hb hK hP hD hS 20 1 rfl rfl ((4 * c9) + 2) (by omega) (by decide) d_M_readLabels_251 (fun H locs hP hD hS => ?_)
                        have hP : va_P D vwCl (MW dA h ad (MS.s_labelCount (MS.s_labels x (va_up (va_up (va_up g (4 * c9) q) ((4 * c9) + 1) n) ((4 * c9) + 2) (q + n + 1))) c9)) H := hP
                        have hD : va_D A (MW dA h ad (MS.s_labelCount (MS.s_labels x (va_up (va_up (va_up g (4 * c9) q) ((4 * c9) + 1) n) ((4 * c9) + 2) (q + n + 1))) c9)) := hD
                        refine lv_aload_n hx hb d_M_readLabels_252 rfl (lv_at hl 5 rfl) ?_
                        refine gF (v := .ref (ad 42)) hx hb hown hE hK hP 0 rfl rfl layM 42 (by decide) w517 rfl d_M_readLabels_253 ?_
                        refine lv_iconst (v := 4) hx hb d_M_readLabels_256 (by decide) ?_
                        refine lv_aload_n hx hb d_M_readLabels_257 rfl (lv_at hl 5 rfl) ?_
                        refine gF (v := .int (nI c9)) hx hb hown hE hK hP 0 rfl rfl layM 43 (by decide) w425 rfl d_M_readLabels_258 ?_
                        refine lv_imul hx hb d_M_readLabels_261 (tpi (y := nI (4 * c9)) (pk_mul (4) (c9)) ?_)
                        refine lv_iconst (v := 3) hx hb d_M_readLabels_262 (by decide) ?_
                        refine lv_iadd hx hb d_M_readLabels_263 (tpi (y := nI ((4 * c9) + 3)) (nI_add (4 * c9) (3)) ?_)
                        refine lv_iload hx hb d_M_readLabels_264 (lv_at hl 0 rfl) ?_
                        refine nistN (v := v) hx hb hK hP hD hS 20 1 rfl rfl ((4 * c9) + 3) (by omega) (by decide) d_M_readLabels_266 (fun H locs hP hD hS => ?_)
                        have hP : va_P D vwCl (MW dA h ad (MS.s_labelCount (MS.s_labels x (va_up (va_up (va_up (va_up g (4 * c9) q) ((4 * c9) + 1) n) ((4 * c9) + 2) (q + n + 1)) ((4 * c9) + 3) v)) c9)) H := hP
                        have hD : va_D A (MW dA h ad (MS.s_labelCount (MS.s_labels x (va_up (va_up (va_up (va_up g (4 * c9) q) ((4 * c9) + 1) n) ((4 * c9) + 2) (q + n + 1)) ((4 * c9) + 3) v)) c9)) := hD
                        refine lv_aload_n hx hb d_M_readLabels_267 rfl (lv_at hl 5 rfl) ?_
                        refine lv_dup hx hb d_M_readLabels_268 rfl ?_
                        refine gF (v := .int (nI c9)) hx hb hown hE hK hP 0 rfl rfl layM 43 (by decide) w425 rfl d_M_readLabels_269 ?_
                        refine lv_iconst (v := 1) hx hb d_M_readLabels_272 (by decide) ?_
                        refine lv_iadd hx hb d_M_readLabels_273 (tpi (y := nI (c9 + 1)) (nI_add (c9) (1)) ?_)
                        refine pF (v := .int (nI (c9 + 1))) hx hb hown hE hK hP hD hS 0 rfl rfl layM tyM tokM nmM 43 (by decide) w425 rfl rfl rfl (Nat.le_of_ble_eq_true rfl) d_M_readLabels_274 (fun H locs hP hD hS => ?_)
                        have hP : va_P D vwCl (MW dA h ad (MS.s_labelCount (MS.s_labels x (va_up (va_up (va_up (va_up g (4 * c9) q) ((4 * c9) + 1) n) ((4 * c9) + 2) (q + n + 1)) ((4 * c9) + 3) v)) (c9 + 1))) H := hP
                        have hD : va_D A (MW dA h ad (MS.s_labelCount (MS.s_labels x (va_up (va_up (va_up (va_up g (4 * c9) q) ((4 * c9) + 1) n) ((4 * c9) + 2) (q + n + 1)) ((4 * c9) + 3) v)) (c9 + 1))) := hD
                        refine lv_iload hx hb d_M_readLabels_277 (lv_at hl 1 rfl) ?_
                        refine lv_iload hx hb d_M_readLabels_279 (lv_at hl 0 rfl) ?_
                        refine lv_iadd hx hb d_M_readLabels_281 (tpi (y := nI (q + n + 1 + v)) (nI_add (q + n + 1) (v)) ?_)
                        refine lv_istore_n hx hb d_M_readLabels_282 rfl hl (by decide) rfl (fun ls hl => ?_)
                        have hl : lv_has ls 6 [(1, .int (nI (q + n + 1 + v))), (5, .int (nI v)), (4, .int (nI (q + n + 1))), (3, .int (bI tw)), (2, .int (nI n)), (0, .ref h)] := hl
                        refine lv_iload_n hx hb d_M_readLabels_283 rfl (lv_at hl 0 rfl) ?_
                        refine lv_aload_n hx hb d_M_readLabels_284 rfl (lv_at hl 5 rfl) ?_
                        refine gF (v := .int (nI x.length)) hx hb hown hE hK hP 0 rfl rfl layM 2 (by decide) w320 rfl d_M_readLabels_285 ?_
                        refine lv_icmp_ne hx hb d_M_readLabels_288 (tgt := 293) rfl (fun g24 => ?_) (fun g24 => ?_)
                        · have g24 := mt (nI_eq (a := q + n + 1 + v) (b := x.length) (by omega) (by omega)).mpr g24
                          refine lv_aload_n hx hb d_M_readLabels_293 rfl (lv_at hl 5 rfl) ?_
                          refine gF (v := .ref (ad 1)) hx hb hown hE hK hP 0 rfl rfl layM 1 (by decide) w497 rfl d_M_readLabels_294 ?_
                          refine lv_iload_n hx hb d_M_readLabels_297 rfl (lv_at hl 0 rfl) ?_
                          refine nbld (f := x.tape) hx hb hK hP 1 0 rfl rfl (q + n + 1 + v) (by omega) (by decide) d_M_readLabels_298 ?_
                          refine lv_bipush (v := 44) hx hb d_M_readLabels_299 (by decide) ?_
                          refine lv_icmp_eq hx hb d_M_readLabels_301 (tgt := 312) rfl (fun g25 => ?_) (fun g25 => ?_)
                          · have g25 := g25
                            refine lv_iinc (k := 0) (v := nI (q + n + 1 + v + 1)) hx hb d_M_readLabels_312 hl rfl (iincN (q + n + 1 + v) 1 1 (by decide)) (by decide) rfl (fun ls hl => ?_)
                            have hl : lv_has ls 6 [(1, .int (nI (q + n + 1 + v + 1))), (5, .int (nI v)), (4, .int (nI (q + n + 1))), (3, .int (bI tw)), (2, .int (nI n)), (0, .ref h)] := hl
                            refine lv_goto hx hb d_M_readLabels_315 (tgt := 7) rfl ?_
                            exact ih7 _ (by omega) w (q + n + 1 + v + 1) (c9 + 1) (va_up (va_up (va_up (va_up g (4 * c9) q) ((4 * c9) + 1) n) ((4 * c9) + 2) (q + n + 1)) ((4 * c9) + 3) v) (by rw [if_neg g3, if_neg (show ¬ 24 < n by omega), if_neg g10, if_neg (not_not_intro g13), if_neg (by rw [i9, g14]; decide), if_neg g17, if_neg (show ¬ 24 < v by omega), if_neg (show ¬ q + n + 1 + v = x.length by omega), if_neg (not_not_intro g25)] at i1; exact i1) (by omega) (by omega) (by omega) (lab_up i4 n2) rfl H _ ls hP hD hS (lv_sub hl [0, 5] rfl)
                          · have g25 := g25
                            refine lv_aload_n hx hb d_M_readLabels_304 rfl (lv_at hl 5 rfl) ?_
                            refine lv_bipush (v := 7) hx hb d_M_readLabels_305 (by decide) ?_
                            refine lv_iload_n hx hb d_M_readLabels_307 rfl (lv_at hl 0 rfl) ?_
                            refine jfI (rnV (As := [.int 7, .int (nI (q + n + 1 + v))]) (rest := []) hx hb hml hown hE hK (hN _ _ hS) hP hD (k_flaw_0 l D dA H.size h ad (MS.s_labelCount (MS.s_labels x (va_up (va_up (va_up (va_up g (4 * c9) q) ((4 * c9) + 1) n) ((4 * c9) + 2) (q + n + 1)) ((4 * c9) + 3) v)) (c9 + 1)) 7 (nI (q + n + 1 + v)) hf) (q0 := 0) rfl rfl w431 w430 w432 w433 w328 rfl rfl ⟨⟨by decide, by decide⟩, rfl⟩ ⟨(Nat.le_of_ble_eq_true rfl), (Nat.le_of_ble_eq_true rfl)⟩ rfl hl.1 rfl (Nat.le_of_ble_eq_true rfl) d_M_readLabels_308 ⟨(Nat.le_of_ble_eq_true rfl), (Nat.le_of_ble_eq_true rfl)⟩) hP hD hS hA (fun r26 u27 H locs hp9 hP hD hS => ?_)
                            have hP : va_P D vwCl (MW dA h ad (MS.s_labelCount (MS.s_labels (MS.s_faultPlace (MS.s_faultCode x 7) (nI (q + n + 1 + v))) (va_up (va_up (va_up (va_up g (4 * c9) q) ((4 * c9) + 1) n) ((4 * c9) + 2) (q + n + 1)) ((4 * c9) + 3) v)) (c9 + 1))) H := hP
                            have hD : va_D A (MW dA h ad (MS.s_labelCount (MS.s_labels (MS.s_faultPlace (MS.s_faultCode x 7) (nI (q + n + 1 + v))) (va_up (va_up (va_up (va_up g (4 * c9) q) ((4 * c9) + 1) n) ((4 * c9) + 2) (q + n + 1)) ((4 * c9) + 3) v)) (c9 + 1))) := hD
                            replace hp9 : bI false = r26 := Eq.symm hp9
                            subst hp9
                            exact rfZ hx hb hr (bI_nar false) hlk hS (MS.s_labelCount (MS.s_labels (MS.s_faultPlace (MS.s_faultCode x 7) (nI (q + n + 1 + v))) (va_up (va_up (va_up (va_up g (4 * c9) q) ((4 * c9) + 1) n) ((4 * c9) + 2) (q + n + 1)) ((4 * c9) + 3) v)) (c9 + 1)) ⟨rfl, by rw [if_neg g3, if_neg (show ¬ 24 < n by omega), if_neg g10, if_neg (not_not_intro g13), if_neg (by rw [i9, g14]; decide), if_neg g17, if_neg (show ¬ 24 < v by omega), if_neg (show ¬ q + n + 1 + v = x.length by omega), if_pos g25] at i1; cases i1; exact ⟨_, _, rfl⟩⟩ hP hD (Nat.le_of_ble_eq_true rfl) (Nat.le_of_ble_eq_true rfl) d_M_readLabels_311
                        · have g24 := (nI_eq (a := q + n + 1 + v) (b := x.length) (by omega) (by omega)).mp g24
                          refine lv_iconst (v := 1) hx hb d_M_readLabels_291 (by decide) ?_
                          exact rfZ hx hb hr (bI_nar true) hlk hS (MS.s_labelCount (MS.s_labels x (va_up (va_up (va_up (va_up g (4 * c9) q) ((4 * c9) + 1) n) ((4 * c9) + 2) (q + n + 1)) ((4 * c9) + 3) v)) (c9 + 1)) (by exfalso; rw [if_neg g3, if_neg (show ¬ 24 < n by omega), if_neg g10, if_neg (not_not_intro g13), if_neg (by rw [i9, g14]; decide), if_neg g17, if_neg (show ¬ 24 < v by omega), if_pos (show q + n + 1 + v = x.length by omega)] at i1; cases i1) hP hD (Nat.le_of_ble_eq_true rfl) (Nat.le_of_ble_eq_true rfl) d_M_readLabels_292
                      · have g23 := mt (nI_leI (a := v) (b := 24) (by omega) (by omega)).mpr g23
                        refine lv_aload_n hx hb d_M_readLabels_188 rfl (lv_at hl 5 rfl) ?_
                        refine lv_bipush (v := 7) hx hb d_M_readLabels_189 (by decide) ?_
                        refine lv_iload hx hb d_M_readLabels_191 (lv_at hl 1 rfl) ?_
                        refine lv_iload hx hb d_M_readLabels_193 (lv_at hl 0 rfl) ?_
                        refine lv_bipush (v := 24) hx hb d_M_readLabels_195 (by decide) ?_
                        refine lv_icmp_le hx hb d_M_readLabels_197 (tgt := 205) rfl (fun h9 => absurd h9 (mt (nI_leI (a := v) (b := 24) (by omega) (by omega)).mp g23)) (fun _ => ?_)
                        refine lv_bipush (v := 24) hx hb d_M_readLabels_200 (by decide) ?_
                        refine lv_goto hx hb d_M_readLabels_202 (tgt := 206) rfl ?_
                        refine lv_iadd hx hb d_M_readLabels_206 (tpi (y := nI (q + n + 1 + 24)) (nI_add (q + n + 1) (24)) ?_)
                        refine jfI (rnV (As := [.int 7, .int (nI (q + n + 1 + 24))]) (rest := []) hx hb hml hown hE hK (hN _ _ hS) hP hD (k_flaw_0 l D dA H.size h ad (MS.s_labelCount (MS.s_labels x g) c9) 7 (nI (q + n + 1 + 24)) hf) (q0 := 0) rfl rfl w431 w430 w432 w433 w328 rfl rfl ⟨⟨by decide, by decide⟩, rfl⟩ ⟨(Nat.le_of_ble_eq_true rfl), (Nat.le_of_ble_eq_true rfl)⟩ rfl hl.1 rfl (Nat.le_of_ble_eq_true rfl) d_M_readLabels_207 ⟨(Nat.le_of_ble_eq_true rfl), (Nat.le_of_ble_eq_true rfl)⟩) hP hD hS hA (fun r28 u29 H locs hp9 hP hD hS => ?_)
                        have hP : va_P D vwCl (MW dA h ad (MS.s_labelCount (MS.s_labels (MS.s_faultPlace (MS.s_faultCode x 7) (nI (q + n + 1 + 24))) g) c9)) H := hP
                        have hD : va_D A (MW dA h ad (MS.s_labelCount (MS.s_labels (MS.s_faultPlace (MS.s_faultCode x 7) (nI (q + n + 1 + 24))) g) c9)) := hD
                        replace hp9 : bI false = r28 := Eq.symm hp9
                        subst hp9
                        exact rfZ hx hb hr (bI_nar false) hlk hS (MS.s_labelCount (MS.s_labels (MS.s_faultPlace (MS.s_faultCode x 7) (nI (q + n + 1 + 24))) g) c9) ⟨rfl, by rw [if_neg g3, if_neg (show ¬ 24 < n by omega), if_neg g10, if_neg (not_not_intro g13), if_neg (by rw [i9, g14]; decide), if_neg g17, if_pos (show 24 < v by omega)] at i1; cases i1; exact ⟨_, _, rfl⟩⟩ hP hD (Nat.le_of_ble_eq_true rfl) (Nat.le_of_ble_eq_true rfl) d_M_readLabels_210
                  · have g14 := bI_n0 g14
                    refine lv_aload_n hx hb d_M_readLabels_153 rfl (lv_at hl 3 rfl) ?_
                    refine lv_bipush (v := 8) hx hb d_M_readLabels_154 (by decide) ?_
                    refine lv_iload_n hx hb d_M_readLabels_156 rfl (lv_at hl 2 rfl) ?_
                    refine jfI (rnV (As := [.int 8, .int (nI q)]) (rest := []) hx hb hml hown hE hK (hN _ _ hS) hP hD (k_flaw_0 l D dA H.size h ad (MS.s_labelCount (MS.s_labels x g) c9) 8 (nI q) hf) (q0 := 0) rfl rfl w431 w430 w432 w433 w328 rfl rfl ⟨⟨by decide, by decide⟩, rfl⟩ ⟨(Nat.le_of_ble_eq_true rfl), (Nat.le_of_ble_eq_true rfl)⟩ rfl hl.1 rfl (Nat.le_of_ble_eq_true rfl) d_M_readLabels_157 ⟨(Nat.le_of_ble_eq_true rfl), (Nat.le_of_ble_eq_true rfl)⟩) hP hD hS hA (fun r30 u31 H locs hp9 hP hD hS => ?_)
                    have hP : va_P D vwCl (MW dA h ad (MS.s_labelCount (MS.s_labels (MS.s_faultPlace (MS.s_faultCode x 8) (nI q)) g) c9)) H := hP
                    have hD : va_D A (MW dA h ad (MS.s_labelCount (MS.s_labels (MS.s_faultPlace (MS.s_faultCode x 8) (nI q)) g) c9)) := hD
                    replace hp9 : bI false = r30 := Eq.symm hp9
                    subst hp9
                    exact rfZ hx hb hr (bI_nar false) hlk hS (MS.s_labelCount (MS.s_labels (MS.s_faultPlace (MS.s_faultCode x 8) (nI q)) g) c9) ⟨rfl, by rw [if_neg g3, if_neg (show ¬ 24 < n by omega), if_neg g10, if_neg (not_not_intro g13), if_pos (i9.trans g14)] at i1; cases i1; exact ⟨_, _, rfl⟩⟩ hP hD (Nat.le_of_ble_eq_true rfl) (Nat.le_of_ble_eq_true rfl) d_M_readLabels_160
                refine lv_iconst (v := 0) hx hb d_M_readLabels_92 (by decide) ?_
                refine lv_istore hx hb d_M_readLabels_93 hl (by decide) rfl (fun ls hl => ?_)
                have hl : lv_has ls 6 [(4, .int 0), (3, .int (bI tw)), (2, .int (nI n)), (1, .int (nI q)), (0, .ref h)] := hl
                have L95 : ∀ (k9 : Nat) (k : Nat) (tw : Bool) (i8 : k ≤ c9) (i7 : (decide (c9 = 6) || anyB k (twB x.tape g q n)) = tw) (hk9 : c9 - k = k9), ∀ (H : Heap) (locs : List Loc) (ls : Array Slot) (hP : va_P D vwCl (MW dA h ad (MS.s_labelCount (MS.s_labels x g) c9)) H) (hD : va_D A (MW dA h ad (MS.s_labelCount (MS.s_labels x g) c9))) (hS : va_S A s.heap H locs) (hl : lv_has ls 6 [(4, .int (nI k)), (3, .int (bI tw)), (2, .int (nI n)), (1, .int (nI q)), (0, .ref h)]), W p l e ({ frames := 3, cells := 0, slots := 0, locals := 42 } : Room) s m ([.ref h] : List Value).toArray below meth c H locs 0 0 (MQ below (va_Qi (fun (r9 : Int32) (u9 : MS) => r9 = bI false ∧ ∃ (a1 : Nat → Nat) (a2 : Nat), u9 = (((x.s_faultCode kf).s_faultPlace (nI pf)).s_labels a1).s_labelCount a2) (fun (u9 : MS) t9 => bW D A (MW dA h ad u9) t9) A) ([.ref h] : List Value).toArray s 0 0 A) (F0 m 95 ls []) := by
                  intro k9
                  induction k9 using Nat.strongRecOn with
                  | ind k9 ih95 =>
                    intro k tw i8 i7 hk9 H locs ls hP hD hS hl
                    refine lv_iload hx hb d_M_readLabels_95 (lv_at hl 0 rfl) ?_
                    refine lv_aload_n hx hb d_M_readLabels_97 rfl (lv_at hl 4 rfl) ?_
                    refine gF (v := .int (nI c9)) hx hb hown hE hK hP 0 rfl rfl layM 43 (by decide) w425 rfl d_M_readLabels_98 ?_
                    refine lv_icmp_ge hx hb d_M_readLabels_101 (tgt := 149) rfl (fun g32 => ?_) (fun g32 => ?_)
                    · have g32 := (nI_leI (a := c9) (b := k) (by omega) (by omega)).mp g32
                      exact J149 tw (by rw [show k = c9 by omega] at i7; exact i7) H _ ls hP hD hS (lv_sub hl [1, 2, 3, 4] rfl)
                    · have g32 := mt (nI_leI (a := c9) (b := k) (by omega) (by omega)).mpr g32
                      refine lv_iload_n hx hb d_M_readLabels_104 rfl (lv_at hl 1 rfl) ?_
                      refine lv_if_ne hx hb d_M_readLabels_105 (tgt := 137) rfl (fun g33 => ?_) (fun g33 => ?_)
                      · have g33 := bI_n0 g33
                        refine lv_iconst (v := 1) hx hb d_M_readLabels_137 (by decide) ?_
                        refine lv_goto hx hb d_M_readLabels_138 (tgt := 142) rfl ?_
                        refine lv_istore_n hx hb d_M_readLabels_142 rfl hl (by decide) rfl (fun ls hl => ?_)
                        have hl : lv_has ls 6 [(3, .int 1), (4, .int (nI k)), (2, .int (nI n)), (1, .int (nI q)), (0, .ref h)] := hl
                        refine lv_iinc (k := 1) (v := nI (k + 1)) hx hb d_M_readLabels_143 hl rfl (iincN (k) 1 1 (by decide)) (by decide) rfl (fun ls hl => ?_)
                        have hl : lv_has ls 6 [(4, .int (nI (k + 1))), (3, .int 1), (2, .int (nI n)), (1, .int (nI q)), (0, .ref h)] := hl
                        refine lv_goto hx hb d_M_readLabels_146 (tgt := 95) rfl ?_
                        exact ih95 _ (by omega) (k + 1) true (by omega) (by rw [anyB_s, ← Bool.or_assoc, i7, g33]; rfl) rfl H _ ls hP hD hS (lv_sub hl [0, 1, 2, 3, 4] rfl)
                      · have g33 := bI_0 g33
                        refine lv_aload_n hx hb d_M_readLabels_108 rfl (lv_at hl 4 rfl) ?_
                        refine lv_aload_n hx hb d_M_readLabels_109 rfl (lv_at hl 4 rfl) ?_
                        refine gF (v := .ref (ad 42)) hx hb hown hE hK hP 0 rfl rfl layM 42 (by decide) w517 rfl d_M_readLabels_110 ?_
                        refine lv_iconst (v := 4) hx hb d_M_readLabels_113 (by decide) ?_
                        refine lv_iload hx hb d_M_readLabels_114 (lv_at hl 0 rfl) ?_
                        refine lv_imul hx hb d_M_readLabels_116 (tpi (y := nI (4 * k)) (pk_mul (4) (k)) ?_)
                        refine nild (f := (fun z9 => nI (g z9))) hx hb hK hP 20 1 rfl rfl (4 * k) (by omega) (by decide) d_M_readLabels_117 ?_
                        refine lv_aload_n hx hb d_M_readLabels_118 rfl (lv_at hl 4 rfl) ?_
                        refine gF (v := .ref (ad 42)) hx hb hown hE hK hP 0 rfl rfl layM 42 (by decide) w517 rfl d_M_readLabels_119 ?_
                        refine lv_iconst (v := 4) hx hb d_M_readLabels_122 (by decide) ?_
                        refine lv_iload hx hb d_M_readLabels_123 (lv_at hl 0 rfl) ?_
                        refine lv_imul hx hb d_M_readLabels_125 (tpi (y := nI (4 * k)) (pk_mul (4) (k)) ?_)
                        refine lv_iconst (v := 1) hx hb d_M_readLabels_126 (by decide) ?_
                        refine lv_iadd hx hb d_M_readLabels_127 (tpi (y := nI ((4 * k) + 1)) (nI_add (4 * k) (1)) ?_)
                        refine nild (f := (fun z9 => nI (g z9))) hx hb hK hP 20 1 rfl rfl ((4 * k) + 1) (by omega) (by decide) d_M_readLabels_128 ?_
                        refine lv_iload_n hx hb d_M_readLabels_129 rfl (lv_at hl 3 rfl) ?_
                        refine lv_iload_n hx hb d_M_readLabels_130 rfl (lv_at hl 2 rfl) ?_
                        refine jfI (rnV (As := [.int (nI (g (4 * k))), .int (nI (g ((4 * k) + 1))), .int (nI q), .int (nI n)]) (rest := []) hx hb hml hown hE hK (hN _ _ hS) hP hD (k_compare l D dA H.size h ad (MS.s_labelCount (MS.s_labels x g) c9) (g (4 * k)) (g ((4 * k) + 1)) q n (by have := i4 k (by omega); omega) (show q + n ≤ 65536 from by omega)) (q0 := 0) rfl rfl w939 w938 w940 w941 w328 rfl rfl ⟨⟨by decide, by decide⟩, rfl⟩ ⟨(Nat.le_of_ble_eq_true rfl), (Nat.le_of_ble_eq_true rfl)⟩ rfl hl.1 rfl (Nat.le_of_ble_eq_true rfl) d_M_readLabels_131 ⟨(Nat.le_of_ble_eq_true rfl), (Nat.le_of_ble_eq_true rfl)⟩) hP hD hS hA (fun r34 u35 H locs hp9 hP hD hS => ?_)
                        have hP : va_P D vwCl (MW dA h ad (MS.s_labelCount (MS.s_labels x g) c9)) H := hP
                        have hD : va_D A (MW dA h ad (MS.s_labelCount (MS.s_labels x g) c9)) := hD
                        replace hp9 : cmpT x.tape (g (4 * k)) (g ((4 * k) + 1)) q n = r34 := Eq.symm hp9
                        subst hp9
                        refine lv_if_ne hx hb d_M_readLabels_134 (tgt := 141) rfl (fun g36 => ?_) (fun g36 => ?_)
                        · have g36 := g36
                          refine lv_iconst (v := 0) hx hb d_M_readLabels_141 (by decide) ?_
                          refine lv_istore_n hx hb d_M_readLabels_142 rfl hl (by decide) rfl (fun ls hl => ?_)
                          have hl : lv_has ls 6 [(3, .int 0), (4, .int (nI k)), (2, .int (nI n)), (1, .int (nI q)), (0, .ref h)] := hl
                          refine lv_iinc (k := 1) (v := nI (k + 1)) hx hb d_M_readLabels_143 hl rfl (iincN (k) 1 1 (by decide)) (by decide) rfl (fun ls hl => ?_)
                          have hl : lv_has ls 6 [(4, .int (nI (k + 1))), (3, .int 0), (2, .int (nI n)), (1, .int (nI q)), (0, .ref h)] := hl
                          refine lv_goto hx hb d_M_readLabels_146 (tgt := 95) rfl ?_
                          exact ih95 _ (by omega) (k + 1) false (by omega) (by rw [anyB_s, ← Bool.or_assoc, i7, g33]; show (false || decide _) = false; rw [decide_eq_false g36]; rfl) rfl H _ ls hP hD hS (lv_sub hl [0, 1, 2, 3, 4] rfl)
                        · have g36 := g36
                          refine lv_iconst (v := 1) hx hb d_M_readLabels_137 (by decide) ?_
                          refine lv_goto hx hb d_M_readLabels_138 (tgt := 142) rfl ?_
                          refine lv_istore_n hx hb d_M_readLabels_142 rfl hl (by decide) rfl (fun ls hl => ?_)
                          have hl : lv_has ls 6 [(3, .int 1), (4, .int (nI k)), (2, .int (nI n)), (1, .int (nI q)), (0, .ref h)] := hl
                          refine lv_iinc (k := 1) (v := nI (k + 1)) hx hb d_M_readLabels_143 hl rfl (iincN (k) 1 1 (by decide)) (by decide) rfl (fun ls hl => ?_)
                          have hl : lv_has ls 6 [(4, .int (nI (k + 1))), (3, .int 1), (2, .int (nI n)), (1, .int (nI q)), (0, .ref h)] := hl
                          refine lv_goto hx hb d_M_readLabels_146 (tgt := 95) rfl ?_
                          exact ih95 _ (by omega) (k + 1) true (by omega) (by rw [anyB_s, ← Bool.or_assoc, i7, g33]; show (false || decide _) = true; rw [decide_eq_true g36]; rfl) rfl H _ ls hP hD hS (lv_sub hl [0, 1, 2, 3, 4] rfl)
                exact L95 _ 0 tw (Nat.zero_le _) (by rw [i6]; exact Bool.or_false _) rfl H _ ls hP hD hS (lv_sub hl [0, 1, 2, 3, 4] rfl)
              refine lv_aload_n hx hb d_M_readLabels_77 rfl (lv_at hl 2 rfl) ?_
              refine gF (v := .int (nI c9)) hx hb hown hE hK hP 0 rfl rfl layM 43 (by decide) w425 rfl d_M_readLabels_78 ?_
              refine lv_bipush (v := 6) hx hb d_M_readLabels_81 (by decide) ?_
              refine lv_icmp_ne hx hb d_M_readLabels_83 (tgt := 90) rfl (fun g37 => ?_) (fun g37 => ?_)
              · have g37 := mt (nI_eq (a := c9) (b := 6) (by omega) (by omega)).mpr g37
                refine lv_iconst (v := 0) hx hb d_M_readLabels_90 (by decide) ?_
                exact J91 false (by simp [*]) H _ ls hP hD hS (lv_sub hl [0, 1, 2] rfl)
              · have g37 := (nI_eq (a := c9) (b := 6) (by omega) (by omega)).mp g37
                refine lv_iconst (v := 1) hx hb d_M_readLabels_86 (by decide) ?_
                refine lv_goto hx hb d_M_readLabels_87 (tgt := 91) rfl ?_
                exact J91 true (by simp [*]) H _ ls hP hD hS (lv_sub hl [0, 1, 2] rfl)
            · have g13 := g13
              refine lv_aload_n hx hb d_M_readLabels_67 rfl (lv_at hl 2 rfl) ?_
              refine lv_bipush (v := 7) hx hb d_M_readLabels_68 (by decide) ?_
              refine lv_iload_n hx hb d_M_readLabels_70 rfl (lv_at hl 1 rfl) ?_
              refine lv_iload_n hx hb d_M_readLabels_71 rfl (lv_at hl 0 rfl) ?_
              refine lv_iadd hx hb d_M_readLabels_72 (tpi (y := nI (q + n)) (nI_add (q) (n)) ?_)
              refine jfI (rnV (As := [.int 7, .int (nI (q + n))]) (rest := []) hx hb hml hown hE hK (hN _ _ hS) hP hD (k_flaw_0 l D dA H.size h ad (MS.s_labelCount (MS.s_labels x g) c9) 7 (nI (q + n)) hf) (q0 := 0) rfl rfl w431 w430 w432 w433 w328 rfl rfl ⟨⟨by decide, by decide⟩, rfl⟩ ⟨(Nat.le_of_ble_eq_true rfl), (Nat.le_of_ble_eq_true rfl)⟩ rfl hl.1 rfl (Nat.le_of_ble_eq_true rfl) d_M_readLabels_73 ⟨(Nat.le_of_ble_eq_true rfl), (Nat.le_of_ble_eq_true rfl)⟩) hP hD hS hA (fun r38 u39 H locs hp9 hP hD hS => ?_)
              have hP : va_P D vwCl (MW dA h ad (MS.s_labelCount (MS.s_labels (MS.s_faultPlace (MS.s_faultCode x 7) (nI (q + n))) g) c9)) H := hP
              have hD : va_D A (MW dA h ad (MS.s_labelCount (MS.s_labels (MS.s_faultPlace (MS.s_faultCode x 7) (nI (q + n))) g) c9)) := hD
              replace hp9 : bI false = r38 := Eq.symm hp9
              subst hp9
              exact rfZ hx hb hr (bI_nar false) hlk hS (MS.s_labelCount (MS.s_labels (MS.s_faultPlace (MS.s_faultCode x 7) (nI (q + n))) g) c9) ⟨rfl, by rw [if_neg g3, if_neg (show ¬ 24 < n by omega), if_neg g10, if_pos g13] at i1; cases i1; exact ⟨_, _, rfl⟩⟩ hP hD (Nat.le_of_ble_eq_true rfl) (Nat.le_of_ble_eq_true rfl) d_M_readLabels_76
        · have g9 := mt (nI_leI (a := n) (b := 24) (by omega) (by omega)).mpr g9
          refine lv_aload_n hx hb d_M_readLabels_23 rfl (lv_at hl 2 rfl) ?_
          refine lv_bipush (v := 7) hx hb d_M_readLabels_24 (by decide) ?_
          refine lv_iload_n hx hb d_M_readLabels_26 rfl (lv_at hl 1 rfl) ?_
          refine lv_iload_n hx hb d_M_readLabels_27 rfl (lv_at hl 0 rfl) ?_
          refine lv_bipush (v := 24) hx hb d_M_readLabels_28 (by decide) ?_
          refine lv_icmp_le hx hb d_M_readLabels_30 (tgt := 38) rfl (fun h9 => absurd h9 (mt (nI_leI (a := n) (b := 24) (by omega) (by omega)).mp g9)) (fun _ => ?_)
          refine lv_bipush (v := 24) hx hb d_M_readLabels_33 (by decide) ?_
          refine lv_goto hx hb d_M_readLabels_35 (tgt := 39) rfl ?_
          refine lv_iadd hx hb d_M_readLabels_39 (tpi (y := nI (q + 24)) (nI_add (q) (24)) ?_)
          refine jfI (rnV (As := [.int 7, .int (nI (q + 24))]) (rest := []) hx hb hml hown hE hK (hN _ _ hS) hP hD (k_flaw_0 l D dA H.size h ad (MS.s_labelCount (MS.s_labels x g) c9) 7 (nI (q + 24)) hf) (q0 := 0) rfl rfl w431 w430 w432 w433 w328 rfl rfl ⟨⟨by decide, by decide⟩, rfl⟩ ⟨(Nat.le_of_ble_eq_true rfl), (Nat.le_of_ble_eq_true rfl)⟩ rfl hl.1 rfl (Nat.le_of_ble_eq_true rfl) d_M_readLabels_40 ⟨(Nat.le_of_ble_eq_true rfl), (Nat.le_of_ble_eq_true rfl)⟩) hP hD hS hA (fun r40 u41 H locs hp9 hP hD hS => ?_)
          have hP : va_P D vwCl (MW dA h ad (MS.s_labelCount (MS.s_labels (MS.s_faultPlace (MS.s_faultCode x 7) (nI (q + 24))) g) c9)) H := hP
          have hD : va_D A (MW dA h ad (MS.s_labelCount (MS.s_labels (MS.s_faultPlace (MS.s_faultCode x 7) (nI (q + 24))) g) c9)) := hD
          replace hp9 : bI false = r40 := Eq.symm hp9
          subst hp9
          exact rfZ hx hb hr (bI_nar false) hlk hS (MS.s_labelCount (MS.s_labels (MS.s_faultPlace (MS.s_faultCode x 7) (nI (q + 24))) g) c9) ⟨rfl, by rw [if_neg g3, if_pos (show 24 < n by omega)] at i1; cases i1; exact ⟨_, _, rfl⟩⟩ hP hD (Nat.le_of_ble_eq_true rfl) (Nat.le_of_ble_eq_true rfl) d_M_readLabels_43
  exact L7 _ 7 0 0 x.labels hrd rfl (by decide) (Nat.zero_le _) (fun k hk => absurd hk (Nat.not_lt_zero k)) rfl H _ ls hP hD hS (lv_sub hl [0, 1] rfl)
def MS.txE (x : MS) (w y : Nat) : Bool := decide (x.texts (304 * w + y) = x.texts (304 * x.seriesCount + y))
def MS.txS (x : MS) (n w : Nat) : Bool := decide (x.textLengths w = n) && allB n (x.txE w)
/-- the first series with the text that was laid, from number w on -/
def MS.fndG (x : MS) (n : Nat) : Nat → Nat → Int32
  | 0, _ => -1
  | j + 1, w => if x.txS n w = true then nI w else x.fndG n j (w + 1)
def MS.fnd (x : MS) (n : Nat) : Int32 := x.fndG n x.seriesCount 0
theorem fnd_t {x : MS} {n j w : Nat} (hj : 0 < j) (h : x.txS n w = true) : x.fndG n j w = nI w := by
  obtain ⟨i, rfl⟩ : ∃ i, j = i + 1 := ⟨j - 1, by omega⟩
  exact if_pos h
theorem fnd_f {x : MS} {n j w : Nat} (hj : 0 < j) (h : x.txS n w = false) : x.fndG n j w = x.fndG n (j - 1) (w + 1) := by
  obtain ⟨i, rfl⟩ : ∃ i, j = i + 1 := ⟨j - 1, by omega⟩
  exact if_neg (by rw [h]; decide)
theorem txS_e {x : MS} {n w r : Nat} {v : Bool} (h1 : r ≤ n) (h2 : (decide (x.textLengths w = n) && allB r (x.txE w)) = v) (h3 : n ≤ r ∨ v = false) : x.txS n w = v := by
  unfold MS.txS
  rcases h3 with h | h
  · rw [show r = n by omega] at h2
    exact h2
  · subst h
    cases e : allB r (x.txE w) with
    | false => rw [allB_f e h1, Bool.and_false]
    | true => rw [e, Bool.and_true] at h2
              rw [h2, Bool.false_and]
theorem d_M_find_0 : decode prog_14_method_26_code 0 = .ok (.iconst 0, 1) := by decide +kernel
theorem d_M_find_1 : decode prog_14_method_26_code 1 = .ok (.istore_n 2, 1) := by decide +kernel
theorem d_M_find_2 : decode prog_14_method_26_code 2 = .ok (.iload_n 2, 1) := by decide +kernel
theorem d_M_find_3 : decode prog_14_method_26_code 3 = .ok (.aload_n 0, 1) := by decide +kernel
theorem d_M_find_4 : decode prog_14_method_26_code 4 = .ok (.getfield 160, 3) := by decide +kernel
theorem d_M_find_7 : decode prog_14_method_26_code 7 = .ok (.if_icmp .ge 88, 3) := by decide +kernel
theorem d_M_find_95 : decode prog_14_method_26_code 95 = .ok (.iconst (-1), 1) := by decide +kernel
theorem d_M_find_96 : decode prog_14_method_26_code 96 = .ok (.ireturn, 1) := by decide +kernel
theorem d_M_find_25 : decode prog_14_method_26_code 25 = .ok (.istore_n 3, 1) := by decide +kernel
theorem d_M_find_83 : decode prog_14_method_26_code 83 = .ok (.iload_n 3, 1) := by decide +kernel
theorem d_M_find_84 : decode prog_14_method_26_code 84 = .ok (.ifCond .eq 5, 3) := by decide +kernel
theorem d_M_find_89 : decode prog_14_method_26_code 89 = .ok (.iinc 2 1, 3) := by decide +kernel
theorem d_M_find_92 : decode prog_14_method_26_code 92 = .ok (.goto (-90), 3) := by decide +kernel
theorem d_M_find_87 : decode prog_14_method_26_code 87 = .ok (.iload_n 2, 1) := by decide +kernel
theorem d_M_find_88 : decode prog_14_method_26_code 88 = .ok (.ireturn, 1) := by decide +kernel
theorem d_M_find_26 : decode prog_14_method_26_code 26 = .ok (.iconst 0, 1) := by decide +kernel
theorem d_M_find_27 : decode prog_14_method_26_code 27 = .ok (.istore 4, 2) := by decide +kernel
theorem d_M_find_29 : decode prog_14_method_26_code 29 = .ok (.iload 4, 2) := by decide +kernel
theorem d_M_find_31 : decode prog_14_method_26_code 31 = .ok (.iload_n 1, 1) := by decide +kernel
theorem d_M_find_32 : decode prog_14_method_26_code 32 = .ok (.if_icmp .ge 51, 3) := by decide +kernel
theorem d_M_find_35 : decode prog_14_method_26_code 35 = .ok (.iload_n 3, 1) := by decide +kernel
theorem d_M_find_36 : decode prog_14_method_26_code 36 = .ok (.ifCond .eq 47, 3) := by decide +kernel
theorem d_M_find_39 : decode prog_14_method_26_code 39 = .ok (.aload_n 0, 1) := by decide +kernel
theorem d_M_find_40 : decode prog_14_method_26_code 40 = .ok (.getfield 29, 3) := by decide +kernel
theorem d_M_find_43 : decode prog_14_method_26_code 43 = .ok (.sipush 304, 3) := by decide +kernel
theorem d_M_find_46 : decode prog_14_method_26_code 46 = .ok (.iload_n 2, 1) := by decide +kernel
theorem d_M_find_47 : decode prog_14_method_26_code 47 = .ok (.imul, 1) := by decide +kernel
theorem d_M_find_48 : decode prog_14_method_26_code 48 = .ok (.iload 4, 2) := by decide +kernel
theorem d_M_find_50 : decode prog_14_method_26_code 50 = .ok (.iadd, 1) := by decide +kernel
theorem d_M_find_51 : decode prog_14_method_26_code 51 = .ok (.baload, 1) := by decide +kernel
theorem d_M_find_52 : decode prog_14_method_26_code 52 = .ok (.aload_n 0, 1) := by decide +kernel
theorem d_M_find_53 : decode prog_14_method_26_code 53 = .ok (.getfield 29, 3) := by decide +kernel
theorem d_M_find_56 : decode prog_14_method_26_code 56 = .ok (.sipush 304, 3) := by decide +kernel
theorem d_M_find_59 : decode prog_14_method_26_code 59 = .ok (.aload_n 0, 1) := by decide +kernel
theorem d_M_find_60 : decode prog_14_method_26_code 60 = .ok (.getfield 160, 3) := by decide +kernel
theorem d_M_find_63 : decode prog_14_method_26_code 63 = .ok (.imul, 1) := by decide +kernel
theorem d_M_find_64 : decode prog_14_method_26_code 64 = .ok (.iload 4, 2) := by decide +kernel
theorem d_M_find_66 : decode prog_14_method_26_code 66 = .ok (.iadd, 1) := by decide +kernel
theorem d_M_find_67 : decode prog_14_method_26_code 67 = .ok (.baload, 1) := by decide +kernel
theorem d_M_find_68 : decode prog_14_method_26_code 68 = .ok (.if_icmp .ne 7, 3) := by decide +kernel
theorem d_M_find_75 : decode prog_14_method_26_code 75 = .ok (.iconst 0, 1) := by decide +kernel
theorem d_M_find_76 : decode prog_14_method_26_code 76 = .ok (.istore_n 3, 1) := by decide +kernel
theorem d_M_find_77 : decode prog_14_method_26_code 77 = .ok (.iinc 4 1, 3) := by decide +kernel
theorem d_M_find_80 : decode prog_14_method_26_code 80 = .ok (.goto (-51), 3) := by decide +kernel
theorem d_M_find_71 : decode prog_14_method_26_code 71 = .ok (.iconst 1, 1) := by decide +kernel
theorem d_M_find_72 : decode prog_14_method_26_code 72 = .ok (.goto 4, 3) := by decide +kernel
theorem d_M_find_10 : decode prog_14_method_26_code 10 = .ok (.aload_n 0, 1) := by decide +kernel
theorem d_M_find_11 : decode prog_14_method_26_code 11 = .ok (.getfield 32, 3) := by decide +kernel
theorem d_M_find_14 : decode prog_14_method_26_code 14 = .ok (.iload_n 2, 1) := by decide +kernel
theorem d_M_find_15 : decode prog_14_method_26_code 15 = .ok (.iaload, 1) := by decide +kernel
theorem d_M_find_16 : decode prog_14_method_26_code 16 = .ok (.iload_n 1, 1) := by decide +kernel
theorem d_M_find_17 : decode prog_14_method_26_code 17 = .ok (.if_icmp .ne 7, 3) := by decide +kernel
theorem d_M_find_24 : decode prog_14_method_26_code 24 = .ok (.iconst 0, 1) := by decide +kernel
theorem d_M_find_20 : decode prog_14_method_26_code 20 = .ok (.iconst 1, 1) := by decide +kernel
theorem d_M_find_21 : decode prog_14_method_26_code 21 = .ok (.goto 4, 3) := by decide +kernel
set_option maxHeartbeats 4000000 in
set_option maxRecDepth 100000 in
theorem k_find (l : Launch) (D : va_G) (dA : Nat → ClassId) (sz : Nat) (h : Nat) (ad : Nat → Nat) (x : MS) (n : Nat) (h1 : x.seriesCount ≤ 256) (h2 : n ≤ 304) (h3 : ∀ q : Nat, q < x.seriesCount → x.textLengths q ≤ 304) : Met l ⟨"SeriesVaultModel", "find", "(I)I"⟩ [Cond.code ⟨"SeriesVaultModel", "find", "(I)I"⟩ prog_14_method_26_code 5 (some FieldType.int)] { frames := 1, cells := 0, slots := 0, locals := 0 } (pC D dA [.ref h, .int (nI n)] (MW dA h ad x) sz) (va_Qi (fun (r9 : Int32) (u9 : Unit) => r9 = x.fnd n) (fun (u9 : Unit) t9 => bW D (va_A (MW dA h ad x) sz) (MW dA h ad x) t9) (va_A (MW dA h ad x) sz)) 0 0 (va_A (MW dA h ad x) sz) := by
  refine mkC (y := ⟨"SeriesVaultModel", "find", "(I)I"⟩) (cc := prog_14_method_26_code) (maxL := 5) (av := [.ref h, .int (nI n)]) (ws := MW dA h ad x) (sz := sz) (Qc := fun A => va_Qi (fun (r9 : Int32) (u9 : Unit) => r9 = x.fnd n) (fun (u9 : Unit) t9 => bW D A (MW dA h ad x) t9) A) (by decide) (Nat.le_of_ble_eq_true rfl) ?_
  intro A p e s m below meth c ls hsz hB
  obtain ⟨hx, hb, hr, hml, hown, hin, hlk, hE, hK, hP, hD, hS, hA, hN, hl⟩ := hB
  have hown : s.vm.findClass "SeriesVaultModel" = some m.cls := hown
  have hl : lv_has ls 5 [(0, .ref h), (1, .int (nI n))] := hl
  obtain ⟨H, hH⟩ : ∃ z, z = s.heap := ⟨_, rfl⟩
  have hP : va_P D vwCl (MW dA h ad x) H := by rw [hH]; exact hP
  have hS : va_S A s.heap H [] := by rw [hH]; exact hS
  rw [← hH]
  refine lv_iconst (v := 0) hx hb d_M_find_0 (by decide) ?_
  refine lv_istore_n hx hb d_M_find_1 rfl hl (by decide) rfl (fun ls hl => ?_)
  have hl : lv_has ls 5 [(2, .int 0), (0, .ref h), (1, .int (nI n))] := hl
  have L2 : ∀ (k9 : Nat) (w : Nat) (i1 : w ≤ x.seriesCount) (i2 : x.fndG n (x.seriesCount - w) w = x.fnd n) (hk9 : x.seriesCount - w = k9), ∀ (H : Heap) (locs : List Loc) (ls : Array Slot) (hP : va_P D vwCl (MW dA h ad x) H) (hD : va_D A (MW dA h ad x)) (hS : va_S A s.heap H locs) (hl : lv_has ls 5 [(2, .int (nI w)), (1, .int (nI n)), (0, .ref h)]), W p l e ({ frames := 1, cells := 0, slots := 0, locals := 0 } : Room) s m ([.ref h, .int (nI n)] : List Value).toArray below meth c H locs 0 0 (MQ below (va_Qi (fun (r9 : Int32) (u9 : Unit) => r9 = x.fnd n) (fun (u9 : Unit) t9 => bW D A (MW dA h ad x) t9) A) ([.ref h, .int (nI n)] : List Value).toArray s 0 0 A) (F0 m 2 ls []) := by
    intro k9
    induction k9 using Nat.strongRecOn with
    | ind k9 ih2 =>
      intro w i1 i2 hk9 H locs ls hP hD hS hl
      refine lv_iload_n hx hb d_M_find_2 rfl (lv_at hl 0 rfl) ?_
      refine lv_aload_n hx hb d_M_find_3 rfl (lv_at hl 2 rfl) ?_
      refine gF (v := .int (nI x.seriesCount)) hx hb hown hE hK hP 0 rfl rfl layM 12 (by decide) w332 rfl d_M_find_4 ?_
      refine lv_icmp_ge hx hb d_M_find_7 (tgt := 95) rfl (fun g1 => ?_) (fun g1 => ?_)
      · have g1 := (nI_leI (a := x.seriesCount) (b := w) (by omega) (by omega)).mp g1
        refine lv_iconst (v := (-1)) hx hb d_M_find_95 (by decide) ?_
        exact rfI hx hb hr hlk hS () (by rw [← i2, show x.seriesCount - w = 0 by omega]; rfl) hP hD (Nat.le_of_ble_eq_true rfl) (Nat.le_of_ble_eq_true rfl) d_M_find_96
      · have g1 := mt (nI_leI (a := x.seriesCount) (b := w) (by omega) (by omega)).mpr g1
        have J25 : ∀ (v : Bool) (j0 : decide (x.textLengths w = n) = v), ∀ (H : Heap) (locs : List Loc) (ls : Array Slot) (hP : va_P D vwCl (MW dA h ad x) H) (hD : va_D A (MW dA h ad x)) (hS : va_S A s.heap H locs) (hl : lv_has ls 5 [(2, .int (nI w)), (1, .int (nI n)), (0, .ref h)]), W p l e ({ frames := 1, cells := 0, slots := 0, locals := 0 } : Room) s m ([.ref h, .int (nI n)] : List Value).toArray below meth c H locs 0 0 (MQ below (va_Qi (fun (r9 : Int32) (u9 : Unit) => r9 = x.fnd n) (fun (u9 : Unit) t9 => bW D A (MW dA h ad x) t9) A) ([.ref h, .int (nI n)] : List Value).toArray s 0 0 A) (F0 m 25 ls [.int (bI v)]) := by
          intro v j0 H locs ls hP hD hS hl
          refine lv_istore_n hx hb d_M_find_25 rfl hl (by decide) rfl (fun ls hl => ?_)
          have hl : lv_has ls 5 [(3, .int (bI v)), (2, .int (nI w)), (1, .int (nI n)), (0, .ref h)] := hl
          have J83 : ∀ (v : Bool) (j3 : x.txS n w = v), ∀ (H : Heap) (locs : List Loc) (ls : Array Slot) (hP : va_P D vwCl (MW dA h ad x) H) (hD : va_D A (MW dA h ad x)) (hS : va_S A s.heap H locs) (hl : lv_has ls 5 [(3, .int (bI v)), (2, .int (nI w)), (1, .int (nI n)), (0, .ref h)]), W p l e ({ frames := 1, cells := 0, slots := 0, locals := 0 } : Room) s m ([.ref h, .int (nI n)] : List Value).toArray below meth c H locs 0 0 (MQ below (va_Qi (fun (r9 : Int32) (u9 : Unit) => r9 = x.fnd n) (fun (u9 : Unit) t9 => bW D A (MW dA h ad x) t9) A) ([.ref h, .int (nI n)] : List Value).toArray s 0 0 A) (F0 m 83 ls []) := by
            intro v j3 H locs ls hP hD hS hl
            refine lv_iload_n hx hb d_M_find_83 rfl (lv_at hl 0 rfl) ?_
            refine lv_if_eq hx hb d_M_find_84 (tgt := 89) rfl (fun g2 => ?_) (fun g2 => ?_)
            · have g2 := bI_0 g2
              refine lv_iinc (k := 1) (v := nI (w + 1)) hx hb d_M_find_89 hl rfl (iincN (w) 1 1 (by decide)) (by decide) rfl (fun ls hl => ?_)
              have hl : lv_has ls 5 [(2, .int (nI (w + 1))), (3, .int (bI v)), (1, .int (nI n)), (0, .ref h)] := hl
              refine lv_goto hx hb d_M_find_92 (tgt := 2) rfl ?_
              exact ih2 _ (by omega) (w + 1) (by omega) (by rw [← i2, fnd_f (j := x.seriesCount - w) (by omega) (j3.trans g2), show x.seriesCount - w - 1 = x.seriesCount - (w + 1) by omega]) rfl H _ ls hP hD hS (lv_sub hl [0, 2, 3] rfl)
            · have g2 := bI_n0 g2
              refine lv_iload_n hx hb d_M_find_87 rfl (lv_at hl 1 rfl) ?_
              exact rfI hx hb hr hlk hS () (by rw [← i2, fnd_t (by omega) (j3.trans g2)]) hP hD (Nat.le_of_ble_eq_true rfl) (Nat.le_of_ble_eq_true rfl) d_M_find_88
          refine lv_iconst (v := 0) hx hb d_M_find_26 (by decide) ?_
          refine lv_istore hx hb d_M_find_27 hl (by decide) rfl (fun ls hl => ?_)
          have hl : lv_has ls 5 [(4, .int 0), (3, .int (bI v)), (2, .int (nI w)), (1, .int (nI n)), (0, .ref h)] := hl
          have L29 : ∀ (k9 : Nat) (r : Nat) (v : Bool) (j1 : r ≤ n) (j2 : (decide (x.textLengths w = n) && allB r (x.txE w)) = v) (hk9 : n - r = k9), ∀ (H : Heap) (locs : List Loc) (ls : Array Slot) (hP : va_P D vwCl (MW dA h ad x) H) (hD : va_D A (MW dA h ad x)) (hS : va_S A s.heap H locs) (hl : lv_has ls 5 [(4, .int (nI r)), (3, .int (bI v)), (2, .int (nI w)), (1, .int (nI n)), (0, .ref h)]), W p l e ({ frames := 1, cells := 0, slots := 0, locals := 0 } : Room) s m ([.ref h, .int (nI n)] : List Value).toArray below meth c H locs 0 0 (MQ below (va_Qi (fun (r9 : Int32) (u9 : Unit) => r9 = x.fnd n) (fun (u9 : Unit) t9 => bW D A (MW dA h ad x) t9) A) ([.ref h, .int (nI n)] : List Value).toArray s 0 0 A) (F0 m 29 ls []) := by
            intro k9
            induction k9 using Nat.strongRecOn with
            | ind k9 ih29 =>
              intro r v j1 j2 hk9 H locs ls hP hD hS hl
              refine lv_iload hx hb d_M_find_29 (lv_at hl 0 rfl) ?_
              refine lv_iload_n hx hb d_M_find_31 rfl (lv_at hl 3 rfl) ?_
              refine lv_icmp_ge hx hb d_M_find_32 (tgt := 83) rfl (fun g3 => ?_) (fun g3 => ?_)
              · have g3 := (nI_leI (a := n) (b := r) (by omega) (by omega)).mp g3
                exact J83 v (txS_e j1 j2 (Or.inl (by omega))) H _ ls hP hD hS (lv_sub hl [1, 2, 3, 4] rfl)
              · have g3 := mt (nI_leI (a := n) (b := r) (by omega) (by omega)).mpr g3
                refine lv_iload_n hx hb d_M_find_35 rfl (lv_at hl 1 rfl) ?_
                refine lv_if_eq hx hb d_M_find_36 (tgt := 83) rfl (fun g4 => ?_) (fun g4 => ?_)
                · have g4 := bI_0 g4
                  exact J83 v (txS_e j1 j2 (Or.inr g4)) H _ ls hP hD hS (lv_sub hl [1, 2, 3, 4] rfl)
                · have g4 := bI_n0 g4
                  refine lv_aload_n hx hb d_M_find_39 rfl (lv_at hl 4 rfl) ?_
                  refine gF (v := .ref (ad 10)) hx hb hown hE hK hP 0 rfl rfl layM 10 (by decide) w499 rfl d_M_find_40 ?_
                  refine lv_sipush (v := 304) hx hb d_M_find_43 (by decide) ?_
                  refine lv_iload_n hx hb d_M_find_46 rfl (lv_at hl 2 rfl) ?_
                  refine lv_imul hx hb d_M_find_47 (tpi (y := nI (304 * w)) (pk_mul (304) (w)) ?_)
                  refine lv_iload hx hb d_M_find_48 (lv_at hl 0 rfl) ?_
                  refine lv_iadd hx hb d_M_find_50 (tpi (y := nI ((304 * w) + r)) (nI_add (304 * w) (r)) ?_)
                  refine nbld (f := x.texts) hx hb hK hP 2 0 rfl rfl ((304 * w) + r) (by omega) (by decide) d_M_find_51 ?_
                  refine lv_aload_n hx hb d_M_find_52 rfl (lv_at hl 4 rfl) ?_
                  refine gF (v := .ref (ad 10)) hx hb hown hE hK hP 0 rfl rfl layM 10 (by decide) w499 rfl d_M_find_53 ?_
                  refine lv_sipush (v := 304) hx hb d_M_find_56 (by decide) ?_
                  refine lv_aload_n hx hb d_M_find_59 rfl (lv_at hl 4 rfl) ?_
                  refine gF (v := .int (nI x.seriesCount)) hx hb hown hE hK hP 0 rfl rfl layM 12 (by decide) w332 rfl d_M_find_60 ?_
                  refine lv_imul hx hb d_M_find_63 (tpi (y := nI (304 * x.seriesCount)) (pk_mul (304) (x.seriesCount)) ?_)
                  refine lv_iload hx hb d_M_find_64 (lv_at hl 0 rfl) ?_
                  refine lv_iadd hx hb d_M_find_66 (tpi (y := nI ((304 * x.seriesCount) + r)) (nI_add (304 * x.seriesCount) (r)) ?_)
                  refine nbld (f := x.texts) hx hb hK hP 2 0 rfl rfl ((304 * x.seriesCount) + r) (by omega) (by decide) d_M_find_67 ?_
                  refine lv_icmp_ne hx hb d_M_find_68 (tgt := 75) rfl (fun g5 => ?_) (fun g5 => ?_)
                  · have g5 := g5
                    refine lv_iconst (v := 0) hx hb d_M_find_75 (by decide) ?_
                    refine lv_istore_n hx hb d_M_find_76 rfl hl (by decide) rfl (fun ls hl => ?_)
                    have hl : lv_has ls 5 [(3, .int 0), (4, .int (nI r)), (2, .int (nI w)), (1, .int (nI n)), (0, .ref h)] := hl
                    refine lv_iinc (k := 1) (v := nI (r + 1)) hx hb d_M_find_77 hl rfl (iincN (r) 1 1 (by decide)) (by decide) rfl (fun ls hl => ?_)
                    have hl : lv_has ls 5 [(4, .int (nI (r + 1))), (3, .int 0), (2, .int (nI w)), (1, .int (nI n)), (0, .ref h)] := hl
                    refine lv_goto hx hb d_M_find_80 (tgt := 29) rfl ?_
                    exact ih29 _ (by omega) (r + 1) false (by omega) (by rw [allB_s, ← Bool.and_assoc, j2, g4]; exact decide_eq_false g5) rfl H _ ls hP hD hS (lv_sub hl [0, 1, 2, 3, 4] rfl)
                  · have g5 := g5
                    refine lv_iconst (v := 1) hx hb d_M_find_71 (by decide) ?_
                    refine lv_goto hx hb d_M_find_72 (tgt := 76) rfl ?_
                    refine lv_istore_n hx hb d_M_find_76 rfl hl (by decide) rfl (fun ls hl => ?_)
                    have hl : lv_has ls 5 [(3, .int 1), (4, .int (nI r)), (2, .int (nI w)), (1, .int (nI n)), (0, .ref h)] := hl
                    refine lv_iinc (k := 1) (v := nI (r + 1)) hx hb d_M_find_77 hl rfl (iincN (r) 1 1 (by decide)) (by decide) rfl (fun ls hl => ?_)
                    have hl : lv_has ls 5 [(4, .int (nI (r + 1))), (3, .int 1), (2, .int (nI w)), (1, .int (nI n)), (0, .ref h)] := hl
                    refine lv_goto hx hb d_M_find_80 (tgt := 29) rfl ?_
                    exact ih29 _ (by omega) (r + 1) true (by omega) (by rw [allB_s, ← Bool.and_assoc, j2, g4]; exact decide_eq_true g5) rfl H _ ls hP hD hS (lv_sub hl [0, 1, 2, 3, 4] rfl)
          exact L29 _ 0 v (Nat.zero_le _) (by rw [j0]; exact Bool.and_true _) rfl H _ ls hP hD hS (lv_sub hl [0, 1, 2, 3, 4] rfl)
        refine lv_aload_n hx hb d_M_find_10 rfl (lv_at hl 2 rfl) ?_
        refine gF (v := .ref (ad 11)) hx hb hown hE hK hP 0 rfl rfl layM 11 (by decide) w500 rfl d_M_find_11 ?_
        refine lv_iload_n hx hb d_M_find_14 rfl (lv_at hl 0 rfl) ?_
        refine nild (f := (fun z9 => nI (x.textLengths z9))) hx hb hK hP 3 1 rfl rfl (w) (by omega) (by decide) d_M_find_15 ?_
        refine lv_iload_n hx hb d_M_find_16 rfl (lv_at hl 1 rfl) ?_
        have b1 := h3 w (by omega)
        refine lv_icmp_ne hx hb d_M_find_17 (tgt := 24) rfl (fun g6 => ?_) (fun g6 => ?_)
        · have g6 := mt (nI_eq (a := x.textLengths w) (b := n) (by omega) (by omega)).mpr g6
          refine lv_iconst (v := 0) hx hb d_M_find_24 (by decide) ?_
          exact J25 false (by simp [*]) H _ ls hP hD hS (lv_sub hl [0, 1, 2] rfl)
        · have g6 := (nI_eq (a := x.textLengths w) (b := n) (by omega) (by omega)).mp g6
          refine lv_iconst (v := 1) hx hb d_M_find_20 (by decide) ?_
          refine lv_goto hx hb d_M_find_21 (tgt := 25) rfl ?_
          exact J25 true (by simp [*]) H _ ls hP hD hS (lv_sub hl [0, 1, 2] rfl)
  exact L2 _ 0 (Nat.zero_le _) rfl rfl H _ ls hP hD hS (lv_sub hl [0, 2, 1] rfl)
end
