def MS.inP (x : MS) (pn w q : Nat) : Bool := decide (x.pointSeries q = w) && decide (x.places q = nI pn)
theorem chk {F : Nat → Nat} {w n a a2 : Nat} (h : n = cnt w (fun z => decide (0 < F z))) (ha : a2 = a + F w) (hl : ¬ a2 ≤ a) : n + 1 = cnt (w + 1) (fun z => decide (0 < F z)) := by
  rw [cnt_t (decide_eq_true (show 0 < F w by omega)), h]
theorem chk0 {F : Nat → Nat} {w n a a2 : Nat} (h : n = cnt w (fun z => decide (0 < F z))) (ha : a2 = a + F w) (hl : a2 ≤ a) : n = cnt (w + 1) (fun z => decide (0 < F z)) := by
  rw [cnt_f (decide_eq_false (show ¬ 0 < F w by omega)), h]
theorem b3_le (n : Nat) (sp : Int64) (fz : Int32) (fb bt : Nat) (nx xx : Int64) (h : fb ≤ 64) : (b3 n sp fz fb bt nx xx).2.2 ≤ bt + 168 ∧ (b3 n sp fz fb bt nx xx).2.1 ≤ 64 := by
  unfold b3
  have h9 := tbN_le (if n = 1 then nx else nx - sp)
  split
  · exact ⟨Nat.le_refl _, h⟩
  · split
    · exact ⟨by show bt + _ + 1 ≤ _; omega, h⟩
    · split
      · exact ⟨by show bt + _ + (13 + (64 - hiN xx - loN xx)) ≤ _; omega, by show 64 - hiN xx - loN xx ≤ 64; omega⟩
      · exact ⟨by show bt + _ + (2 + fb) ≤ _; omega, h⟩
theorem bP_le (x : MS) (o1 o2 : Int32) (sn : Bool) (w b q : Nat) : (x.bP o1 o2 sn w b q).2.2.2.2.2.2 ≤ b + 168 * q ∧ (x.bP o1 o2 sn w b q).2.2.2.2.2.1 ≤ 64 := by
  induction q with
  | zero => exact ⟨Nat.le_refl _, Nat.zero_le _⟩
  | succ q ih =>
    show (if x.sel o1 o2 sn w q then bS1 (x.bP o1 o2 sn w b q) (x.pointTimes q) (x.pointValues q) else x.bP o1 o2 sn w b q).2.2.2.2.2.2 ≤ _ ∧ (if x.sel o1 o2 sn w q then bS1 (x.bP o1 o2 sn w b q) (x.pointTimes q) (x.pointValues q) else x.bP o1 o2 sn w b q).2.2.2.2.2.1 ≤ 64
    split
    · have h := b3_le (x.bP o1 o2 sn w b q).1 (x.bP o1 o2 sn w b q).2.2.1 (x.bP o1 o2 sn w b q).2.2.2.2.1 (x.bP o1 o2 sn w b q).2.2.2.2.2.1 (x.bP o1 o2 sn w b q).2.2.2.2.2.2 (x.pointTimes q - (x.bP o1 o2 sn w b q).2.1) (x.pointValues q ^^^ (x.bP o1 o2 sn w b q).2.2.2.1) ih.2
      exact ⟨Nat.le_trans h.1 (by have := ih.1; omega), h.2⟩
    · exact ⟨by have := ih.1; omega, ih.2⟩
theorem bA_le (x : MS) (o1 o2 : Int32) (sn : Bool) (h : x.points ≤ 12000) (w : Nat) : x.bA o1 o2 sn w ≤ 2016000 * w := by
  induction w with
  | zero => exact Nat.le_refl _
  | succ w ih =>
    have h1 := (bP_le x o1 o2 sn w (x.bA o1 o2 sn w) x.points).1
    show (x.bP o1 o2 sn w (x.bA o1 o2 sn w) x.points).2.2.2.2.2.2 ≤ _
    omega
theorem blkI {n : Nat} (h : n ≤ 516096000) : ((lN n + 32255) / 32256).toInt32 = nI ((n + 32255) / 32256) := by
  have e1 : lN n + 32255 = lN (n + 32255) := lN_add n 32255
  have e2 : lN (n + 32255) / 32256 = lN ((n + 32255) / 32256) := pk_lDiv (a := n + 32255) (b := 32256) (by omega) (by decide) (by decide)
  rw [e1, e2, lN_i]
theorem seen_mapP {x : MS} {k : Nat} {c : Nat → Bool} {g2 : Nat → Int32} : (MS.s_places x (mapT k c g2 x.places)).seen k = x.seen k := by
  unfold MS.seen
  show (!decide (mapT k c g2 x.places k ≤ -2) && _) = _
  rw [mapT_at _ _ _ (Nat.le_refl k)]
def MS.manyN (x : MS) : Nat := if 0 < x.heads then (x.bA (-1) (-1) true x.seriesCount + 32255) / 32256 else 0
theorem manyN_le {x : MS} (h1 : x.points ≤ 12000) (h2 : x.seriesCount ≤ 256) : x.manyN ≤ 16001 := by
  unfold MS.manyN
  split
  · have := bA_le x (-1) (-1) true h1 x.seriesCount
    omega
  · omega
theorem catS_le (tl : Nat → Nat) (n0 k : Nat) : (catS tl n0 k).1 ≤ n0 + k := by
  induction k with
  | zero => exact Nat.le_refl _
  | succ k ih =>
    show (if (catS tl n0 k).2 < uniN (tl k) then ((catS tl n0 k).1 + 1, 126 - uniN (tl k)) else ((catS tl n0 k).1, (catS tl n0 k).2 - uniN (tl k))).1 ≤ _
    split
    · show (catS tl n0 k).1 + 1 ≤ _; omega
    · show (catS tl n0 k).1 ≤ _; omega
theorem catN_le {x : MS} (h : x.seriesCount ≤ 256) : x.catN ≤ 257 := by
  unfold MS.catN
  have := catS_le x.textLengths (if 0 < x.seriesCount then 1 else 0) x.seriesCount
  have h2 : (if 0 < x.seriesCount then 1 else 0) ≤ 1 := by split <;> decide
  omega
theorem d_M_parcel_8 : decode prog_14_method_49_code 8 = .ok (.iconst 1, 1) := by decide +kernel
theorem d_M_parcel_9 : decode prog_14_method_49_code 9 = .ok (.goto 33, 3) := by decide +kernel
set_option maxHeartbeats 4000000 in
set_option maxRecDepth 100000 in
theorem k_parcel_1 (l : Launch) (D : va_G) (dA : Nat → ClassId) (sz : Nat) (h : Nat) (ad : Nat → Nat) (x : MS) (z : Int32) (k : Int32) (ho : x.on = false) : Met l ⟨"SeriesVaultModel", "parcel", "(II)I"⟩ [Cond.code ⟨"SeriesVaultModel", "parcel", "(II)I"⟩ prog_14_method_49_code 10 (some FieldType.int)] { frames := 1, cells := 0, slots := 0, locals := 0 } (pC D dA [.ref h, .int z, .int k] (MW dA h ad x) sz) (va_Qi (fun (r9 : Int32) (u9 : Unit) => r9 = 0) (fun (u9 : Unit) t9 => bW D (va_A (MW dA h ad x) sz) (MW dA h ad (MS.s_cod x 1)) t9) (va_A (MW dA h ad x) sz)) 0 0 (va_A (MW dA h ad x) sz) := by
  refine mkC (y := ⟨"SeriesVaultModel", "parcel", "(II)I"⟩) (cc := prog_14_method_49_code) (maxL := 10) (av := [.ref h, .int z, .int k]) (ws := MW dA h ad x) (sz := sz) (Qc := fun A => va_Qi (fun (r9 : Int32) (u9 : Unit) => r9 = 0) (fun (u9 : Unit) t9 => bW D A (MW dA h ad (MS.s_cod x 1)) t9) A) (by decide) (Nat.le_of_ble_eq_true rfl) ?_
  intro A p e s m below meth c ls hsz hB
  obtain ⟨hx, hb, hr, hml, hown, hin, hlk, hE, hK, hP, hD, hS, hA, hN, hl⟩ := hB
  have hown : s.vm.findClass "SeriesVaultModel" = some m.cls := hown
  have hl : lv_has ls 10 [(0, .ref h), (1, .int z), (2, .int k)] := hl
  obtain ⟨H, hH⟩ : ∃ z, z = s.heap := ⟨_, rfl⟩
  have hP : va_P D vwCl (MW dA h ad x) H := by rw [hH]; exact hP
  have hS : va_S A s.heap H [] := by rw [hH]; exact hS
  rw [← hH]
  refine lv_aload_n hx hb d_M_parcel_0 rfl (lv_at hl 0 rfl) ?_
  refine lv_aload_n hx hb d_M_parcel_1 rfl (lv_at hl 0 rfl) ?_
  refine gF (v := .int (bI x.on)) hx hb hown hE hK hP 0 rfl rfl layM 7 (by decide) w324 rfl d_M_parcel_2 ?_
  refine lv_if_ne hx hb d_M_parcel_5 (tgt := 12) rfl (fun h9 => absurd (by rw [ho]; decide) h9) (fun _ => ?_)
  refine lv_iconst (v := 1) hx hb d_M_parcel_8 (by decide) ?_
  refine lv_goto hx hb d_M_parcel_9 (tgt := 42) rfl ?_
  refine pF (v := .int 1) hx hb hown hE hK hP hD hS 0 rfl rfl layM tyM tokM nmM 0 (by decide) w319 rfl rfl rfl (Nat.le_of_ble_eq_true rfl) d_M_parcel_42 (fun H locs hP hD hS => ?_)
  have hP : va_P D vwCl (MW dA h ad (MS.s_cod x 1)) H := hP
  have hD : va_D A (MW dA h ad (MS.s_cod x 1)) := hD
  refine lv_aload_n hx hb d_M_parcel_45 rfl (lv_at hl 0 rfl) ?_
  refine gF (v := .int 1) hx hb hown hE hK hP 0 rfl rfl layM 0 (by decide) w319 rfl d_M_parcel_46 ?_
  refine lv_if_le hx hb d_M_parcel_49 (tgt := 54) rfl (fun h9 => absurd h9 (by decide)) (fun _ => ?_)
  refine lv_iconst (v := 0) hx hb d_M_parcel_52 (by decide) ?_
  exact rfI hx hb hr hlk hS () rfl hP hD (Nat.le_of_ble_eq_true rfl) (Nat.le_of_ble_eq_true rfl) d_M_parcel_53
set_option maxHeartbeats 4000000 in
set_option maxRecDepth 100000 in
theorem k_parcel_2 (l : Launch) (D : va_G) (dA : Nat → ClassId) (sz : Nat) (h : Nat) (ad : Nat → Nat) (x : MS) (z : Int32) (k : Int32) (ho : x.on = true) (h0 : z < 0 ∨ nI x.parcelCount ≤ z) : Met l ⟨"SeriesVaultModel", "parcel", "(II)I"⟩ [Cond.code ⟨"SeriesVaultModel", "parcel", "(II)I"⟩ prog_14_method_49_code 10 (some FieldType.int)] { frames := 1, cells := 0, slots := 0, locals := 0 } (pC D dA [.ref h, .int z, .int k] (MW dA h ad x) sz) (va_Qi (fun (r9 : Int32) (u9 : Unit) => r9 = 0) (fun (u9 : Unit) t9 => bW D (va_A (MW dA h ad x) sz) (MW dA h ad (MS.s_cod x 2)) t9) (va_A (MW dA h ad x) sz)) 0 0 (va_A (MW dA h ad x) sz) := by
  refine mkC (y := ⟨"SeriesVaultModel", "parcel", "(II)I"⟩) (cc := prog_14_method_49_code) (maxL := 10) (av := [.ref h, .int z, .int k]) (ws := MW dA h ad x) (sz := sz) (Qc := fun A => va_Qi (fun (r9 : Int32) (u9 : Unit) => r9 = 0) (fun (u9 : Unit) t9 => bW D A (MW dA h ad (MS.s_cod x 2)) t9) A) (by decide) (Nat.le_of_ble_eq_true rfl) ?_
  intro A p e s m below meth c ls hsz hB
  obtain ⟨hx, hb, hr, hml, hown, hin, hlk, hE, hK, hP, hD, hS, hA, hN, hl⟩ := hB
  have hown : s.vm.findClass "SeriesVaultModel" = some m.cls := hown
  have hl : lv_has ls 10 [(0, .ref h), (1, .int z), (2, .int k)] := hl
  obtain ⟨H, hH⟩ : ∃ z, z = s.heap := ⟨_, rfl⟩
  have hP : va_P D vwCl (MW dA h ad x) H := by rw [hH]; exact hP
  have hS : va_S A s.heap H [] := by rw [hH]; exact hS
  rw [← hH]
  refine lv_aload_n hx hb d_M_parcel_0 rfl (lv_at hl 0 rfl) ?_
  refine lv_aload_n hx hb d_M_parcel_1 rfl (lv_at hl 0 rfl) ?_
  refine gF (v := .int (bI x.on)) hx hb hown hE hK hP 0 rfl rfl layM 7 (by decide) w324 rfl d_M_parcel_2 ?_
  refine lv_if_ne hx hb d_M_parcel_5 (tgt := 12) rfl (fun _ => ?_) (fun h9 => absurd h9 (by rw [ho]; decide))
  refine lv_iload_n hx hb d_M_parcel_12 rfl (lv_at hl 1 rfl) ?_
  refine lv_if_lt hx hb d_M_parcel_13 (tgt := 24) rfl (fun g1 => ?_) (fun g1 => ?_)
  · have g1 := g1
    refine lv_iconst (v := 2) hx hb d_M_parcel_24 (by decide) ?_
    refine lv_goto hx hb d_M_parcel_25 (tgt := 42) rfl ?_
    refine pF (v := .int 2) hx hb hown hE hK hP hD hS 0 rfl rfl layM tyM tokM nmM 0 (by decide) w319 rfl rfl rfl (Nat.le_of_ble_eq_true rfl) d_M_parcel_42 (fun H locs hP hD hS => ?_)
    have hP : va_P D vwCl (MW dA h ad (MS.s_cod x 2)) H := hP
    have hD : va_D A (MW dA h ad (MS.s_cod x 2)) := hD
    refine lv_aload_n hx hb d_M_parcel_45 rfl (lv_at hl 0 rfl) ?_
    refine gF (v := .int 2) hx hb hown hE hK hP 0 rfl rfl layM 0 (by decide) w319 rfl d_M_parcel_46 ?_
    refine lv_if_le hx hb d_M_parcel_49 (tgt := 54) rfl (fun h9 => absurd h9 (by decide)) (fun _ => ?_)
    refine lv_iconst (v := 0) hx hb d_M_parcel_52 (by decide) ?_
    exact rfI hx hb hr hlk hS () rfl hP hD (Nat.le_of_ble_eq_true rfl) (Nat.le_of_ble_eq_true rfl) d_M_parcel_53
  · have g1 := g1
    refine lv_iload_n hx hb d_M_parcel_16 rfl (lv_at hl 1 rfl) ?_
    refine lv_aload_n hx hb d_M_parcel_17 rfl (lv_at hl 0 rfl) ?_
    refine gF (v := .int (nI x.parcelCount)) hx hb hown hE hK hP 0 rfl rfl layM 28 (by decide) w344 rfl d_M_parcel_18 ?_
    refine lv_icmp_lt hx hb d_M_parcel_21 (tgt := 28) rfl (fun h9 => absurd h9 (Int32.not_lt.mpr (h0.resolve_left (by assumption)))) (fun _ => ?_)
    refine lv_iconst (v := 2) hx hb d_M_parcel_24 (by decide) ?_
    refine lv_goto hx hb d_M_parcel_25 (tgt := 42) rfl ?_
    refine pF (v := .int 2) hx hb hown hE hK hP hD hS 0 rfl rfl layM tyM tokM nmM 0 (by decide) w319 rfl rfl rfl (Nat.le_of_ble_eq_true rfl) d_M_parcel_42 (fun H locs hP hD hS => ?_)
    have hP : va_P D vwCl (MW dA h ad (MS.s_cod x 2)) H := hP
    have hD : va_D A (MW dA h ad (MS.s_cod x 2)) := hD
    refine lv_aload_n hx hb d_M_parcel_45 rfl (lv_at hl 0 rfl) ?_
    refine gF (v := .int 2) hx hb hown hE hK hP 0 rfl rfl layM 0 (by decide) w319 rfl d_M_parcel_46 ?_
    refine lv_if_le hx hb d_M_parcel_49 (tgt := 54) rfl (fun h9 => absurd h9 (by decide)) (fun _ => ?_)
    refine lv_iconst (v := 0) hx hb d_M_parcel_52 (by decide) ?_
    exact rfI hx hb hr hlk hS () rfl hP hD (Nat.le_of_ble_eq_true rfl) (Nat.le_of_ble_eq_true rfl) d_M_parcel_53
theorem d_M_parcel_28 : decode prog_14_method_49_code 28 = .ok (.iload_n 2, 1) := by decide +kernel
theorem d_M_parcel_29 : decode prog_14_method_49_code 29 = .ok (.ifCond .lt 8, 3) := by decide +kernel
theorem d_M_parcel_37 : decode prog_14_method_49_code 37 = .ok (.iconst 3, 1) := by decide +kernel
theorem d_M_parcel_38 : decode prog_14_method_49_code 38 = .ok (.goto 4, 3) := by decide +kernel
theorem d_M_parcel_32 : decode prog_14_method_49_code 32 = .ok (.iload_n 2, 1) := by decide +kernel
theorem d_M_parcel_33 : decode prog_14_method_49_code 33 = .ok (.iconst 4, 1) := by decide +kernel
theorem d_M_parcel_34 : decode prog_14_method_49_code 34 = .ok (.if_icmp .le 7, 3) := by decide +kernel
set_option maxHeartbeats 4000000 in
set_option maxRecDepth 100000 in
theorem k_parcel_3 (l : Launch) (D : va_G) (dA : Nat → ClassId) (sz : Nat) (h : Nat) (ad : Nat → Nat) (x : MS) (d : Nat) (k : Int32) (ho : x.on = true) (hk : d < x.parcelCount) (f1 : x.parcelCount ≤ 40) (h0 : k < 0 ∨ 4 < k) : Met l ⟨"SeriesVaultModel", "parcel", "(II)I"⟩ [Cond.code ⟨"SeriesVaultModel", "parcel", "(II)I"⟩ prog_14_method_49_code 10 (some FieldType.int)] { frames := 1, cells := 0, slots := 0, locals := 0 } (pC D dA [.ref h, .int (nI d), .int k] (MW dA h ad x) sz) (va_Qi (fun (r9 : Int32) (u9 : Unit) => r9 = 0) (fun (u9 : Unit) t9 => bW D (va_A (MW dA h ad x) sz) (MW dA h ad (MS.s_cod x 3)) t9) (va_A (MW dA h ad x) sz)) 0 0 (va_A (MW dA h ad x) sz) := by
  refine mkC (y := ⟨"SeriesVaultModel", "parcel", "(II)I"⟩) (cc := prog_14_method_49_code) (maxL := 10) (av := [.ref h, .int (nI d), .int k]) (ws := MW dA h ad x) (sz := sz) (Qc := fun A => va_Qi (fun (r9 : Int32) (u9 : Unit) => r9 = 0) (fun (u9 : Unit) t9 => bW D A (MW dA h ad (MS.s_cod x 3)) t9) A) (by decide) (Nat.le_of_ble_eq_true rfl) ?_
  intro A p e s m below meth c ls hsz hB
  obtain ⟨hx, hb, hr, hml, hown, hin, hlk, hE, hK, hP, hD, hS, hA, hN, hl⟩ := hB
  have hown : s.vm.findClass "SeriesVaultModel" = some m.cls := hown
  have hl : lv_has ls 10 [(0, .ref h), (1, .int (nI d)), (2, .int k)] := hl
  obtain ⟨H, hH⟩ : ∃ z, z = s.heap := ⟨_, rfl⟩
  have hP : va_P D vwCl (MW dA h ad x) H := by rw [hH]; exact hP
  have hS : va_S A s.heap H [] := by rw [hH]; exact hS
  rw [← hH]
  refine lv_aload_n hx hb d_M_parcel_0 rfl (lv_at hl 0 rfl) ?_
  refine lv_aload_n hx hb d_M_parcel_1 rfl (lv_at hl 0 rfl) ?_
  refine gF (v := .int (bI x.on)) hx hb hown hE hK hP 0 rfl rfl layM 7 (by decide) w324 rfl d_M_parcel_2 ?_
  refine lv_if_ne hx hb d_M_parcel_5 (tgt := 12) rfl (fun _ => ?_) (fun h9 => absurd h9 (by rw [ho]; decide))
  refine lv_iload_n hx hb d_M_parcel_12 rfl (lv_at hl 1 rfl) ?_
  refine lv_if_lt hx hb d_M_parcel_13 (tgt := 24) rfl (fun h9 => absurd h9 (nI_pos (n := d) (by omega))) (fun _ => ?_)
  refine lv_iload_n hx hb d_M_parcel_16 rfl (lv_at hl 1 rfl) ?_
  refine lv_aload_n hx hb d_M_parcel_17 rfl (lv_at hl 0 rfl) ?_
  refine gF (v := .int (nI x.parcelCount)) hx hb hown hE hK hP 0 rfl rfl layM 28 (by decide) w344 rfl d_M_parcel_18 ?_
  refine lv_icmp_lt hx hb d_M_parcel_21 (tgt := 28) rfl (fun _ => ?_) (fun h9 => absurd ((nI_ltI (a := d) (b := x.parcelCount) (by omega) (by omega)).mpr hk) h9)
  refine lv_iload_n hx hb d_M_parcel_28 rfl (lv_at hl 2 rfl) ?_
  refine lv_if_lt hx hb d_M_parcel_29 (tgt := 37) rfl (fun g1 => ?_) (fun g1 => ?_)
  · have g1 := g1
    refine lv_iconst (v := 3) hx hb d_M_parcel_37 (by decide) ?_
    refine lv_goto hx hb d_M_parcel_38 (tgt := 42) rfl ?_
    refine pF (v := .int 3) hx hb hown hE hK hP hD hS 0 rfl rfl layM tyM tokM nmM 0 (by decide) w319 rfl rfl rfl (Nat.le_of_ble_eq_true rfl) d_M_parcel_42 (fun H locs hP hD hS => ?_)
    have hP : va_P D vwCl (MW dA h ad (MS.s_cod x 3)) H := hP
    have hD : va_D A (MW dA h ad (MS.s_cod x 3)) := hD
    refine lv_aload_n hx hb d_M_parcel_45 rfl (lv_at hl 0 rfl) ?_
    refine gF (v := .int 3) hx hb hown hE hK hP 0 rfl rfl layM 0 (by decide) w319 rfl d_M_parcel_46 ?_
    refine lv_if_le hx hb d_M_parcel_49 (tgt := 54) rfl (fun h9 => absurd h9 (by decide)) (fun _ => ?_)
    refine lv_iconst (v := 0) hx hb d_M_parcel_52 (by decide) ?_
    exact rfI hx hb hr hlk hS () rfl hP hD (Nat.le_of_ble_eq_true rfl) (Nat.le_of_ble_eq_true rfl) d_M_parcel_53
  · have g1 := g1
    refine lv_iload_n hx hb d_M_parcel_32 rfl (lv_at hl 2 rfl) ?_
    refine lv_iconst (v := 4) hx hb d_M_parcel_33 (by decide) ?_
    refine lv_icmp_le hx hb d_M_parcel_34 (tgt := 41) rfl (fun h9 => absurd h9 (Int32.not_le.mpr (h0.resolve_left (by assumption)))) (fun _ => ?_)
    refine lv_iconst (v := 3) hx hb d_M_parcel_37 (by decide) ?_
    refine lv_goto hx hb d_M_parcel_38 (tgt := 42) rfl ?_
    refine pF (v := .int 3) hx hb hown hE hK hP hD hS 0 rfl rfl layM tyM tokM nmM 0 (by decide) w319 rfl rfl rfl (Nat.le_of_ble_eq_true rfl) d_M_parcel_42 (fun H locs hP hD hS => ?_)
    have hP : va_P D vwCl (MW dA h ad (MS.s_cod x 3)) H := hP
    have hD : va_D A (MW dA h ad (MS.s_cod x 3)) := hD
    refine lv_aload_n hx hb d_M_parcel_45 rfl (lv_at hl 0 rfl) ?_
    refine gF (v := .int 3) hx hb hown hE hK hP 0 rfl rfl layM 0 (by decide) w319 rfl d_M_parcel_46 ?_
    refine lv_if_le hx hb d_M_parcel_49 (tgt := 54) rfl (fun h9 => absurd h9 (by decide)) (fun _ => ?_)
    refine lv_iconst (v := 0) hx hb d_M_parcel_52 (by decide) ?_
    exact rfI hx hb hr hlk hS () rfl hP hD (Nat.le_of_ble_eq_true rfl) (Nat.le_of_ble_eq_true rfl) d_M_parcel_53
theorem d_M_parcel_41 : decode prog_14_method_49_code 41 = .ok (.iconst 0, 1) := by decide +kernel
theorem d_M_parcel_54 : decode prog_14_method_49_code 54 = .ok (.iconst 0, 1) := by decide +kernel
theorem d_M_parcel_55 : decode prog_14_method_49_code 55 = .ok (.istore_n 3, 1) := by decide +kernel
theorem d_M_parcel_56 : decode prog_14_method_49_code 56 = .ok (.iconst 0, 1) := by decide +kernel
theorem d_M_parcel_57 : decode prog_14_method_49_code 57 = .ok (.istore 4, 2) := by decide +kernel
theorem d_M_parcel_59 : decode prog_14_method_49_code 59 = .ok (.iconst 0, 1) := by decide +kernel
theorem d_M_parcel_60 : decode prog_14_method_49_code 60 = .ok (.istore 5, 2) := by decide +kernel
theorem d_M_parcel_62 : decode prog_14_method_49_code 62 = .ok (.iconst 0, 1) := by decide +kernel
theorem d_M_parcel_63 : decode prog_14_method_49_code 63 = .ok (.istore 6, 2) := by decide +kernel
theorem d_M_parcel_65 : decode prog_14_method_49_code 65 = .ok (.iload 6, 2) := by decide +kernel
theorem d_M_parcel_67 : decode prog_14_method_49_code 67 = .ok (.aload_n 0, 1) := by decide +kernel
theorem d_M_parcel_68 : decode prog_14_method_49_code 68 = .ok (.getfield 160, 3) := by decide +kernel
theorem d_M_parcel_71 : decode prog_14_method_49_code 71 = .ok (.if_icmp .ge 118, 3) := by decide +kernel
theorem d_M_parcel_189 : decode prog_14_method_49_code 189 = .ok (.iload_n 2, 1) := by decide +kernel
theorem d_M_parcel_190 : decode prog_14_method_49_code 190 = .ok (.ifCond .ne 7, 3) := by decide +kernel
theorem d_M_parcel_193 : decode prog_14_method_49_code 193 = .ok (.iload_n 3, 1) := by decide +kernel
theorem d_M_parcel_194 : decode prog_14_method_49_code 194 = .ok (.goto 55, 3) := by decide +kernel
theorem d_M_parcel_249 : decode prog_14_method_49_code 249 = .ok (.ireturn, 1) := by decide +kernel
theorem d_M_parcel_74 : decode prog_14_method_49_code 74 = .ok (.iload_n 3, 1) := by decide +kernel
theorem d_M_parcel_75 : decode prog_14_method_49_code 75 = .ok (.istore 7, 2) := by decide +kernel
theorem d_M_parcel_77 : decode prog_14_method_49_code 77 = .ok (.iconst 0, 1) := by decide +kernel
theorem d_M_parcel_78 : decode prog_14_method_49_code 78 = .ok (.istore 8, 2) := by decide +kernel
theorem d_M_parcel_80 : decode prog_14_method_49_code 80 = .ok (.iload 8, 2) := by decide +kernel
theorem d_M_parcel_82 : decode prog_14_method_49_code 82 = .ok (.aload_n 0, 1) := by decide +kernel
theorem d_M_parcel_83 : decode prog_14_method_49_code 83 = .ok (.getfield 169, 3) := by decide +kernel
theorem d_M_parcel_86 : decode prog_14_method_49_code 86 = .ok (.if_icmp .ge 81, 3) := by decide +kernel
theorem d_M_parcel_167 : decode prog_14_method_49_code 167 = .ok (.iload 5, 2) := by decide +kernel
theorem d_M_parcel_169 : decode prog_14_method_49_code 169 = .ok (.iload_n 3, 1) := by decide +kernel
theorem d_M_parcel_170 : decode prog_14_method_49_code 170 = .ok (.iload 7, 2) := by decide +kernel
theorem d_M_parcel_172 : decode prog_14_method_49_code 172 = .ok (.if_icmp .le 7, 3) := by decide +kernel
theorem d_M_parcel_179 : decode prog_14_method_49_code 179 = .ok (.iconst 0, 1) := by decide +kernel
theorem d_M_parcel_180 : decode prog_14_method_49_code 180 = .ok (.iadd, 1) := by decide +kernel
theorem d_M_parcel_181 : decode prog_14_method_49_code 181 = .ok (.istore 5, 2) := by decide +kernel
theorem d_M_parcel_183 : decode prog_14_method_49_code 183 = .ok (.iinc 6 1, 3) := by decide +kernel
theorem d_M_parcel_186 : decode prog_14_method_49_code 186 = .ok (.goto (-121), 3) := by decide +kernel
theorem d_M_parcel_175 : decode prog_14_method_49_code 175 = .ok (.iconst 1, 1) := by decide +kernel
theorem d_M_parcel_176 : decode prog_14_method_49_code 176 = .ok (.goto 4, 3) := by decide +kernel
theorem d_M_parcel_122 : decode prog_14_method_49_code 122 = .ok (.istore 9, 2) := by decide +kernel
theorem d_M_parcel_124 : decode prog_14_method_49_code 124 = .ok (.iload_n 3, 1) := by decide +kernel
theorem d_M_parcel_125 : decode prog_14_method_49_code 125 = .ok (.iload 9, 2) := by decide +kernel
theorem d_M_parcel_127 : decode prog_14_method_49_code 127 = .ok (.ifCond .eq 7, 3) := by decide +kernel
theorem d_M_parcel_134 : decode prog_14_method_49_code 134 = .ok (.iconst 0, 1) := by decide +kernel
theorem d_M_parcel_135 : decode prog_14_method_49_code 135 = .ok (.iadd, 1) := by decide +kernel
theorem d_M_parcel_136 : decode prog_14_method_49_code 136 = .ok (.istore_n 3, 1) := by decide +kernel
theorem d_M_parcel_137 : decode prog_14_method_49_code 137 = .ok (.iload 4, 2) := by decide +kernel
theorem d_M_parcel_139 : decode prog_14_method_49_code 139 = .ok (.iload 9, 2) := by decide +kernel
theorem d_M_parcel_141 : decode prog_14_method_49_code 141 = .ok (.ifCond .eq 16, 3) := by decide +kernel
theorem d_M_parcel_157 : decode prog_14_method_49_code 157 = .ok (.iconst 0, 1) := by decide +kernel
theorem d_M_parcel_158 : decode prog_14_method_49_code 158 = .ok (.iadd, 1) := by decide +kernel
theorem d_M_parcel_159 : decode prog_14_method_49_code 159 = .ok (.istore 4, 2) := by decide +kernel
theorem d_M_parcel_161 : decode prog_14_method_49_code 161 = .ok (.iinc 8 1, 3) := by decide +kernel
theorem d_M_parcel_164 : decode prog_14_method_49_code 164 = .ok (.goto (-84), 3) := by decide +kernel
theorem d_M_parcel_130 : decode prog_14_method_49_code 130 = .ok (.iconst 1, 1) := by decide +kernel
theorem d_M_parcel_131 : decode prog_14_method_49_code 131 = .ok (.goto 4, 3) := by decide +kernel
theorem d_M_parcel_144 : decode prog_14_method_49_code 144 = .ok (.aload_n 0, 1) := by decide +kernel
theorem d_M_parcel_145 : decode prog_14_method_49_code 145 = .ok (.iload 8, 2) := by decide +kernel
theorem d_M_parcel_147 : decode prog_14_method_49_code 147 = .ok (.invokevirtual 207, 3) := by decide +kernel
theorem d_M_parcel_150 : decode prog_14_method_49_code 150 = .ok (.ifCond .eq 7, 3) := by decide +kernel
theorem d_M_parcel_153 : decode prog_14_method_49_code 153 = .ok (.iconst 1, 1) := by decide +kernel
theorem d_M_parcel_154 : decode prog_14_method_49_code 154 = .ok (.goto 4, 3) := by decide +kernel
theorem d_M_parcel_89 : decode prog_14_method_49_code 89 = .ok (.aload_n 0, 1) := by decide +kernel
theorem d_M_parcel_90 : decode prog_14_method_49_code 90 = .ok (.getfield 43, 3) := by decide +kernel
theorem d_M_parcel_93 : decode prog_14_method_49_code 93 = .ok (.iload 8, 2) := by decide +kernel
theorem d_M_parcel_95 : decode prog_14_method_49_code 95 = .ok (.iaload, 1) := by decide +kernel
theorem d_M_parcel_96 : decode prog_14_method_49_code 96 = .ok (.iload 6, 2) := by decide +kernel
theorem d_M_parcel_98 : decode prog_14_method_49_code 98 = .ok (.if_icmp .ne 23, 3) := by decide +kernel
theorem d_M_parcel_121 : decode prog_14_method_49_code 121 = .ok (.iconst 0, 1) := by decide +kernel
theorem d_M_parcel_101 : decode prog_14_method_49_code 101 = .ok (.aload_n 0, 1) := by decide +kernel
theorem d_M_parcel_102 : decode prog_14_method_49_code 102 = .ok (.getfield 52, 3) := by decide +kernel
theorem d_M_parcel_105 : decode prog_14_method_49_code 105 = .ok (.iload 8, 2) := by decide +kernel
theorem d_M_parcel_107 : decode prog_14_method_49_code 107 = .ok (.iaload, 1) := by decide +kernel
theorem d_M_parcel_108 : decode prog_14_method_49_code 108 = .ok (.aload_n 0, 1) := by decide +kernel
theorem d_M_parcel_109 : decode prog_14_method_49_code 109 = .ok (.getfield 61, 3) := by decide +kernel
theorem d_M_parcel_112 : decode prog_14_method_49_code 112 = .ok (.iload_n 1, 1) := by decide +kernel
theorem d_M_parcel_113 : decode prog_14_method_49_code 113 = .ok (.iaload, 1) := by decide +kernel
theorem d_M_parcel_114 : decode prog_14_method_49_code 114 = .ok (.if_icmp .ne 7, 3) := by decide +kernel
theorem d_M_parcel_117 : decode prog_14_method_49_code 117 = .ok (.iconst 1, 1) := by decide +kernel
theorem d_M_parcel_118 : decode prog_14_method_49_code 118 = .ok (.goto 4, 3) := by decide +kernel
set_option maxHeartbeats 4000000 in
set_option maxRecDepth 100000 in
theorem k_parcel0_0 (l : Launch) (D : va_G) (dA : Nat → ClassId) (sz : Nat) (h : Nat) (ad : Nat → Nat) (x : MS) (d : Nat) (ho : x.on = true) (hk : d < x.parcelCount) (f1 : x.parcelCount ≤ 40) (h1 : x.points ≤ 12000) (h2 : x.seriesCount ≤ 256) (hs : ∀ q : Nat, q < x.points → x.pointSeries q < 256) : Met l ⟨"SeriesVaultModel", "parcel", "(II)I"⟩ [Cond.code ⟨"SeriesVaultModel", "parcel", "(II)I"⟩ prog_14_method_49_code 10 (some FieldType.int)] { frames := 2, cells := 0, slots := 0, locals := 21 } (pC D dA [.ref h, .int (nI d), .int 0] (MW dA h ad x) sz) (va_Qi (fun (r9 : Int32) (u9 : Unit) => r9 = nI (sumN x.seriesCount (fun z => cnt x.points (x.inP (x.parcels d) z)))) (fun (u9 : Unit) t9 => bW D (va_A (MW dA h ad x) sz) (MW dA h ad (MS.s_cod x 0)) t9) (va_A (MW dA h ad x) sz)) 0 0 (va_A (MW dA h ad x) sz) := by
  refine mkC (y := ⟨"SeriesVaultModel", "parcel", "(II)I"⟩) (cc := prog_14_method_49_code) (maxL := 10) (av := [.ref h, .int (nI d), .int 0]) (ws := MW dA h ad x) (sz := sz) (Qc := fun A => va_Qi (fun (r9 : Int32) (u9 : Unit) => r9 = nI (sumN x.seriesCount (fun z => cnt x.points (x.inP (x.parcels d) z)))) (fun (u9 : Unit) t9 => bW D A (MW dA h ad (MS.s_cod x 0)) t9) A) (by decide) (Nat.le_of_ble_eq_true rfl) ?_
  intro A p e s m below meth c ls hsz hB
  obtain ⟨hx, hb, hr, hml, hown, hin, hlk, hE, hK, hP, hD, hS, hA, hN, hl⟩ := hB
  have hown : s.vm.findClass "SeriesVaultModel" = some m.cls := hown
  have hl : lv_has ls 10 [(0, .ref h), (1, .int (nI d)), (2, .int 0)] := hl
  obtain ⟨H, hH⟩ : ∃ z, z = s.heap := ⟨_, rfl⟩
  have hP : va_P D vwCl (MW dA h ad x) H := by rw [hH]; exact hP
  have hS : va_S A s.heap H [] := by rw [hH]; exact hS
  rw [← hH]
  refine lv_aload_n hx hb d_M_parcel_0 rfl (lv_at hl 0 rfl) ?_
  refine lv_aload_n hx hb d_M_parcel_1 rfl (lv_at hl 0 rfl) ?_
  refine gF (v := .int (bI x.on)) hx hb hown hE hK hP 0 rfl rfl layM 7 (by decide) w324 rfl d_M_parcel_2 ?_
  refine lv_if_ne hx hb d_M_parcel_5 (tgt := 12) rfl (fun _ => ?_) (fun h9 => absurd h9 (by rw [ho]; decide))
  refine lv_iload_n hx hb d_M_parcel_12 rfl (lv_at hl 1 rfl) ?_
  refine lv_if_lt hx hb d_M_parcel_13 (tgt := 24) rfl (fun h9 => absurd h9 (nI_pos (n := d) (by omega))) (fun _ => ?_)
  refine lv_iload_n hx hb d_M_parcel_16 rfl (lv_at hl 1 rfl) ?_
  refine lv_aload_n hx hb d_M_parcel_17 rfl (lv_at hl 0 rfl) ?_
  refine gF (v := .int (nI x.parcelCount)) hx hb hown hE hK hP 0 rfl rfl layM 28 (by decide) w344 rfl d_M_parcel_18 ?_
  refine lv_icmp_lt hx hb d_M_parcel_21 (tgt := 28) rfl (fun _ => ?_) (fun h9 => absurd ((nI_ltI (a := d) (b := x.parcelCount) (by omega) (by omega)).mpr hk) h9)
  refine lv_iload_n hx hb d_M_parcel_28 rfl (lv_at hl 2 rfl) ?_
  refine lv_if_lt hx hb d_M_parcel_29 (tgt := 37) rfl (fun h9 => absurd h9 (by decide)) (fun _ => ?_)
  refine lv_iload_n hx hb d_M_parcel_32 rfl (lv_at hl 2 rfl) ?_
  refine lv_iconst (v := 4) hx hb d_M_parcel_33 (by decide) ?_
  refine lv_icmp_le hx hb d_M_parcel_34 (tgt := 41) rfl (fun _ => ?_) (fun h9 => absurd (by decide) h9)
  refine lv_iconst (v := 0) hx hb d_M_parcel_41 (by decide) ?_
  refine pF (v := .int 0) hx hb hown hE hK hP hD hS 0 rfl rfl layM tyM tokM nmM 0 (by decide) w319 rfl rfl rfl (Nat.le_of_ble_eq_true rfl) d_M_parcel_42 (fun H locs hP hD hS => ?_)
  have hP : va_P D vwCl (MW dA h ad (MS.s_cod x 0)) H := hP
  have hD : va_D A (MW dA h ad (MS.s_cod x 0)) := hD
  refine lv_aload_n hx hb d_M_parcel_45 rfl (lv_at hl 0 rfl) ?_
  refine gF (v := .int 0) hx hb hown hE hK hP 0 rfl rfl layM 0 (by decide) w319 rfl d_M_parcel_46 ?_
  refine lv_if_le hx hb d_M_parcel_49 (tgt := 54) rfl (fun _ => ?_) (fun h9 => absurd (by decide) h9)
  refine lv_iconst (v := 0) hx hb d_M_parcel_54 (by decide) ?_
  refine lv_istore_n hx hb d_M_parcel_55 rfl hl (by decide) rfl (fun ls hl => ?_)
  have hl : lv_has ls 10 [(3, .int 0), (0, .ref h), (1, .int (nI d)), (2, .int 0)] := hl
  refine lv_iconst (v := 0) hx hb d_M_parcel_56 (by decide) ?_
  refine lv_istore hx hb d_M_parcel_57 hl (by decide) rfl (fun ls hl => ?_)
  have hl : lv_has ls 10 [(4, .int 0), (3, .int 0), (0, .ref h), (1, .int (nI d)), (2, .int 0)] := hl
  refine lv_iconst (v := 0) hx hb d_M_parcel_59 (by decide) ?_
  refine lv_istore hx hb d_M_parcel_60 hl (by decide) rfl (fun ls hl => ?_)
  have hl : lv_has ls 10 [(5, .int 0), (4, .int 0), (3, .int 0), (0, .ref h), (1, .int (nI d)), (2, .int 0)] := hl
  refine lv_iconst (v := 0) hx hb d_M_parcel_62 (by decide) ?_
  refine lv_istore hx hb d_M_parcel_63 hl (by decide) rfl (fun ls hl => ?_)
  have hl : lv_has ls 10 [(6, .int 0), (5, .int 0), (4, .int 0), (3, .int 0), (0, .ref h), (1, .int (nI d)), (2, .int 0)] := hl
  have L65 : ∀ (k9 : Nat) (w : Nat) (a : Nat) (b : Nat) (n : Nat) (i1 : w ≤ x.seriesCount) (i2 : a = sumN w (fun z => cnt x.points (x.inP (x.parcels d) z))) (i3 : b = sumN w (fun z => cnt x.points (fun y => x.inP (x.parcels d) z y && x.seen y))) (i4 : n = cnt w (fun z => decide (0 < cnt x.points (x.inP (x.parcels d) z)))) (i5 : a ≤ 12000 * w) (hk9 : x.seriesCount - w = k9), ∀ (H : Heap) (locs : List Loc) (ls : Array Slot) (hP : va_P D vwCl (MW dA h ad (MS.s_cod x 0)) H) (hD : va_D A (MW dA h ad (MS.s_cod x 0))) (hS : va_S A s.heap H locs) (hl : lv_has ls 10 [(6, .int (nI w)), (3, .int (nI a)), (4, .int (nI b)), (5, .int (nI n)), (1, .int (nI d)), (2, .int 0), (0, .ref h)]), W p l e ({ frames := 2, cells := 0, slots := 0, locals := 21 } : Room) s m ([.ref h, .int (nI d), .int 0] : List Value).toArray below meth c H locs 0 0 (MQ below (va_Qi (fun (r9 : Int32) (u9 : Unit) => r9 = nI (sumN x.seriesCount (fun z => cnt x.points (x.inP (x.parcels d) z)))) (fun (u9 : Unit) t9 => bW D A (MW dA h ad (MS.s_cod x 0)) t9) A) ([.ref h, .int (nI d), .int 0] : List Value).toArray s 0 0 A) (F0 m 65 ls []) := by
    intro k9
    induction k9 using Nat.strongRecOn with
    | ind k9 ih65 =>
      intro w a b n i1 i2 i3 i4 i5 hk9 H locs ls hP hD hS hl
      refine lv_iload hx hb d_M_parcel_65 (lv_at hl 0 rfl) ?_
      refine lv_aload_n hx hb d_M_parcel_67 rfl (lv_at hl 6 rfl) ?_
      refine gF (v := .int (nI x.seriesCount)) hx hb hown hE hK hP 0 rfl rfl layM 12 (by decide) w332 rfl d_M_parcel_68 ?_
      refine lv_icmp_ge hx hb d_M_parcel_71 (tgt := 189) rfl (fun g1 => ?_) (fun g1 => ?_)
      · have g1 := (nI_leI (a := x.seriesCount) (b := w) (by omega) (by omega)).mp g1
        refine lv_iload_n hx hb d_M_parcel_189 rfl (lv_at hl 5 rfl) ?_
        refine lv_if_ne hx hb d_M_parcel_190 (tgt := 197) rfl (fun h9 => absurd (by decide) h9) (fun _ => ?_)
        refine lv_iload_n hx hb d_M_parcel_193 rfl (lv_at hl 1 rfl) ?_
        refine lv_goto hx hb d_M_parcel_194 (tgt := 249) rfl ?_
        exact rfI hx hb hr hlk hS () (by first | rfl | rw [i2, show w = x.seriesCount by omega] | rw [i3, show w = x.seriesCount by omega] | rw [i4, show w = x.seriesCount by omega]) hP hD (Nat.le_of_ble_eq_true rfl) (Nat.le_of_ble_eq_true rfl) d_M_parcel_249
      · have g1 := mt (nI_leI (a := x.seriesCount) (b := w) (by omega) (by omega)).mpr g1
        refine lv_iload_n hx hb d_M_parcel_74 rfl (lv_at hl 1 rfl) ?_
        refine lv_istore hx hb d_M_parcel_75 hl (by decide) rfl (fun ls hl => ?_)
        have hl : lv_has ls 10 [(7, .int (nI a)), (6, .int (nI w)), (3, .int (nI a)), (4, .int (nI b)), (5, .int (nI n)), (1, .int (nI d)), (2, .int 0), (0, .ref h)] := hl
        refine lv_iconst (v := 0) hx hb d_M_parcel_77 (by decide) ?_
        refine lv_istore hx hb d_M_parcel_78 hl (by decide) rfl (fun ls hl => ?_)
        have hl : lv_has ls 10 [(8, .int 0), (7, .int (nI a)), (6, .int (nI w)), (3, .int (nI a)), (4, .int (nI b)), (5, .int (nI n)), (1, .int (nI d)), (2, .int 0), (0, .ref h)] := hl
        have L80 : ∀ (k9 : Nat) (q : Nat) (a2 : Nat) (b2 : Nat) (j1 : q ≤ x.points) (j2 : a2 = a + cnt q (x.inP (x.parcels d) w)) (j3 : b2 = b + cnt q (fun y => x.inP (x.parcels d) w y && x.seen y)) (hk9 : x.points - q = k9), ∀ (H : Heap) (locs : List Loc) (ls : Array Slot) (hP : va_P D vwCl (MW dA h ad (MS.s_cod x 0)) H) (hD : va_D A (MW dA h ad (MS.s_cod x 0))) (hS : va_S A s.heap H locs) (hl : lv_has ls 10 [(8, .int (nI q)), (3, .int (nI a2)), (4, .int (nI b2)), (6, .int (nI w)), (5, .int (nI n)), (7, .int (nI a)), (1, .int (nI d)), (2, .int 0), (0, .ref h)]), W p l e ({ frames := 2, cells := 0, slots := 0, locals := 21 } : Room) s m ([.ref h, .int (nI d), .int 0] : List Value).toArray below meth c H locs 0 0 (MQ below (va_Qi (fun (r9 : Int32) (u9 : Unit) => r9 = nI (sumN x.seriesCount (fun z => cnt x.points (x.inP (x.parcels d) z)))) (fun (u9 : Unit) t9 => bW D A (MW dA h ad (MS.s_cod x 0)) t9) A) ([.ref h, .int (nI d), .int 0] : List Value).toArray s 0 0 A) (F0 m 80 ls []) := by
          intro k9
          induction k9 using Nat.strongRecOn with
          | ind k9 ih80 =>
            intro q a2 b2 j1 j2 j3 hk9 H locs ls hP hD hS hl
            have hz := cnt_le q (x.inP (x.parcels d) w)
            refine lv_iload hx hb d_M_parcel_80 (lv_at hl 0 rfl) ?_
            refine lv_aload_n hx hb d_M_parcel_82 rfl (lv_at hl 8 rfl) ?_
            refine gF (v := .int (nI x.points)) hx hb hown hE hK hP 0 rfl rfl layM 23 (by decide) w420 rfl d_M_parcel_83 ?_
            refine lv_icmp_ge hx hb d_M_parcel_86 (tgt := 167) rfl (fun g2 => ?_) (fun g2 => ?_)
            · have g2 := (nI_leI (a := x.points) (b := q) (by omega) (by omega)).mp g2
              refine lv_iload hx hb d_M_parcel_167 (lv_at hl 4 rfl) ?_
              refine lv_iload_n hx hb d_M_parcel_169 rfl (lv_at hl 1 rfl) ?_
              refine lv_iload hx hb d_M_parcel_170 (lv_at hl 5 rfl) ?_
              refine lv_icmp_le hx hb d_M_parcel_172 (tgt := 179) rfl (fun g3 => ?_) (fun g3 => ?_)
              · have g3 := (nI_leI (a := a2) (b := a) (by omega) (by omega)).mp g3
                refine lv_iconst (v := 0) hx hb d_M_parcel_179 (by decide) ?_
                refine lv_iadd hx hb d_M_parcel_180 (tpi (y := nI (n)) (nI_add (n) (0)) ?_)
                refine lv_istore hx hb d_M_parcel_181 hl (by decide) rfl (fun ls hl => ?_)
                have hl : lv_has ls 10 [(5, .int (nI (n))), (8, .int (nI q)), (3, .int (nI a2)), (4, .int (nI b2)), (6, .int (nI w)), (7, .int (nI a)), (1, .int (nI d)), (2, .int 0), (0, .ref h)] := hl
                refine lv_iinc (k := 4) (v := nI (w + 1)) hx hb d_M_parcel_183 hl rfl (iincN (w) 1 1 (by decide)) (by decide) rfl (fun ls hl => ?_)
                have hl : lv_has ls 10 [(6, .int (nI (w + 1))), (5, .int (nI (n))), (8, .int (nI q)), (3, .int (nI a2)), (4, .int (nI b2)), (7, .int (nI a)), (1, .int (nI d)), (2, .int 0), (0, .ref h)] := hl
                refine lv_goto hx hb d_M_parcel_186 (tgt := 65) rfl ?_
                exact ih65 _ (by omega) (w + 1) a2 b2 n (by omega) (by show _ = sumN w _ + cnt x.points (x.inP (x.parcels d) w); rw [← i2, ← show q = x.points by omega, j2]) (by show _ = sumN w _ + cnt x.points (fun y => x.inP (x.parcels d) w y && x.seen y); rw [← i3, ← show q = x.points by omega, j3]) (chk0 (F := (fun z => cnt x.points (x.inP (x.parcels d) z))) i4 (show a2 = a + cnt x.points (x.inP (x.parcels d) w) from by rw [← show q = x.points by omega]; exact j2) g3) (by have hz := cnt_le q (x.inP (x.parcels d) w); omega) rfl H _ ls hP hD hS (lv_sub hl [0, 3, 4, 1, 6, 7, 8] rfl)
              · have g3 := mt (nI_leI (a := a2) (b := a) (by omega) (by omega)).mpr g3
                refine lv_iconst (v := 1) hx hb d_M_parcel_175 (by decide) ?_
                refine lv_goto hx hb d_M_parcel_176 (tgt := 180) rfl ?_
                refine lv_iadd hx hb d_M_parcel_180 (tpi (y := nI (n + 1)) (nI_add (n) (1)) ?_)
                refine lv_istore hx hb d_M_parcel_181 hl (by decide) rfl (fun ls hl => ?_)
                have hl : lv_has ls 10 [(5, .int (nI (n + 1))), (8, .int (nI q)), (3, .int (nI a2)), (4, .int (nI b2)), (6, .int (nI w)), (7, .int (nI a)), (1, .int (nI d)), (2, .int 0), (0, .ref h)] := hl
                refine lv_iinc (k := 4) (v := nI (w + 1)) hx hb d_M_parcel_183 hl rfl (iincN (w) 1 1 (by decide)) (by decide) rfl (fun ls hl => ?_)
                have hl : lv_has ls 10 [(6, .int (nI (w + 1))), (5, .int (nI (n + 1))), (8, .int (nI q)), (3, .int (nI a2)), (4, .int (nI b2)), (7, .int (nI a)), (1, .int (nI d)), (2, .int 0), (0, .ref h)] := hl
                refine lv_goto hx hb d_M_parcel_186 (tgt := 65) rfl ?_
                exact ih65 _ (by omega) (w + 1) a2 b2 (n + 1) (by omega) (by show _ = sumN w _ + cnt x.points (x.inP (x.parcels d) w); rw [← i2, ← show q = x.points by omega, j2]) (by show _ = sumN w _ + cnt x.points (fun y => x.inP (x.parcels d) w y && x.seen y); rw [← i3, ← show q = x.points by omega, j3]) (chk (F := (fun z => cnt x.points (x.inP (x.parcels d) z))) i4 (show a2 = a + cnt x.points (x.inP (x.parcels d) w) from by rw [← show q = x.points by omega]; exact j2) g3) (by have hz := cnt_le q (x.inP (x.parcels d) w); omega) rfl H _ ls hP hD hS (lv_sub hl [0, 3, 4, 1, 6, 7, 8] rfl)
            · have g2 := mt (nI_leI (a := x.points) (b := q) (by omega) (by omega)).mpr g2
              have J122 : ∀ (v : Bool) (j9 : x.inP (x.parcels d) w q = v), ∀ (H : Heap) (locs : List Loc) (ls : Array Slot) (hP : va_P D vwCl (MW dA h ad (MS.s_cod x 0)) H) (hD : va_D A (MW dA h ad (MS.s_cod x 0))) (hS : va_S A s.heap H locs) (hl : lv_has ls 10 [(8, .int (nI q)), (3, .int (nI a2)), (4, .int (nI b2)), (6, .int (nI w)), (5, .int (nI n)), (7, .int (nI a)), (1, .int (nI d)), (2, .int 0), (0, .ref h)]), W p l e ({ frames := 2, cells := 0, slots := 0, locals := 21 } : Room) s m ([.ref h, .int (nI d), .int 0] : List Value).toArray below meth c H locs 0 0 (MQ below (va_Qi (fun (r9 : Int32) (u9 : Unit) => r9 = nI (sumN x.seriesCount (fun z => cnt x.points (x.inP (x.parcels d) z)))) (fun (u9 : Unit) t9 => bW D A (MW dA h ad (MS.s_cod x 0)) t9) A) ([.ref h, .int (nI d), .int 0] : List Value).toArray s 0 0 A) (F0 m 122 ls [.int (bI v)]) := by
                intro v j9 H locs ls hP hD hS hl
                refine lv_istore hx hb d_M_parcel_122 hl (by decide) rfl (fun ls hl => ?_)
                have hl : lv_has ls 10 [(9, .int (bI v)), (8, .int (nI q)), (3, .int (nI a2)), (4, .int (nI b2)), (6, .int (nI w)), (5, .int (nI n)), (7, .int (nI a)), (1, .int (nI d)), (2, .int 0), (0, .ref h)] := hl
                refine lv_iload_n hx hb d_M_parcel_124 rfl (lv_at hl 2 rfl) ?_
                refine lv_iload hx hb d_M_parcel_125 (lv_at hl 0 rfl) ?_
                refine lv_if_eq hx hb d_M_parcel_127 (tgt := 134) rfl (fun g4 => ?_) (fun g4 => ?_)
                · have g4 := bI_0 g4
                  refine lv_iconst (v := 0) hx hb d_M_parcel_134 (by decide) ?_
                  refine lv_iadd hx hb d_M_parcel_135 (tpi (y := nI (a2)) (nI_add (a2) (0)) ?_)
                  refine lv_istore_n hx hb d_M_parcel_136 rfl hl (by decide) rfl (fun ls hl => ?_)
                  have hl : lv_has ls 10 [(3, .int (nI (a2))), (9, .int (bI v)), (8, .int (nI q)), (4, .int (nI b2)), (6, .int (nI w)), (5, .int (nI n)), (7, .int (nI a)), (1, .int (nI d)), (2, .int 0), (0, .ref h)] := hl
                  refine lv_iload hx hb d_M_parcel_137 (lv_at hl 3 rfl) ?_
                  refine lv_iload hx hb d_M_parcel_139 (lv_at hl 1 rfl) ?_
                  refine lv_if_eq hx hb d_M_parcel_141 (tgt := 157) rfl (fun _ => ?_) (fun h9 => absurd (by rw [g4]; decide) h9)
                  refine lv_iconst (v := 0) hx hb d_M_parcel_157 (by decide) ?_
                  refine lv_iadd hx hb d_M_parcel_158 (tpi (y := nI (b2)) (nI_add (b2) (0)) ?_)
                  refine lv_istore hx hb d_M_parcel_159 hl (by decide) rfl (fun ls hl => ?_)
                  have hl : lv_has ls 10 [(4, .int (nI (b2))), (3, .int (nI (a2))), (9, .int (bI v)), (8, .int (nI q)), (6, .int (nI w)), (5, .int (nI n)), (7, .int (nI a)), (1, .int (nI d)), (2, .int 0), (0, .ref h)] := hl
                  refine lv_iinc (k := 3) (v := nI (q + 1)) hx hb d_M_parcel_161 hl rfl (iincN (q) 1 1 (by decide)) (by decide) rfl (fun ls hl => ?_)
                  have hl : lv_has ls 10 [(8, .int (nI (q + 1))), (4, .int (nI (b2))), (3, .int (nI (a2))), (9, .int (bI v)), (6, .int (nI w)), (5, .int (nI n)), (7, .int (nI a)), (1, .int (nI d)), (2, .int 0), (0, .ref h)] := hl
                  refine lv_goto hx hb d_M_parcel_164 (tgt := 80) rfl ?_
                  exact ih80 _ (by omega) (q + 1) a2 b2 (by omega) (by simp [cnt, *, Nat.add_assoc]) (by simp [cnt, *, Nat.add_assoc]) rfl H _ ls hP hD hS (lv_sub hl [0, 2, 1, 4, 5, 6, 7, 8, 9] rfl)
                · have g4 := bI_n0 g4
                  refine lv_iconst (v := 1) hx hb d_M_parcel_130 (by decide) ?_
                  refine lv_goto hx hb d_M_parcel_131 (tgt := 135) rfl ?_
                  refine lv_iadd hx hb d_M_parcel_135 (tpi (y := nI (a2 + 1)) (nI_add (a2) (1)) ?_)
                  refine lv_istore_n hx hb d_M_parcel_136 rfl hl (by decide) rfl (fun ls hl => ?_)
                  have hl : lv_has ls 10 [(3, .int (nI (a2 + 1))), (9, .int (bI v)), (8, .int (nI q)), (4, .int (nI b2)), (6, .int (nI w)), (5, .int (nI n)), (7, .int (nI a)), (1, .int (nI d)), (2, .int 0), (0, .ref h)] := hl
                  refine lv_iload hx hb d_M_parcel_137 (lv_at hl 3 rfl) ?_
                  refine lv_iload hx hb d_M_parcel_139 (lv_at hl 1 rfl) ?_
                  refine lv_if_eq hx hb d_M_parcel_141 (tgt := 157) rfl (fun h9 => absurd h9 (by rw [g4]; decide)) (fun _ => ?_)
                  refine lv_aload_n hx hb d_M_parcel_144 rfl (lv_at hl 9 rfl) ?_
                  refine lv_iload hx hb d_M_parcel_145 (lv_at hl 2 rfl) ?_
                  refine jfI (rnV (As := [.int (nI q)]) (rest := [.int (nI b2)]) hx hb hml hown hE hK (hN _ _ hS) hP hD (k_isSeen l D dA H.size h ad (MS.s_cod x 0) q (show q < 12000 from by omega)) (q0 := 0) rfl rfl w861 w860 w862 w863 w328 rfl rfl ⟨⟨by decide, by decide⟩, rfl⟩ ⟨(Nat.le_of_ble_eq_true rfl), (Nat.le_of_ble_eq_true rfl)⟩ rfl hl.1 rfl (Nat.le_of_ble_eq_true rfl) d_M_parcel_147 ⟨(Nat.le_of_ble_eq_true rfl), (Nat.le_of_ble_eq_true rfl)⟩) hP hD hS hA (fun r5 u6 H locs hp9 hP hD hS => ?_)
                  have hP : va_P D vwCl (MW dA h ad (MS.s_cod x 0)) H := hP
                  have hD : va_D A (MW dA h ad (MS.s_cod x 0)) := hD
                  replace hp9 : bI (x.seen q) = r5 := Eq.symm hp9
                  subst hp9
                  refine lv_if_eq hx hb d_M_parcel_150 (tgt := 157) rfl (fun g7 => ?_) (fun g7 => ?_)
                  · have g7 := bI_0 g7
                    refine lv_iconst (v := 0) hx hb d_M_parcel_157 (by decide) ?_
                    refine lv_iadd hx hb d_M_parcel_158 (tpi (y := nI (b2)) (nI_add (b2) (0)) ?_)
                    refine lv_istore hx hb d_M_parcel_159 hl (by decide) rfl (fun ls hl => ?_)
                    have hl : lv_has ls 10 [(4, .int (nI (b2))), (3, .int (nI (a2 + 1))), (9, .int (bI v)), (8, .int (nI q)), (6, .int (nI w)), (5, .int (nI n)), (7, .int (nI a)), (1, .int (nI d)), (2, .int 0), (0, .ref h)] := hl
                    refine lv_iinc (k := 3) (v := nI (q + 1)) hx hb d_M_parcel_161 hl rfl (iincN (q) 1 1 (by decide)) (by decide) rfl (fun ls hl => ?_)
                    have hl : lv_has ls 10 [(8, .int (nI (q + 1))), (4, .int (nI (b2))), (3, .int (nI (a2 + 1))), (9, .int (bI v)), (6, .int (nI w)), (5, .int (nI n)), (7, .int (nI a)), (1, .int (nI d)), (2, .int 0), (0, .ref h)] := hl
                    refine lv_goto hx hb d_M_parcel_164 (tgt := 80) rfl ?_
                    exact ih80 _ (by omega) (q + 1) (a2 + 1) b2 (by omega) (by simp [cnt, *, Nat.add_assoc]) (by simp [cnt, *, Nat.add_assoc]) rfl H _ ls hP hD hS (lv_sub hl [0, 2, 1, 4, 5, 6, 7, 8, 9] rfl)
                  · have g7 := bI_n0 g7
                    refine lv_iconst (v := 1) hx hb d_M_parcel_153 (by decide) ?_
                    refine lv_goto hx hb d_M_parcel_154 (tgt := 158) rfl ?_
                    refine lv_iadd hx hb d_M_parcel_158 (tpi (y := nI (b2 + 1)) (nI_add (b2) (1)) ?_)
                    refine lv_istore hx hb d_M_parcel_159 hl (by decide) rfl (fun ls hl => ?_)
                    have hl : lv_has ls 10 [(4, .int (nI (b2 + 1))), (3, .int (nI (a2 + 1))), (9, .int (bI v)), (8, .int (nI q)), (6, .int (nI w)), (5, .int (nI n)), (7, .int (nI a)), (1, .int (nI d)), (2, .int 0), (0, .ref h)] := hl
                    refine lv_iinc (k := 3) (v := nI (q + 1)) hx hb d_M_parcel_161 hl rfl (iincN (q) 1 1 (by decide)) (by decide) rfl (fun ls hl => ?_)
                    have hl : lv_has ls 10 [(8, .int (nI (q + 1))), (4, .int (nI (b2 + 1))), (3, .int (nI (a2 + 1))), (9, .int (bI v)), (6, .int (nI w)), (5, .int (nI n)), (7, .int (nI a)), (1, .int (nI d)), (2, .int 0), (0, .ref h)] := hl
                    refine lv_goto hx hb d_M_parcel_164 (tgt := 80) rfl ?_
                    exact ih80 _ (by omega) (q + 1) (a2 + 1) (b2 + 1) (by omega) (by simp [cnt, *, Nat.add_assoc]) (by simp [cnt, *, Nat.add_assoc]) rfl H _ ls hP hD hS (lv_sub hl [0, 2, 1, 4, 5, 6, 7, 8, 9] rfl)
              refine lv_aload_n hx hb d_M_parcel_89 rfl (lv_at hl 8 rfl) ?_
              refine gF (v := .ref (ad 17)) hx hb hown hE hK hP 0 rfl rfl layM 17 (by decide) w503 rfl d_M_parcel_90 ?_
              refine lv_iload hx hb d_M_parcel_93 (lv_at hl 0 rfl) ?_
              refine nild (f := (fun z9 => nI (x.pointSeries z9))) hx hb hK hP 6 1 rfl rfl (q) (by omega) (by decide) d_M_parcel_95 ?_
              refine lv_iload hx hb d_M_parcel_96 (lv_at hl 3 rfl) ?_
              have b1 := hs q (by omega)
              refine lv_icmp_ne hx hb d_M_parcel_98 (tgt := 121) rfl (fun g8 => ?_) (fun g8 => ?_)
              · have g8 := mt (nI_eq (a := x.pointSeries q) (b := w) (by omega) (by omega)).mpr g8
                refine lv_iconst (v := 0) hx hb d_M_parcel_121 (by decide) ?_
                exact J122 false (by simp [MS.inP, *]) H _ ls hP hD hS (lv_sub hl [0, 1, 2, 3, 4, 5, 6, 7, 8] rfl)
              · have g8 := (nI_eq (a := x.pointSeries q) (b := w) (by omega) (by omega)).mp g8
                refine lv_aload_n hx hb d_M_parcel_101 rfl (lv_at hl 8 rfl) ?_
                refine gF (v := .ref (ad 20)) hx hb hown hE hK hP 0 rfl rfl layM 20 (by decide) w506 rfl d_M_parcel_102 ?_
                refine lv_iload hx hb d_M_parcel_105 (lv_at hl 0 rfl) ?_
                refine nild (f := x.places) hx hb hK hP 9 1 rfl rfl (q) (by omega) (by decide) d_M_parcel_107 ?_
                refine lv_aload_n hx hb d_M_parcel_108 rfl (lv_at hl 8 rfl) ?_
                refine gF (v := .ref (ad 26)) hx hb hown hE hK hP 0 rfl rfl layM 26 (by decide) w509 rfl d_M_parcel_109 ?_
                refine lv_iload_n hx hb d_M_parcel_112 rfl (lv_at hl 6 rfl) ?_
                refine nild (f := (fun z9 => nI (x.parcels z9))) hx hb hK hP 12 1 rfl rfl (d) (by omega) (by decide) d_M_parcel_113 ?_
                refine lv_icmp_ne hx hb d_M_parcel_114 (tgt := 121) rfl (fun g9 => ?_) (fun g9 => ?_)
                · have g9 := g9
                  refine lv_iconst (v := 0) hx hb d_M_parcel_121 (by decide) ?_
                  exact J122 false (by simp [MS.inP, *]) H _ ls hP hD hS (lv_sub hl [0, 1, 2, 3, 4, 5, 6, 7, 8] rfl)
                · have g9 := g9
                  refine lv_iconst (v := 1) hx hb d_M_parcel_117 (by decide) ?_
                  refine lv_goto hx hb d_M_parcel_118 (tgt := 122) rfl ?_
                  exact J122 true (by simp [MS.inP, *]) H _ ls hP hD hS (lv_sub hl [0, 1, 2, 3, 4, 5, 6, 7, 8] rfl)
        exact L80 _ 0 a b (by omega) rfl rfl rfl H _ ls hP hD hS (lv_sub hl [0, 3, 4, 2, 5, 1, 6, 7, 8] rfl)
  exact L65 _ 0 0 0 0 (by omega) rfl rfl rfl (by omega) rfl H _ ls hP hD hS (lv_sub hl [0, 3, 2, 1, 5, 6, 4] rfl)
theorem d_M_parcel_197 : decode prog_14_method_49_code 197 = .ok (.iload_n 2, 1) := by decide +kernel
theorem d_M_parcel_198 : decode prog_14_method_49_code 198 = .ok (.iconst 1, 1) := by decide +kernel
theorem d_M_parcel_199 : decode prog_14_method_49_code 199 = .ok (.if_icmp .ne 8, 3) := by decide +kernel
theorem d_M_parcel_202 : decode prog_14_method_49_code 202 = .ok (.iload 4, 2) := by decide +kernel
theorem d_M_parcel_204 : decode prog_14_method_49_code 204 = .ok (.goto 45, 3) := by decide +kernel
set_option maxHeartbeats 4000000 in
set_option maxRecDepth 100000 in
theorem k_parcel0_1 (l : Launch) (D : va_G) (dA : Nat → ClassId) (sz : Nat) (h : Nat) (ad : Nat → Nat) (x : MS) (d : Nat) (ho : x.on = true) (hk : d < x.parcelCount) (f1 : x.parcelCount ≤ 40) (h1 : x.points ≤ 12000) (h2 : x.seriesCount ≤ 256) (hs : ∀ q : Nat, q < x.points → x.pointSeries q < 256) : Met l ⟨"SeriesVaultModel", "parcel", "(II)I"⟩ [Cond.code ⟨"SeriesVaultModel", "parcel", "(II)I"⟩ prog_14_method_49_code 10 (some FieldType.int)] { frames := 2, cells := 0, slots := 0, locals := 21 } (pC D dA [.ref h, .int (nI d), .int 1] (MW dA h ad x) sz) (va_Qi (fun (r9 : Int32) (u9 : Unit) => r9 = nI (sumN x.seriesCount (fun z => cnt x.points (fun y => x.inP (x.parcels d) z y && x.seen y)))) (fun (u9 : Unit) t9 => bW D (va_A (MW dA h ad x) sz) (MW dA h ad (MS.s_cod x 0)) t9) (va_A (MW dA h ad x) sz)) 0 0 (va_A (MW dA h ad x) sz) := by
  refine mkC (y := ⟨"SeriesVaultModel", "parcel", "(II)I"⟩) (cc := prog_14_method_49_code) (maxL := 10) (av := [.ref h, .int (nI d), .int 1]) (ws := MW dA h ad x) (sz := sz) (Qc := fun A => va_Qi (fun (r9 : Int32) (u9 : Unit) => r9 = nI (sumN x.seriesCount (fun z => cnt x.points (fun y => x.inP (x.parcels d) z y && x.seen y)))) (fun (u9 : Unit) t9 => bW D A (MW dA h ad (MS.s_cod x 0)) t9) A) (by decide) (Nat.le_of_ble_eq_true rfl) ?_
  intro A p e s m below meth c ls hsz hB
  obtain ⟨hx, hb, hr, hml, hown, hin, hlk, hE, hK, hP, hD, hS, hA, hN, hl⟩ := hB
  have hown : s.vm.findClass "SeriesVaultModel" = some m.cls := hown
  have hl : lv_has ls 10 [(0, .ref h), (1, .int (nI d)), (2, .int 1)] := hl
  obtain ⟨H, hH⟩ : ∃ z, z = s.heap := ⟨_, rfl⟩
  have hP : va_P D vwCl (MW dA h ad x) H := by rw [hH]; exact hP
  have hS : va_S A s.heap H [] := by rw [hH]; exact hS
  rw [← hH]
  refine lv_aload_n hx hb d_M_parcel_0 rfl (lv_at hl 0 rfl) ?_
  refine lv_aload_n hx hb d_M_parcel_1 rfl (lv_at hl 0 rfl) ?_
  refine gF (v := .int (bI x.on)) hx hb hown hE hK hP 0 rfl rfl layM 7 (by decide) w324 rfl d_M_parcel_2 ?_
  refine lv_if_ne hx hb d_M_parcel_5 (tgt := 12) rfl (fun _ => ?_) (fun h9 => absurd h9 (by rw [ho]; decide))
  refine lv_iload_n hx hb d_M_parcel_12 rfl (lv_at hl 1 rfl) ?_
  refine lv_if_lt hx hb d_M_parcel_13 (tgt := 24) rfl (fun h9 => absurd h9 (nI_pos (n := d) (by omega))) (fun _ => ?_)
  refine lv_iload_n hx hb d_M_parcel_16 rfl (lv_at hl 1 rfl) ?_
  refine lv_aload_n hx hb d_M_parcel_17 rfl (lv_at hl 0 rfl) ?_
  refine gF (v := .int (nI x.parcelCount)) hx hb hown hE hK hP 0 rfl rfl layM 28 (by decide) w344 rfl d_M_parcel_18 ?_
  refine lv_icmp_lt hx hb d_M_parcel_21 (tgt := 28) rfl (fun _ => ?_) (fun h9 => absurd ((nI_ltI (a := d) (b := x.parcelCount) (by omega) (by omega)).mpr hk) h9)
  refine lv_iload_n hx hb d_M_parcel_28 rfl (lv_at hl 2 rfl) ?_
  refine lv_if_lt hx hb d_M_parcel_29 (tgt := 37) rfl (fun h9 => absurd h9 (by decide)) (fun _ => ?_)
  refine lv_iload_n hx hb d_M_parcel_32 rfl (lv_at hl 2 rfl) ?_
  refine lv_iconst (v := 4) hx hb d_M_parcel_33 (by decide) ?_
  refine lv_icmp_le hx hb d_M_parcel_34 (tgt := 41) rfl (fun _ => ?_) (fun h9 => absurd (by decide) h9)
  refine lv_iconst (v := 0) hx hb d_M_parcel_41 (by decide) ?_
  refine pF (v := .int 0) hx hb hown hE hK hP hD hS 0 rfl rfl layM tyM tokM nmM 0 (by decide) w319 rfl rfl rfl (Nat.le_of_ble_eq_true rfl) d_M_parcel_42 (fun H locs hP hD hS => ?_)
  have hP : va_P D vwCl (MW dA h ad (MS.s_cod x 0)) H := hP
  have hD : va_D A (MW dA h ad (MS.s_cod x 0)) := hD
  refine lv_aload_n hx hb d_M_parcel_45 rfl (lv_at hl 0 rfl) ?_
  refine gF (v := .int 0) hx hb hown hE hK hP 0 rfl rfl layM 0 (by decide) w319 rfl d_M_parcel_46 ?_
  refine lv_if_le hx hb d_M_parcel_49 (tgt := 54) rfl (fun _ => ?_) (fun h9 => absurd (by decide) h9)
  refine lv_iconst (v := 0) hx hb d_M_parcel_54 (by decide) ?_
  refine lv_istore_n hx hb d_M_parcel_55 rfl hl (by decide) rfl (fun ls hl => ?_)
  have hl : lv_has ls 10 [(3, .int 0), (0, .ref h), (1, .int (nI d)), (2, .int 1)] := hl
  refine lv_iconst (v := 0) hx hb d_M_parcel_56 (by decide) ?_
  refine lv_istore hx hb d_M_parcel_57 hl (by decide) rfl (fun ls hl => ?_)
  have hl : lv_has ls 10 [(4, .int 0), (3, .int 0), (0, .ref h), (1, .int (nI d)), (2, .int 1)] := hl
  refine lv_iconst (v := 0) hx hb d_M_parcel_59 (by decide) ?_
  refine lv_istore hx hb d_M_parcel_60 hl (by decide) rfl (fun ls hl => ?_)
  have hl : lv_has ls 10 [(5, .int 0), (4, .int 0), (3, .int 0), (0, .ref h), (1, .int (nI d)), (2, .int 1)] := hl
  refine lv_iconst (v := 0) hx hb d_M_parcel_62 (by decide) ?_
  refine lv_istore hx hb d_M_parcel_63 hl (by decide) rfl (fun ls hl => ?_)
  have hl : lv_has ls 10 [(6, .int 0), (5, .int 0), (4, .int 0), (3, .int 0), (0, .ref h), (1, .int (nI d)), (2, .int 1)] := hl
  have L65 : ∀ (k9 : Nat) (w : Nat) (a : Nat) (b : Nat) (n : Nat) (i1 : w ≤ x.seriesCount) (i2 : a = sumN w (fun z => cnt x.points (x.inP (x.parcels d) z))) (i3 : b = sumN w (fun z => cnt x.points (fun y => x.inP (x.parcels d) z y && x.seen y))) (i4 : n = cnt w (fun z => decide (0 < cnt x.points (x.inP (x.parcels d) z)))) (i5 : a ≤ 12000 * w) (hk9 : x.seriesCount - w = k9), ∀ (H : Heap) (locs : List Loc) (ls : Array Slot) (hP : va_P D vwCl (MW dA h ad (MS.s_cod x 0)) H) (hD : va_D A (MW dA h ad (MS.s_cod x 0))) (hS : va_S A s.heap H locs) (hl : lv_has ls 10 [(6, .int (nI w)), (3, .int (nI a)), (4, .int (nI b)), (5, .int (nI n)), (1, .int (nI d)), (2, .int 1), (0, .ref h)]), W p l e ({ frames := 2, cells := 0, slots := 0, locals := 21 } : Room) s m ([.ref h, .int (nI d), .int 1] : List Value).toArray below meth c H locs 0 0 (MQ below (va_Qi (fun (r9 : Int32) (u9 : Unit) => r9 = nI (sumN x.seriesCount (fun z => cnt x.points (fun y => x.inP (x.parcels d) z y && x.seen y)))) (fun (u9 : Unit) t9 => bW D A (MW dA h ad (MS.s_cod x 0)) t9) A) ([.ref h, .int (nI d), .int 1] : List Value).toArray s 0 0 A) (F0 m 65 ls []) := by
    intro k9
    induction k9 using Nat.strongRecOn with
    | ind k9 ih65 =>
      intro w a b n i1 i2 i3 i4 i5 hk9 H locs ls hP hD hS hl
      refine lv_iload hx hb d_M_parcel_65 (lv_at hl 0 rfl) ?_
      refine lv_aload_n hx hb d_M_parcel_67 rfl (lv_at hl 6 rfl) ?_
      refine gF (v := .int (nI x.seriesCount)) hx hb hown hE hK hP 0 rfl rfl layM 12 (by decide) w332 rfl d_M_parcel_68 ?_
      refine lv_icmp_ge hx hb d_M_parcel_71 (tgt := 189) rfl (fun g1 => ?_) (fun g1 => ?_)
      · have g1 := (nI_leI (a := x.seriesCount) (b := w) (by omega) (by omega)).mp g1
        refine lv_iload_n hx hb d_M_parcel_189 rfl (lv_at hl 5 rfl) ?_
        refine lv_if_ne hx hb d_M_parcel_190 (tgt := 197) rfl (fun _ => ?_) (fun h9 => absurd h9 (by decide))
        refine lv_iload_n hx hb d_M_parcel_197 rfl (lv_at hl 5 rfl) ?_
        refine lv_iconst (v := 1) hx hb d_M_parcel_198 (by decide) ?_
        refine lv_icmp_ne hx hb d_M_parcel_199 (tgt := 207) rfl (fun h9 => absurd (by decide) h9) (fun _ => ?_)
        refine lv_iload hx hb d_M_parcel_202 (lv_at hl 2 rfl) ?_
        refine lv_goto hx hb d_M_parcel_204 (tgt := 249) rfl ?_
        exact rfI hx hb hr hlk hS () (by first | rfl | rw [i2, show w = x.seriesCount by omega] | rw [i3, show w = x.seriesCount by omega] | rw [i4, show w = x.seriesCount by omega]) hP hD (Nat.le_of_ble_eq_true rfl) (Nat.le_of_ble_eq_true rfl) d_M_parcel_249
      · have g1 := mt (nI_leI (a := x.seriesCount) (b := w) (by omega) (by omega)).mpr g1
        refine lv_iload_n hx hb d_M_parcel_74 rfl (lv_at hl 1 rfl) ?_
        refine lv_istore hx hb d_M_parcel_75 hl (by decide) rfl (fun ls hl => ?_)
        have hl : lv_has ls 10 [(7, .int (nI a)), (6, .int (nI w)), (3, .int (nI a)), (4, .int (nI b)), (5, .int (nI n)), (1, .int (nI d)), (2, .int 1), (0, .ref h)] := hl
        refine lv_iconst (v := 0) hx hb d_M_parcel_77 (by decide) ?_
        refine lv_istore hx hb d_M_parcel_78 hl (by decide) rfl (fun ls hl => ?_)
        have hl : lv_has ls 10 [(8, .int 0), (7, .int (nI a)), (6, .int (nI w)), (3, .int (nI a)), (4, .int (nI b)), (5, .int (nI n)), (1, .int (nI d)), (2, .int 1), (0, .ref h)] := hl
        have L80 : ∀ (k9 : Nat) (q : Nat) (a2 : Nat) (b2 : Nat) (j1 : q ≤ x.points) (j2 : a2 = a + cnt q (x.inP (x.parcels d) w)) (j3 : b2 = b + cnt q (fun y => x.inP (x.parcels d) w y && x.seen y)) (hk9 : x.points - q = k9), ∀ (H : Heap) (locs : List Loc) (ls : Array Slot) (hP : va_P D vwCl (MW dA h ad (MS.s_cod x 0)) H) (hD : va_D A (MW dA h ad (MS.s_cod x 0))) (hS : va_S A s.heap H locs) (hl : lv_has ls 10 [(8, .int (nI q)), (3, .int (nI a2)), (4, .int (nI b2)), (6, .int (nI w)), (5, .int (nI n)), (7, .int (nI a)), (1, .int (nI d)), (2, .int 1), (0, .ref h)]), W p l e ({ frames := 2, cells := 0, slots := 0, locals := 21 } : Room) s m ([.ref h, .int (nI d), .int 1] : List Value).toArray below meth c H locs 0 0 (MQ below (va_Qi (fun (r9 : Int32) (u9 : Unit) => r9 = nI (sumN x.seriesCount (fun z => cnt x.points (fun y => x.inP (x.parcels d) z y && x.seen y)))) (fun (u9 : Unit) t9 => bW D A (MW dA h ad (MS.s_cod x 0)) t9) A) ([.ref h, .int (nI d), .int 1] : List Value).toArray s 0 0 A) (F0 m 80 ls []) := by
          intro k9
          induction k9 using Nat.strongRecOn with
          | ind k9 ih80 =>
            intro q a2 b2 j1 j2 j3 hk9 H locs ls hP hD hS hl
            have hz := cnt_le q (x.inP (x.parcels d) w)
            refine lv_iload hx hb d_M_parcel_80 (lv_at hl 0 rfl) ?_
            refine lv_aload_n hx hb d_M_parcel_82 rfl (lv_at hl 8 rfl) ?_
            refine gF (v := .int (nI x.points)) hx hb hown hE hK hP 0 rfl rfl layM 23 (by decide) w420 rfl d_M_parcel_83 ?_
            refine lv_icmp_ge hx hb d_M_parcel_86 (tgt := 167) rfl (fun g2 => ?_) (fun g2 => ?_)
            · have g2 := (nI_leI (a := x.points) (b := q) (by omega) (by omega)).mp g2
              refine lv_iload hx hb d_M_parcel_167 (lv_at hl 4 rfl) ?_
              refine lv_iload_n hx hb d_M_parcel_169 rfl (lv_at hl 1 rfl) ?_
              refine lv_iload hx hb d_M_parcel_170 (lv_at hl 5 rfl) ?_
              refine lv_icmp_le hx hb d_M_parcel_172 (tgt := 179) rfl (fun g3 => ?_) (fun g3 => ?_)
              · have g3 := (nI_leI (a := a2) (b := a) (by omega) (by omega)).mp g3
                refine lv_iconst (v := 0) hx hb d_M_parcel_179 (by decide) ?_
                refine lv_iadd hx hb d_M_parcel_180 (tpi (y := nI (n)) (nI_add (n) (0)) ?_)
                refine lv_istore hx hb d_M_parcel_181 hl (by decide) rfl (fun ls hl => ?_)
                have hl : lv_has ls 10 [(5, .int (nI (n))), (8, .int (nI q)), (3, .int (nI a2)), (4, .int (nI b2)), (6, .int (nI w)), (7, .int (nI a)), (1, .int (nI d)), (2, .int 1), (0, .ref h)] := hl
                refine lv_iinc (k := 4) (v := nI (w + 1)) hx hb d_M_parcel_183 hl rfl (iincN (w) 1 1 (by decide)) (by decide) rfl (fun ls hl => ?_)
                have hl : lv_has ls 10 [(6, .int (nI (w + 1))), (5, .int (nI (n))), (8, .int (nI q)), (3, .int (nI a2)), (4, .int (nI b2)), (7, .int (nI a)), (1, .int (nI d)), (2, .int 1), (0, .ref h)] := hl
                refine lv_goto hx hb d_M_parcel_186 (tgt := 65) rfl ?_
                exact ih65 _ (by omega) (w + 1) a2 b2 n (by omega) (by show _ = sumN w _ + cnt x.points (x.inP (x.parcels d) w); rw [← i2, ← show q = x.points by omega, j2]) (by show _ = sumN w _ + cnt x.points (fun y => x.inP (x.parcels d) w y && x.seen y); rw [← i3, ← show q = x.points by omega, j3]) (chk0 (F := (fun z => cnt x.points (x.inP (x.parcels d) z))) i4 (show a2 = a + cnt x.points (x.inP (x.parcels d) w) from by rw [← show q = x.points by omega]; exact j2) g3) (by have hz := cnt_le q (x.inP (x.parcels d) w); omega) rfl H _ ls hP hD hS (lv_sub hl [0, 3, 4, 1, 6, 7, 8] rfl)
              · have g3 := mt (nI_leI (a := a2) (b := a) (by omega) (by omega)).mpr g3
                refine lv_iconst (v := 1) hx hb d_M_parcel_175 (by decide) ?_
                refine lv_goto hx hb d_M_parcel_176 (tgt := 180) rfl ?_
                refine lv_iadd hx hb d_M_parcel_180 (tpi (y := nI (n + 1)) (nI_add (n) (1)) ?_)
                refine lv_istore hx hb d_M_parcel_181 hl (by decide) rfl (fun ls hl => ?_)
                have hl : lv_has ls 10 [(5, .int (nI (n + 1))), (8, .int (nI q)), (3, .int (nI a2)), (4, .int (nI b2)), (6, .int (nI w)), (7, .int (nI a)), (1, .int (nI d)), (2, .int 1), (0, .ref h)] := hl
                refine lv_iinc (k := 4) (v := nI (w + 1)) hx hb d_M_parcel_183 hl rfl (iincN (w) 1 1 (by decide)) (by decide) rfl (fun ls hl => ?_)
                have hl : lv_has ls 10 [(6, .int (nI (w + 1))), (5, .int (nI (n + 1))), (8, .int (nI q)), (3, .int (nI a2)), (4, .int (nI b2)), (7, .int (nI a)), (1, .int (nI d)), (2, .int 1), (0, .ref h)] := hl
                refine lv_goto hx hb d_M_parcel_186 (tgt := 65) rfl ?_
                exact ih65 _ (by omega) (w + 1) a2 b2 (n + 1) (by omega) (by show _ = sumN w _ + cnt x.points (x.inP (x.parcels d) w); rw [← i2, ← show q = x.points by omega, j2]) (by show _ = sumN w _ + cnt x.points (fun y => x.inP (x.parcels d) w y && x.seen y); rw [← i3, ← show q = x.points by omega, j3]) (chk (F := (fun z => cnt x.points (x.inP (x.parcels d) z))) i4 (show a2 = a + cnt x.points (x.inP (x.parcels d) w) from by rw [← show q = x.points by omega]; exact j2) g3) (by have hz := cnt_le q (x.inP (x.parcels d) w); omega) rfl H _ ls hP hD hS (lv_sub hl [0, 3, 4, 1, 6, 7, 8] rfl)
            · have g2 := mt (nI_leI (a := x.points) (b := q) (by omega) (by omega)).mpr g2
              have J122 : ∀ (v : Bool) (j9 : x.inP (x.parcels d) w q = v), ∀ (H : Heap) (locs : List Loc) (ls : Array Slot) (hP : va_P D vwCl (MW dA h ad (MS.s_cod x 0)) H) (hD : va_D A (MW dA h ad (MS.s_cod x 0))) (hS : va_S A s.heap H locs) (hl : lv_has ls 10 [(8, .int (nI q)), (3, .int (nI a2)), (4, .int (nI b2)), (6, .int (nI w)), (5, .int (nI n)), (7, .int (nI a)), (1, .int (nI d)), (2, .int 1), (0, .ref h)]), W p l e ({ frames := 2, cells := 0, slots := 0, locals := 21 } : Room) s m ([.ref h, .int (nI d), .int 1] : List Value).toArray below meth c H locs 0 0 (MQ below (va_Qi (fun (r9 : Int32) (u9 : Unit) => r9 = nI (sumN x.seriesCount (fun z => cnt x.points (fun y => x.inP (x.parcels d) z y && x.seen y)))) (fun (u9 : Unit) t9 => bW D A (MW dA h ad (MS.s_cod x 0)) t9) A) ([.ref h, .int (nI d), .int 1] : List Value).toArray s 0 0 A) (F0 m 122 ls [.int (bI v)]) := by
                intro v j9 H locs ls hP hD hS hl
                refine lv_istore hx hb d_M_parcel_122 hl (by decide) rfl (fun ls hl => ?_)
                have hl : lv_has ls 10 [(9, .int (bI v)), (8, .int (nI q)), (3, .int (nI a2)), (4, .int (nI b2)), (6, .int (nI w)), (5, .int (nI n)), (7, .int (nI a)), (1, .int (nI d)), (2, .int 1), (0, .ref h)] := hl
                refine lv_iload_n hx hb d_M_parcel_124 rfl (lv_at hl 2 rfl) ?_
                refine lv_iload hx hb d_M_parcel_125 (lv_at hl 0 rfl) ?_
                refine lv_if_eq hx hb d_M_parcel_127 (tgt := 134) rfl (fun g4 => ?_) (fun g4 => ?_)
                · have g4 := bI_0 g4
                  refine lv_iconst (v := 0) hx hb d_M_parcel_134 (by decide) ?_
                  refine lv_iadd hx hb d_M_parcel_135 (tpi (y := nI (a2)) (nI_add (a2) (0)) ?_)
                  refine lv_istore_n hx hb d_M_parcel_136 rfl hl (by decide) rfl (fun ls hl => ?_)
                  have hl : lv_has ls 10 [(3, .int (nI (a2))), (9, .int (bI v)), (8, .int (nI q)), (4, .int (nI b2)), (6, .int (nI w)), (5, .int (nI n)), (7, .int (nI a)), (1, .int (nI d)), (2, .int 1), (0, .ref h)] := hl
                  refine lv_iload hx hb d_M_parcel_137 (lv_at hl 3 rfl) ?_
                  refine lv_iload hx hb d_M_parcel_139 (lv_at hl 1 rfl) ?_
                  refine lv_if_eq hx hb d_M_parcel_141 (tgt := 157) rfl (fun _ => ?_) (fun h9 => absurd (by rw [g4]; decide) h9)
                  refine lv_iconst (v := 0) hx hb d_M_parcel_157 (by decide) ?_
                  refine lv_iadd hx hb d_M_parcel_158 (tpi (y := nI (b2)) (nI_add (b2) (0)) ?_)
                  refine lv_istore hx hb d_M_parcel_159 hl (by decide) rfl (fun ls hl => ?_)
                  have hl : lv_has ls 10 [(4, .int (nI (b2))), (3, .int (nI (a2))), (9, .int (bI v)), (8, .int (nI q)), (6, .int (nI w)), (5, .int (nI n)), (7, .int (nI a)), (1, .int (nI d)), (2, .int 1), (0, .ref h)] := hl
                  refine lv_iinc (k := 3) (v := nI (q + 1)) hx hb d_M_parcel_161 hl rfl (iincN (q) 1 1 (by decide)) (by decide) rfl (fun ls hl => ?_)
                  have hl : lv_has ls 10 [(8, .int (nI (q + 1))), (4, .int (nI (b2))), (3, .int (nI (a2))), (9, .int (bI v)), (6, .int (nI w)), (5, .int (nI n)), (7, .int (nI a)), (1, .int (nI d)), (2, .int 1), (0, .ref h)] := hl
                  refine lv_goto hx hb d_M_parcel_164 (tgt := 80) rfl ?_
                  exact ih80 _ (by omega) (q + 1) a2 b2 (by omega) (by simp [cnt, *, Nat.add_assoc]) (by simp [cnt, *, Nat.add_assoc]) rfl H _ ls hP hD hS (lv_sub hl [0, 2, 1, 4, 5, 6, 7, 8, 9] rfl)
                · have g4 := bI_n0 g4
                  refine lv_iconst (v := 1) hx hb d_M_parcel_130 (by decide) ?_
                  refine lv_goto hx hb d_M_parcel_131 (tgt := 135) rfl ?_
                  refine lv_iadd hx hb d_M_parcel_135 (tpi (y := nI (a2 + 1)) (nI_add (a2) (1)) ?_)
                  refine lv_istore_n hx hb d_M_parcel_136 rfl hl (by decide) rfl (fun ls hl => ?_)
                  have hl : lv_has ls 10 [(3, .int (nI (a2 + 1))), (9, .int (bI v)), (8, .int (nI q)), (4, .int (nI b2)), (6, .int (nI w)), (5, .int (nI n)), (7, .int (nI a)), (1, .int (nI d)), (2, .int 1), (0, .ref h)] := hl
                  refine lv_iload hx hb d_M_parcel_137 (lv_at hl 3 rfl) ?_
                  refine lv_iload hx hb d_M_parcel_139 (lv_at hl 1 rfl) ?_
                  refine lv_if_eq hx hb d_M_parcel_141 (tgt := 157) rfl (fun h9 => absurd h9 (by rw [g4]; decide)) (fun _ => ?_)
                  refine lv_aload_n hx hb d_M_parcel_144 rfl (lv_at hl 9 rfl) ?_
                  refine lv_iload hx hb d_M_parcel_145 (lv_at hl 2 rfl) ?_
                  refine jfI (rnV (As := [.int (nI q)]) (rest := [.int (nI b2)]) hx hb hml hown hE hK (hN _ _ hS) hP hD (k_isSeen l D dA H.size h ad (MS.s_cod x 0) q (show q < 12000 from by omega)) (q0 := 0) rfl rfl w861 w860 w862 w863 w328 rfl rfl ⟨⟨by decide, by decide⟩, rfl⟩ ⟨(Nat.le_of_ble_eq_true rfl), (Nat.le_of_ble_eq_true rfl)⟩ rfl hl.1 rfl (Nat.le_of_ble_eq_true rfl) d_M_parcel_147 ⟨(Nat.le_of_ble_eq_true rfl), (Nat.le_of_ble_eq_true rfl)⟩) hP hD hS hA (fun r5 u6 H locs hp9 hP hD hS => ?_)
                  have hP : va_P D vwCl (MW dA h ad (MS.s_cod x 0)) H := hP
                  have hD : va_D A (MW dA h ad (MS.s_cod x 0)) := hD
                  replace hp9 : bI (x.seen q) = r5 := Eq.symm hp9
                  subst hp9
                  refine lv_if_eq hx hb d_M_parcel_150 (tgt := 157) rfl (fun g7 => ?_) (fun g7 => ?_)
                  · have g7 := bI_0 g7
                    refine lv_iconst (v := 0) hx hb d_M_parcel_157 (by decide) ?_
                    refine lv_iadd hx hb d_M_parcel_158 (tpi (y := nI (b2)) (nI_add (b2) (0)) ?_)
                    refine lv_istore hx hb d_M_parcel_159 hl (by decide) rfl (fun ls hl => ?_)
                    have hl : lv_has ls 10 [(4, .int (nI (b2))), (3, .int (nI (a2 + 1))), (9, .int (bI v)), (8, .int (nI q)), (6, .int (nI w)), (5, .int (nI n)), (7, .int (nI a)), (1, .int (nI d)), (2, .int 1), (0, .ref h)] := hl
                    refine lv_iinc (k := 3) (v := nI (q + 1)) hx hb d_M_parcel_161 hl rfl (iincN (q) 1 1 (by decide)) (by decide) rfl (fun ls hl => ?_)
                    have hl : lv_has ls 10 [(8, .int (nI (q + 1))), (4, .int (nI (b2))), (3, .int (nI (a2 + 1))), (9, .int (bI v)), (6, .int (nI w)), (5, .int (nI n)), (7, .int (nI a)), (1, .int (nI d)), (2, .int 1), (0, .ref h)] := hl
                    refine lv_goto hx hb d_M_parcel_164 (tgt := 80) rfl ?_
                    exact ih80 _ (by omega) (q + 1) (a2 + 1) b2 (by omega) (by simp [cnt, *, Nat.add_assoc]) (by simp [cnt, *, Nat.add_assoc]) rfl H _ ls hP hD hS (lv_sub hl [0, 2, 1, 4, 5, 6, 7, 8, 9] rfl)
                  · have g7 := bI_n0 g7
                    refine lv_iconst (v := 1) hx hb d_M_parcel_153 (by decide) ?_
                    refine lv_goto hx hb d_M_parcel_154 (tgt := 158) rfl ?_
                    refine lv_iadd hx hb d_M_parcel_158 (tpi (y := nI (b2 + 1)) (nI_add (b2) (1)) ?_)
                    refine lv_istore hx hb d_M_parcel_159 hl (by decide) rfl (fun ls hl => ?_)
                    have hl : lv_has ls 10 [(4, .int (nI (b2 + 1))), (3, .int (nI (a2 + 1))), (9, .int (bI v)), (8, .int (nI q)), (6, .int (nI w)), (5, .int (nI n)), (7, .int (nI a)), (1, .int (nI d)), (2, .int 1), (0, .ref h)] := hl
                    refine lv_iinc (k := 3) (v := nI (q + 1)) hx hb d_M_parcel_161 hl rfl (iincN (q) 1 1 (by decide)) (by decide) rfl (fun ls hl => ?_)
                    have hl : lv_has ls 10 [(8, .int (nI (q + 1))), (4, .int (nI (b2 + 1))), (3, .int (nI (a2 + 1))), (9, .int (bI v)), (6, .int (nI w)), (5, .int (nI n)), (7, .int (nI a)), (1, .int (nI d)), (2, .int 1), (0, .ref h)] := hl
                    refine lv_goto hx hb d_M_parcel_164 (tgt := 80) rfl ?_
                    exact ih80 _ (by omega) (q + 1) (a2 + 1) (b2 + 1) (by omega) (by simp [cnt, *, Nat.add_assoc]) (by simp [cnt, *, Nat.add_assoc]) rfl H _ ls hP hD hS (lv_sub hl [0, 2, 1, 4, 5, 6, 7, 8, 9] rfl)
              refine lv_aload_n hx hb d_M_parcel_89 rfl (lv_at hl 8 rfl) ?_
              refine gF (v := .ref (ad 17)) hx hb hown hE hK hP 0 rfl rfl layM 17 (by decide) w503 rfl d_M_parcel_90 ?_
              refine lv_iload hx hb d_M_parcel_93 (lv_at hl 0 rfl) ?_
              refine nild (f := (fun z9 => nI (x.pointSeries z9))) hx hb hK hP 6 1 rfl rfl (q) (by omega) (by decide) d_M_parcel_95 ?_
              refine lv_iload hx hb d_M_parcel_96 (lv_at hl 3 rfl) ?_
              have b1 := hs q (by omega)
              refine lv_icmp_ne hx hb d_M_parcel_98 (tgt := 121) rfl (fun g8 => ?_) (fun g8 => ?_)
              · have g8 := mt (nI_eq (a := x.pointSeries q) (b := w) (by omega) (by omega)).mpr g8
                refine lv_iconst (v := 0) hx hb d_M_parcel_121 (by decide) ?_
                exact J122 false (by simp [MS.inP, *]) H _ ls hP hD hS (lv_sub hl [0, 1, 2, 3, 4, 5, 6, 7, 8] rfl)
              · have g8 := (nI_eq (a := x.pointSeries q) (b := w) (by omega) (by omega)).mp g8
                refine lv_aload_n hx hb d_M_parcel_101 rfl (lv_at hl 8 rfl) ?_
                refine gF (v := .ref (ad 20)) hx hb hown hE hK hP 0 rfl rfl layM 20 (by decide) w506 rfl d_M_parcel_102 ?_
                refine lv_iload hx hb d_M_parcel_105 (lv_at hl 0 rfl) ?_
                refine nild (f := x.places) hx hb hK hP 9 1 rfl rfl (q) (by omega) (by decide) d_M_parcel_107 ?_
                refine lv_aload_n hx hb d_M_parcel_108 rfl (lv_at hl 8 rfl) ?_
                refine gF (v := .ref (ad 26)) hx hb hown hE hK hP 0 rfl rfl layM 26 (by decide) w509 rfl d_M_parcel_109 ?_
                refine lv_iload_n hx hb d_M_parcel_112 rfl (lv_at hl 6 rfl) ?_
                refine nild (f := (fun z9 => nI (x.parcels z9))) hx hb hK hP 12 1 rfl rfl (d) (by omega) (by decide) d_M_parcel_113 ?_
                refine lv_icmp_ne hx hb d_M_parcel_114 (tgt := 121) rfl (fun g9 => ?_) (fun g9 => ?_)
                · have g9 := g9
                  refine lv_iconst (v := 0) hx hb d_M_parcel_121 (by decide) ?_
                  exact J122 false (by simp [MS.inP, *]) H _ ls hP hD hS (lv_sub hl [0, 1, 2, 3, 4, 5, 6, 7, 8] rfl)
                · have g9 := g9
                  refine lv_iconst (v := 1) hx hb d_M_parcel_117 (by decide) ?_
                  refine lv_goto hx hb d_M_parcel_118 (tgt := 122) rfl ?_
                  exact J122 true (by simp [MS.inP, *]) H _ ls hP hD hS (lv_sub hl [0, 1, 2, 3, 4, 5, 6, 7, 8] rfl)
        exact L80 _ 0 a b (by omega) rfl rfl rfl H _ ls hP hD hS (lv_sub hl [0, 3, 4, 2, 5, 1, 6, 7, 8] rfl)
  exact L65 _ 0 0 0 0 (by omega) rfl rfl rfl (by omega) rfl H _ ls hP hD hS (lv_sub hl [0, 3, 2, 1, 5, 6, 4] rfl)
theorem d_M_parcel_207 : decode prog_14_method_49_code 207 = .ok (.iload_n 2, 1) := by decide +kernel
theorem d_M_parcel_208 : decode prog_14_method_49_code 208 = .ok (.iconst 2, 1) := by decide +kernel
theorem d_M_parcel_209 : decode prog_14_method_49_code 209 = .ok (.if_icmp .ne 8, 3) := by decide +kernel
theorem d_M_parcel_212 : decode prog_14_method_49_code 212 = .ok (.iload 5, 2) := by decide +kernel
theorem d_M_parcel_214 : decode prog_14_method_49_code 214 = .ok (.goto 35, 3) := by decide +kernel
set_option maxHeartbeats 4000000 in
set_option maxRecDepth 100000 in
theorem k_parcel0_2 (l : Launch) (D : va_G) (dA : Nat → ClassId) (sz : Nat) (h : Nat) (ad : Nat → Nat) (x : MS) (d : Nat) (ho : x.on = true) (hk : d < x.parcelCount) (f1 : x.parcelCount ≤ 40) (h1 : x.points ≤ 12000) (h2 : x.seriesCount ≤ 256) (hs : ∀ q : Nat, q < x.points → x.pointSeries q < 256) : Met l ⟨"SeriesVaultModel", "parcel", "(II)I"⟩ [Cond.code ⟨"SeriesVaultModel", "parcel", "(II)I"⟩ prog_14_method_49_code 10 (some FieldType.int)] { frames := 2, cells := 0, slots := 0, locals := 21 } (pC D dA [.ref h, .int (nI d), .int 2] (MW dA h ad x) sz) (va_Qi (fun (r9 : Int32) (u9 : Unit) => r9 = nI (cnt x.seriesCount (fun z => decide (0 < cnt x.points (x.inP (x.parcels d) z))))) (fun (u9 : Unit) t9 => bW D (va_A (MW dA h ad x) sz) (MW dA h ad (MS.s_cod x 0)) t9) (va_A (MW dA h ad x) sz)) 0 0 (va_A (MW dA h ad x) sz) := by
  refine mkC (y := ⟨"SeriesVaultModel", "parcel", "(II)I"⟩) (cc := prog_14_method_49_code) (maxL := 10) (av := [.ref h, .int (nI d), .int 2]) (ws := MW dA h ad x) (sz := sz) (Qc := fun A => va_Qi (fun (r9 : Int32) (u9 : Unit) => r9 = nI (cnt x.seriesCount (fun z => decide (0 < cnt x.points (x.inP (x.parcels d) z))))) (fun (u9 : Unit) t9 => bW D A (MW dA h ad (MS.s_cod x 0)) t9) A) (by decide) (Nat.le_of_ble_eq_true rfl) ?_
  intro A p e s m below meth c ls hsz hB
  obtain ⟨hx, hb, hr, hml, hown, hin, hlk, hE, hK, hP, hD, hS, hA, hN, hl⟩ := hB
  have hown : s.vm.findClass "SeriesVaultModel" = some m.cls := hown
  have hl : lv_has ls 10 [(0, .ref h), (1, .int (nI d)), (2, .int 2)] := hl
  obtain ⟨H, hH⟩ : ∃ z, z = s.heap := ⟨_, rfl⟩
  have hP : va_P D vwCl (MW dA h ad x) H := by rw [hH]; exact hP
  have hS : va_S A s.heap H [] := by rw [hH]; exact hS
  rw [← hH]
  refine lv_aload_n hx hb d_M_parcel_0 rfl (lv_at hl 0 rfl) ?_
  refine lv_aload_n hx hb d_M_parcel_1 rfl (lv_at hl 0 rfl) ?_
  refine gF (v := .int (bI x.on)) hx hb hown hE hK hP 0 rfl rfl layM 7 (by decide) w324 rfl d_M_parcel_2 ?_
  refine lv_if_ne hx hb d_M_parcel_5 (tgt := 12) rfl (fun _ => ?_) (fun h9 => absurd h9 (by rw [ho]; decide))
  refine lv_iload_n hx hb d_M_parcel_12 rfl (lv_at hl 1 rfl) ?_
  refine lv_if_lt hx hb d_M_parcel_13 (tgt := 24) rfl (fun h9 => absurd h9 (nI_pos (n := d) (by omega))) (fun _ => ?_)
  refine lv_iload_n hx hb d_M_parcel_16 rfl (lv_at hl 1 rfl) ?_
  refine lv_aload_n hx hb d_M_parcel_17 rfl (lv_at hl 0 rfl) ?_
  refine gF (v := .int (nI x.parcelCount)) hx hb hown hE hK hP 0 rfl rfl layM 28 (by decide) w344 rfl d_M_parcel_18 ?_
  refine lv_icmp_lt hx hb d_M_parcel_21 (tgt := 28) rfl (fun _ => ?_) (fun h9 => absurd ((nI_ltI (a := d) (b := x.parcelCount) (by omega) (by omega)).mpr hk) h9)
  refine lv_iload_n hx hb d_M_parcel_28 rfl (lv_at hl 2 rfl) ?_
  refine lv_if_lt hx hb d_M_parcel_29 (tgt := 37) rfl (fun h9 => absurd h9 (by decide)) (fun _ => ?_)
  refine lv_iload_n hx hb d_M_parcel_32 rfl (lv_at hl 2 rfl) ?_
  refine lv_iconst (v := 4) hx hb d_M_parcel_33 (by decide) ?_
  refine lv_icmp_le hx hb d_M_parcel_34 (tgt := 41) rfl (fun _ => ?_) (fun h9 => absurd (by decide) h9)
  refine lv_iconst (v := 0) hx hb d_M_parcel_41 (by decide) ?_
  refine pF (v := .int 0) hx hb hown hE hK hP hD hS 0 rfl rfl layM tyM tokM nmM 0 (by decide) w319 rfl rfl rfl (Nat.le_of_ble_eq_true rfl) d_M_parcel_42 (fun H locs hP hD hS => ?_)
  have hP : va_P D vwCl (MW dA h ad (MS.s_cod x 0)) H := hP
  have hD : va_D A (MW dA h ad (MS.s_cod x 0)) := hD
  refine lv_aload_n hx hb d_M_parcel_45 rfl (lv_at hl 0 rfl) ?_
  refine gF (v := .int 0) hx hb hown hE hK hP 0 rfl rfl layM 0 (by decide) w319 rfl d_M_parcel_46 ?_
  refine lv_if_le hx hb d_M_parcel_49 (tgt := 54) rfl (fun _ => ?_) (fun h9 => absurd (by decide) h9)
  refine lv_iconst (v := 0) hx hb d_M_parcel_54 (by decide) ?_
  refine lv_istore_n hx hb d_M_parcel_55 rfl hl (by decide) rfl (fun ls hl => ?_)
  have hl : lv_has ls 10 [(3, .int 0), (0, .ref h), (1, .int (nI d)), (2, .int 2)] := hl
  refine lv_iconst (v := 0) hx hb d_M_parcel_56 (by decide) ?_
  refine lv_istore hx hb d_M_parcel_57 hl (by decide) rfl (fun ls hl => ?_)
  have hl : lv_has ls 10 [(4, .int 0), (3, .int 0), (0, .ref h), (1, .int (nI d)), (2, .int 2)] := hl
  refine lv_iconst (v := 0) hx hb d_M_parcel_59 (by decide) ?_
  refine lv_istore hx hb d_M_parcel_60 hl (by decide) rfl (fun ls hl => ?_)
  have hl : lv_has ls 10 [(5, .int 0), (4, .int 0), (3, .int 0), (0, .ref h), (1, .int (nI d)), (2, .int 2)] := hl
  refine lv_iconst (v := 0) hx hb d_M_parcel_62 (by decide) ?_
  refine lv_istore hx hb d_M_parcel_63 hl (by decide) rfl (fun ls hl => ?_)
  have hl : lv_has ls 10 [(6, .int 0), (5, .int 0), (4, .int 0), (3, .int 0), (0, .ref h), (1, .int (nI d)), (2, .int 2)] := hl
  have L65 : ∀ (k9 : Nat) (w : Nat) (a : Nat) (b : Nat) (n : Nat) (i1 : w ≤ x.seriesCount) (i2 : a = sumN w (fun z => cnt x.points (x.inP (x.parcels d) z))) (i3 : b = sumN w (fun z => cnt x.points (fun y => x.inP (x.parcels d) z y && x.seen y))) (i4 : n = cnt w (fun z => decide (0 < cnt x.points (x.inP (x.parcels d) z)))) (i5 : a ≤ 12000 * w) (hk9 : x.seriesCount - w = k9), ∀ (H : Heap) (locs : List Loc) (ls : Array Slot) (hP : va_P D vwCl (MW dA h ad (MS.s_cod x 0)) H) (hD : va_D A (MW dA h ad (MS.s_cod x 0))) (hS : va_S A s.heap H locs) (hl : lv_has ls 10 [(6, .int (nI w)), (3, .int (nI a)), (4, .int (nI b)), (5, .int (nI n)), (1, .int (nI d)), (2, .int 2), (0, .ref h)]), W p l e ({ frames := 2, cells := 0, slots := 0, locals := 21 } : Room) s m ([.ref h, .int (nI d), .int 2] : List Value).toArray below meth c H locs 0 0 (MQ below (va_Qi (fun (r9 : Int32) (u9 : Unit) => r9 = nI (cnt x.seriesCount (fun z => decide (0 < cnt x.points (x.inP (x.parcels d) z))))) (fun (u9 : Unit) t9 => bW D A (MW dA h ad (MS.s_cod x 0)) t9) A) ([.ref h, .int (nI d), .int 2] : List Value).toArray s 0 0 A) (F0 m 65 ls []) := by
    intro k9
    induction k9 using Nat.strongRecOn with
    | ind k9 ih65 =>
      intro w a b n i1 i2 i3 i4 i5 hk9 H locs ls hP hD hS hl
      refine lv_iload hx hb d_M_parcel_65 (lv_at hl 0 rfl) ?_
      refine lv_aload_n hx hb d_M_parcel_67 rfl (lv_at hl 6 rfl) ?_
      refine gF (v := .int (nI x.seriesCount)) hx hb hown hE hK hP 0 rfl rfl layM 12 (by decide) w332 rfl d_M_parcel_68 ?_
      refine lv_icmp_ge hx hb d_M_parcel_71 (tgt := 189) rfl (fun g1 => ?_) (fun g1 => ?_)
      · have g1 := (nI_leI (a := x.seriesCount) (b := w) (by omega) (by omega)).mp g1
        refine lv_iload_n hx hb d_M_parcel_189 rfl (lv_at hl 5 rfl) ?_
        refine lv_if_ne hx hb d_M_parcel_190 (tgt := 197) rfl (fun _ => ?_) (fun h9 => absurd h9 (by decide))
        refine lv_iload_n hx hb d_M_parcel_197 rfl (lv_at hl 5 rfl) ?_
        refine lv_iconst (v := 1) hx hb d_M_parcel_198 (by decide) ?_
        refine lv_icmp_ne hx hb d_M_parcel_199 (tgt := 207) rfl (fun _ => ?_) (fun h9 => absurd h9 (by decide))
        refine lv_iload_n hx hb d_M_parcel_207 rfl (lv_at hl 5 rfl) ?_
        refine lv_iconst (v := 2) hx hb d_M_parcel_208 (by decide) ?_
        refine lv_icmp_ne hx hb d_M_parcel_209 (tgt := 217) rfl (fun h9 => absurd (by decide) h9) (fun _ => ?_)
        refine lv_iload hx hb d_M_parcel_212 (lv_at hl 3 rfl) ?_
        refine lv_goto hx hb d_M_parcel_214 (tgt := 249) rfl ?_
        exact rfI hx hb hr hlk hS () (by first | rfl | rw [i2, show w = x.seriesCount by omega] | rw [i3, show w = x.seriesCount by omega] | rw [i4, show w = x.seriesCount by omega]) hP hD (Nat.le_of_ble_eq_true rfl) (Nat.le_of_ble_eq_true rfl) d_M_parcel_249
      · have g1 := mt (nI_leI (a := x.seriesCount) (b := w) (by omega) (by omega)).mpr g1
        refine lv_iload_n hx hb d_M_parcel_74 rfl (lv_at hl 1 rfl) ?_
        refine lv_istore hx hb d_M_parcel_75 hl (by decide) rfl (fun ls hl => ?_)
        have hl : lv_has ls 10 [(7, .int (nI a)), (6, .int (nI w)), (3, .int (nI a)), (4, .int (nI b)), (5, .int (nI n)), (1, .int (nI d)), (2, .int 2), (0, .ref h)] := hl
        refine lv_iconst (v := 0) hx hb d_M_parcel_77 (by decide) ?_
        refine lv_istore hx hb d_M_parcel_78 hl (by decide) rfl (fun ls hl => ?_)
        have hl : lv_has ls 10 [(8, .int 0), (7, .int (nI a)), (6, .int (nI w)), (3, .int (nI a)), (4, .int (nI b)), (5, .int (nI n)), (1, .int (nI d)), (2, .int 2), (0, .ref h)] := hl
        have L80 : ∀ (k9 : Nat) (q : Nat) (a2 : Nat) (b2 : Nat) (j1 : q ≤ x.points) (j2 : a2 = a + cnt q (x.inP (x.parcels d) w)) (j3 : b2 = b + cnt q (fun y => x.inP (x.parcels d) w y && x.seen y)) (hk9 : x.points - q = k9), ∀ (H : Heap) (locs : List Loc) (ls : Array Slot) (hP : va_P D vwCl (MW dA h ad (MS.s_cod x 0)) H) (hD : va_D A (MW dA h ad (MS.s_cod x 0))) (hS : va_S A s.heap H locs) (hl : lv_has ls 10 [(8, .int (nI q)), (3, .int (nI a2)), (4, .int (nI b2)), (6, .int (nI w)), (5, .int (nI n)), (7, .int (nI a)), (1, .int (nI d)), (2, .int 2), (0, .ref h)]), W p l e ({ frames := 2, cells := 0, slots := 0, locals := 21 } : Room) s m ([.ref h, .int (nI d), .int 2] : List Value).toArray below meth c H locs 0 0 (MQ below (va_Qi (fun (r9 : Int32) (u9 : Unit) => r9 = nI (cnt x.seriesCount (fun z => decide (0 < cnt x.points (x.inP (x.parcels d) z))))) (fun (u9 : Unit) t9 => bW D A (MW dA h ad (MS.s_cod x 0)) t9) A) ([.ref h, .int (nI d), .int 2] : List Value).toArray s 0 0 A) (F0 m 80 ls []) := by
          intro k9
          induction k9 using Nat.strongRecOn with
          | ind k9 ih80 =>
            intro q a2 b2 j1 j2 j3 hk9 H locs ls hP hD hS hl
            have hz := cnt_le q (x.inP (x.parcels d) w)
            refine lv_iload hx hb d_M_parcel_80 (lv_at hl 0 rfl) ?_
            refine lv_aload_n hx hb d_M_parcel_82 rfl (lv_at hl 8 rfl) ?_
            refine gF (v := .int (nI x.points)) hx hb hown hE hK hP 0 rfl rfl layM 23 (by decide) w420 rfl d_M_parcel_83 ?_
            refine lv_icmp_ge hx hb d_M_parcel_86 (tgt := 167) rfl (fun g2 => ?_) (fun g2 => ?_)
            · have g2 := (nI_leI (a := x.points) (b := q) (by omega) (by omega)).mp g2
              refine lv_iload hx hb d_M_parcel_167 (lv_at hl 4 rfl) ?_
              refine lv_iload_n hx hb d_M_parcel_169 rfl (lv_at hl 1 rfl) ?_
              refine lv_iload hx hb d_M_parcel_170 (lv_at hl 5 rfl) ?_
              refine lv_icmp_le hx hb d_M_parcel_172 (tgt := 179) rfl (fun g3 => ?_) (fun g3 => ?_)
              · have g3 := (nI_leI (a := a2) (b := a) (by omega) (by omega)).mp g3
                refine lv_iconst (v := 0) hx hb d_M_parcel_179 (by decide) ?_
                refine lv_iadd hx hb d_M_parcel_180 (tpi (y := nI (n)) (nI_add (n) (0)) ?_)
                refine lv_istore hx hb d_M_parcel_181 hl (by decide) rfl (fun ls hl => ?_)
                have hl : lv_has ls 10 [(5, .int (nI (n))), (8, .int (nI q)), (3, .int (nI a2)), (4, .int (nI b2)), (6, .int (nI w)), (7, .int (nI a)), (1, .int (nI d)), (2, .int 2), (0, .ref h)] := hl
                refine lv_iinc (k := 4) (v := nI (w + 1)) hx hb d_M_parcel_183 hl rfl (iincN (w) 1 1 (by decide)) (by decide) rfl (fun ls hl => ?_)
                have hl : lv_has ls 10 [(6, .int (nI (w + 1))), (5, .int (nI (n))), (8, .int (nI q)), (3, .int (nI a2)), (4, .int (nI b2)), (7, .int (nI a)), (1, .int (nI d)), (2, .int 2), (0, .ref h)] := hl
                refine lv_goto hx hb d_M_parcel_186 (tgt := 65) rfl ?_
                exact ih65 _ (by omega) (w + 1) a2 b2 n (by omega) (by show _ = sumN w _ + cnt x.points (x.inP (x.parcels d) w); rw [← i2, ← show q = x.points by omega, j2]) (by show _ = sumN w _ + cnt x.points (fun y => x.inP (x.parcels d) w y && x.seen y); rw [← i3, ← show q = x.points by omega, j3]) (chk0 (F := (fun z => cnt x.points (x.inP (x.parcels d) z))) i4 (show a2 = a + cnt x.points (x.inP (x.parcels d) w) from by rw [← show q = x.points by omega]; exact j2) g3) (by have hz := cnt_le q (x.inP (x.parcels d) w); omega) rfl H _ ls hP hD hS (lv_sub hl [0, 3, 4, 1, 6, 7, 8] rfl)
              · have g3 := mt (nI_leI (a := a2) (b := a) (by omega) (by omega)).mpr g3
                refine lv_iconst (v := 1) hx hb d_M_parcel_175 (by decide) ?_
                refine lv_goto hx hb d_M_parcel_176 (tgt := 180) rfl ?_
                refine lv_iadd hx hb d_M_parcel_180 (tpi (y := nI (n + 1)) (nI_add (n) (1)) ?_)
                refine lv_istore hx hb d_M_parcel_181 hl (by decide) rfl (fun ls hl => ?_)
                have hl : lv_has ls 10 [(5, .int (nI (n + 1))), (8, .int (nI q)), (3, .int (nI a2)), (4, .int (nI b2)), (6, .int (nI w)), (7, .int (nI a)), (1, .int (nI d)), (2, .int 2), (0, .ref h)] := hl
                refine lv_iinc (k := 4) (v := nI (w + 1)) hx hb d_M_parcel_183 hl rfl (iincN (w) 1 1 (by decide)) (by decide) rfl (fun ls hl => ?_)
                have hl : lv_has ls 10 [(6, .int (nI (w + 1))), (5, .int (nI (n + 1))), (8, .int (nI q)), (3, .int (nI a2)), (4, .int (nI b2)), (7, .int (nI a)), (1, .int (nI d)), (2, .int 2), (0, .ref h)] := hl
                refine lv_goto hx hb d_M_parcel_186 (tgt := 65) rfl ?_
                exact ih65 _ (by omega) (w + 1) a2 b2 (n + 1) (by omega) (by show _ = sumN w _ + cnt x.points (x.inP (x.parcels d) w); rw [← i2, ← show q = x.points by omega, j2]) (by show _ = sumN w _ + cnt x.points (fun y => x.inP (x.parcels d) w y && x.seen y); rw [← i3, ← show q = x.points by omega, j3]) (chk (F := (fun z => cnt x.points (x.inP (x.parcels d) z))) i4 (show a2 = a + cnt x.points (x.inP (x.parcels d) w) from by rw [← show q = x.points by omega]; exact j2) g3) (by have hz := cnt_le q (x.inP (x.parcels d) w); omega) rfl H _ ls hP hD hS (lv_sub hl [0, 3, 4, 1, 6, 7, 8] rfl)
            · have g2 := mt (nI_leI (a := x.points) (b := q) (by omega) (by omega)).mpr g2
              have J122 : ∀ (v : Bool) (j9 : x.inP (x.parcels d) w q = v), ∀ (H : Heap) (locs : List Loc) (ls : Array Slot) (hP : va_P D vwCl (MW dA h ad (MS.s_cod x 0)) H) (hD : va_D A (MW dA h ad (MS.s_cod x 0))) (hS : va_S A s.heap H locs) (hl : lv_has ls 10 [(8, .int (nI q)), (3, .int (nI a2)), (4, .int (nI b2)), (6, .int (nI w)), (5, .int (nI n)), (7, .int (nI a)), (1, .int (nI d)), (2, .int 2), (0, .ref h)]), W p l e ({ frames := 2, cells := 0, slots := 0, locals := 21 } : Room) s m ([.ref h, .int (nI d), .int 2] : List Value).toArray below meth c H locs 0 0 (MQ below (va_Qi (fun (r9 : Int32) (u9 : Unit) => r9 = nI (cnt x.seriesCount (fun z => decide (0 < cnt x.points (x.inP (x.parcels d) z))))) (fun (u9 : Unit) t9 => bW D A (MW dA h ad (MS.s_cod x 0)) t9) A) ([.ref h, .int (nI d), .int 2] : List Value).toArray s 0 0 A) (F0 m 122 ls [.int (bI v)]) := by
                intro v j9 H locs ls hP hD hS hl
                refine lv_istore hx hb d_M_parcel_122 hl (by decide) rfl (fun ls hl => ?_)
                have hl : lv_has ls 10 [(9, .int (bI v)), (8, .int (nI q)), (3, .int (nI a2)), (4, .int (nI b2)), (6, .int (nI w)), (5, .int (nI n)), (7, .int (nI a)), (1, .int (nI d)), (2, .int 2), (0, .ref h)] := hl
                refine lv_iload_n hx hb d_M_parcel_124 rfl (lv_at hl 2 rfl) ?_
                refine lv_iload hx hb d_M_parcel_125 (lv_at hl 0 rfl) ?_
                refine lv_if_eq hx hb d_M_parcel_127 (tgt := 134) rfl (fun g4 => ?_) (fun g4 => ?_)
                · have g4 := bI_0 g4
                  refine lv_iconst (v := 0) hx hb d_M_parcel_134 (by decide) ?_
                  refine lv_iadd hx hb d_M_parcel_135 (tpi (y := nI (a2)) (nI_add (a2) (0)) ?_)
                  refine lv_istore_n hx hb d_M_parcel_136 rfl hl (by decide) rfl (fun ls hl => ?_)
                  have hl : lv_has ls 10 [(3, .int (nI (a2))), (9, .int (bI v)), (8, .int (nI q)), (4, .int (nI b2)), (6, .int (nI w)), (5, .int (nI n)), (7, .int (nI a)), (1, .int (nI d)), (2, .int 2), (0, .ref h)] := hl
                  refine lv_iload hx hb d_M_parcel_137 (lv_at hl 3 rfl) ?_
                  refine lv_iload hx hb d_M_parcel_139 (lv_at hl 1 rfl) ?_
                  refine lv_if_eq hx hb d_M_parcel_141 (tgt := 157) rfl (fun _ => ?_) (fun h9 => absurd (by rw [g4]; decide) h9)
                  refine lv_iconst (v := 0) hx hb d_M_parcel_157 (by decide) ?_
                  refine lv_iadd hx hb d_M_parcel_158 (tpi (y := nI (b2)) (nI_add (b2) (0)) ?_)
                  refine lv_istore hx hb d_M_parcel_159 hl (by decide) rfl (fun ls hl => ?_)
                  have hl : lv_has ls 10 [(4, .int (nI (b2))), (3, .int (nI (a2))), (9, .int (bI v)), (8, .int (nI q)), (6, .int (nI w)), (5, .int (nI n)), (7, .int (nI a)), (1, .int (nI d)), (2, .int 2), (0, .ref h)] := hl
                  refine lv_iinc (k := 3) (v := nI (q + 1)) hx hb d_M_parcel_161 hl rfl (iincN (q) 1 1 (by decide)) (by decide) rfl (fun ls hl => ?_)
                  have hl : lv_has ls 10 [(8, .int (nI (q + 1))), (4, .int (nI (b2))), (3, .int (nI (a2))), (9, .int (bI v)), (6, .int (nI w)), (5, .int (nI n)), (7, .int (nI a)), (1, .int (nI d)), (2, .int 2), (0, .ref h)] := hl
                  refine lv_goto hx hb d_M_parcel_164 (tgt := 80) rfl ?_
                  exact ih80 _ (by omega) (q + 1) a2 b2 (by omega) (by simp [cnt, *, Nat.add_assoc]) (by simp [cnt, *, Nat.add_assoc]) rfl H _ ls hP hD hS (lv_sub hl [0, 2, 1, 4, 5, 6, 7, 8, 9] rfl)
                · have g4 := bI_n0 g4
                  refine lv_iconst (v := 1) hx hb d_M_parcel_130 (by decide) ?_
                  refine lv_goto hx hb d_M_parcel_131 (tgt := 135) rfl ?_
                  refine lv_iadd hx hb d_M_parcel_135 (tpi (y := nI (a2 + 1)) (nI_add (a2) (1)) ?_)
                  refine lv_istore_n hx hb d_M_parcel_136 rfl hl (by decide) rfl (fun ls hl => ?_)
                  have hl : lv_has ls 10 [(3, .int (nI (a2 + 1))), (9, .int (bI v)), (8, .int (nI q)), (4, .int (nI b2)), (6, .int (nI w)), (5, .int (nI n)), (7, .int (nI a)), (1, .int (nI d)), (2, .int 2), (0, .ref h)] := hl
                  refine lv_iload hx hb d_M_parcel_137 (lv_at hl 3 rfl) ?_
                  refine lv_iload hx hb d_M_parcel_139 (lv_at hl 1 rfl) ?_
                  refine lv_if_eq hx hb d_M_parcel_141 (tgt := 157) rfl (fun h9 => absurd h9 (by rw [g4]; decide)) (fun _ => ?_)
                  refine lv_aload_n hx hb d_M_parcel_144 rfl (lv_at hl 9 rfl) ?_
                  refine lv_iload hx hb d_M_parcel_145 (lv_at hl 2 rfl) ?_
                  refine jfI (rnV (As := [.int (nI q)]) (rest := [.int (nI b2)]) hx hb hml hown hE hK (hN _ _ hS) hP hD (k_isSeen l D dA H.size h ad (MS.s_cod x 0) q (show q < 12000 from by omega)) (q0 := 0) rfl rfl w861 w860 w862 w863 w328 rfl rfl ⟨⟨by decide, by decide⟩, rfl⟩ ⟨(Nat.le_of_ble_eq_true rfl), (Nat.le_of_ble_eq_true rfl)⟩ rfl hl.1 rfl (Nat.le_of_ble_eq_true rfl) d_M_parcel_147 ⟨(Nat.le_of_ble_eq_true rfl), (Nat.le_of_ble_eq_true rfl)⟩) hP hD hS hA (fun r5 u6 H locs hp9 hP hD hS => ?_)
                  have hP : va_P D vwCl (MW dA h ad (MS.s_cod x 0)) H := hP
                  have hD : va_D A (MW dA h ad (MS.s_cod x 0)) := hD
                  replace hp9 : bI (x.seen q) = r5 := Eq.symm hp9
                  subst hp9
                  refine lv_if_eq hx hb d_M_parcel_150 (tgt := 157) rfl (fun g7 => ?_) (fun g7 => ?_)
                  · have g7 := bI_0 g7
                    refine lv_iconst (v := 0) hx hb d_M_parcel_157 (by decide) ?_
                    refine lv_iadd hx hb d_M_parcel_158 (tpi (y := nI (b2)) (nI_add (b2) (0)) ?_)
                    refine lv_istore hx hb d_M_parcel_159 hl (by decide) rfl (fun ls hl => ?_)
                    have hl : lv_has ls 10 [(4, .int (nI (b2))), (3, .int (nI (a2 + 1))), (9, .int (bI v)), (8, .int (nI q)), (6, .int (nI w)), (5, .int (nI n)), (7, .int (nI a)), (1, .int (nI d)), (2, .int 2), (0, .ref h)] := hl
                    refine lv_iinc (k := 3) (v := nI (q + 1)) hx hb d_M_parcel_161 hl rfl (iincN (q) 1 1 (by decide)) (by decide) rfl (fun ls hl => ?_)
                    have hl : lv_has ls 10 [(8, .int (nI (q + 1))), (4, .int (nI (b2))), (3, .int (nI (a2 + 1))), (9, .int (bI v)), (6, .int (nI w)), (5, .int (nI n)), (7, .int (nI a)), (1, .int (nI d)), (2, .int 2), (0, .ref h)] := hl
                    refine lv_goto hx hb d_M_parcel_164 (tgt := 80) rfl ?_
                    exact ih80 _ (by omega) (q + 1) (a2 + 1) b2 (by omega) (by simp [cnt, *, Nat.add_assoc]) (by simp [cnt, *, Nat.add_assoc]) rfl H _ ls hP hD hS (lv_sub hl [0, 2, 1, 4, 5, 6, 7, 8, 9] rfl)
                  · have g7 := bI_n0 g7
                    refine lv_iconst (v := 1) hx hb d_M_parcel_153 (by decide) ?_
                    refine lv_goto hx hb d_M_parcel_154 (tgt := 158) rfl ?_
                    refine lv_iadd hx hb d_M_parcel_158 (tpi (y := nI (b2 + 1)) (nI_add (b2) (1)) ?_)
                    refine lv_istore hx hb d_M_parcel_159 hl (by decide) rfl (fun ls hl => ?_)
                    have hl : lv_has ls 10 [(4, .int (nI (b2 + 1))), (3, .int (nI (a2 + 1))), (9, .int (bI v)), (8, .int (nI q)), (6, .int (nI w)), (5, .int (nI n)), (7, .int (nI a)), (1, .int (nI d)), (2, .int 2), (0, .ref h)] := hl
                    refine lv_iinc (k := 3) (v := nI (q + 1)) hx hb d_M_parcel_161 hl rfl (iincN (q) 1 1 (by decide)) (by decide) rfl (fun ls hl => ?_)
                    have hl : lv_has ls 10 [(8, .int (nI (q + 1))), (4, .int (nI (b2 + 1))), (3, .int (nI (a2 + 1))), (9, .int (bI v)), (6, .int (nI w)), (5, .int (nI n)), (7, .int (nI a)), (1, .int (nI d)), (2, .int 2), (0, .ref h)] := hl
                    refine lv_goto hx hb d_M_parcel_164 (tgt := 80) rfl ?_
                    exact ih80 _ (by omega) (q + 1) (a2 + 1) (b2 + 1) (by omega) (by simp [cnt, *, Nat.add_assoc]) (by simp [cnt, *, Nat.add_assoc]) rfl H _ ls hP hD hS (lv_sub hl [0, 2, 1, 4, 5, 6, 7, 8, 9] rfl)
              refine lv_aload_n hx hb d_M_parcel_89 rfl (lv_at hl 8 rfl) ?_
              refine gF (v := .ref (ad 17)) hx hb hown hE hK hP 0 rfl rfl layM 17 (by decide) w503 rfl d_M_parcel_90 ?_
              refine lv_iload hx hb d_M_parcel_93 (lv_at hl 0 rfl) ?_
              refine nild (f := (fun z9 => nI (x.pointSeries z9))) hx hb hK hP 6 1 rfl rfl (q) (by omega) (by decide) d_M_parcel_95 ?_
              refine lv_iload hx hb d_M_parcel_96 (lv_at hl 3 rfl) ?_
              have b1 := hs q (by omega)
              refine lv_icmp_ne hx hb d_M_parcel_98 (tgt := 121) rfl (fun g8 => ?_) (fun g8 => ?_)
              · have g8 := mt (nI_eq (a := x.pointSeries q) (b := w) (by omega) (by omega)).mpr g8
                refine lv_iconst (v := 0) hx hb d_M_parcel_121 (by decide) ?_
                exact J122 false (by simp [MS.inP, *]) H _ ls hP hD hS (lv_sub hl [0, 1, 2, 3, 4, 5, 6, 7, 8] rfl)
              · have g8 := (nI_eq (a := x.pointSeries q) (b := w) (by omega) (by omega)).mp g8
                refine lv_aload_n hx hb d_M_parcel_101 rfl (lv_at hl 8 rfl) ?_
                refine gF (v := .ref (ad 20)) hx hb hown hE hK hP 0 rfl rfl layM 20 (by decide) w506 rfl d_M_parcel_102 ?_
                refine lv_iload hx hb d_M_parcel_105 (lv_at hl 0 rfl) ?_
                refine nild (f := x.places) hx hb hK hP 9 1 rfl rfl (q) (by omega) (by decide) d_M_parcel_107 ?_
                refine lv_aload_n hx hb d_M_parcel_108 rfl (lv_at hl 8 rfl) ?_
                refine gF (v := .ref (ad 26)) hx hb hown hE hK hP 0 rfl rfl layM 26 (by decide) w509 rfl d_M_parcel_109 ?_
                refine lv_iload_n hx hb d_M_parcel_112 rfl (lv_at hl 6 rfl) ?_
                refine nild (f := (fun z9 => nI (x.parcels z9))) hx hb hK hP 12 1 rfl rfl (d) (by omega) (by decide) d_M_parcel_113 ?_
                refine lv_icmp_ne hx hb d_M_parcel_114 (tgt := 121) rfl (fun g9 => ?_) (fun g9 => ?_)
                · have g9 := g9
                  refine lv_iconst (v := 0) hx hb d_M_parcel_121 (by decide) ?_
                  exact J122 false (by simp [MS.inP, *]) H _ ls hP hD hS (lv_sub hl [0, 1, 2, 3, 4, 5, 6, 7, 8] rfl)
                · have g9 := g9
                  refine lv_iconst (v := 1) hx hb d_M_parcel_117 (by decide) ?_
                  refine lv_goto hx hb d_M_parcel_118 (tgt := 122) rfl ?_
                  exact J122 true (by simp [MS.inP, *]) H _ ls hP hD hS (lv_sub hl [0, 1, 2, 3, 4, 5, 6, 7, 8] rfl)
        exact L80 _ 0 a b (by omega) rfl rfl rfl H _ ls hP hD hS (lv_sub hl [0, 3, 4, 2, 5, 1, 6, 7, 8] rfl)
  exact L65 _ 0 0 0 0 (by omega) rfl rfl rfl (by omega) rfl H _ ls hP hD hS (lv_sub hl [0, 3, 2, 1, 5, 6, 4] rfl)
theorem d_M_parcel_217 : decode prog_14_method_49_code 217 = .ok (.iload_n 2, 1) := by decide +kernel
theorem d_M_parcel_218 : decode prog_14_method_49_code 218 = .ok (.iconst 3, 1) := by decide +kernel
theorem d_M_parcel_219 : decode prog_14_method_49_code 219 = .ok (.if_icmp .ne 24, 3) := by decide +kernel
theorem d_M_parcel_222 : decode prog_14_method_49_code 222 = .ok (.aload_n 0, 1) := by decide +kernel
theorem d_M_parcel_223 : decode prog_14_method_49_code 223 = .ok (.aload_n 0, 1) := by decide +kernel
theorem d_M_parcel_224 : decode prog_14_method_49_code 224 = .ok (.getfield 61, 3) := by decide +kernel
theorem d_M_parcel_227 : decode prog_14_method_49_code 227 = .ok (.iload_n 1, 1) := by decide +kernel
theorem d_M_parcel_228 : decode prog_14_method_49_code 228 = .ok (.iaload, 1) := by decide +kernel
theorem d_M_parcel_229 : decode prog_14_method_49_code 229 = .ok (.aload_n 0, 1) := by decide +kernel
theorem d_M_parcel_230 : decode prog_14_method_49_code 230 = .ok (.getfield 61, 3) := by decide +kernel
theorem d_M_parcel_233 : decode prog_14_method_49_code 233 = .ok (.iload_n 1, 1) := by decide +kernel
theorem d_M_parcel_234 : decode prog_14_method_49_code 234 = .ok (.iaload, 1) := by decide +kernel
theorem d_M_parcel_235 : decode prog_14_method_49_code 235 = .ok (.iconst 0, 1) := by decide +kernel
theorem d_M_parcel_236 : decode prog_14_method_49_code 236 = .ok (.invokevirtual 315, 3) := by decide +kernel
theorem d_M_parcel_239 : decode prog_14_method_49_code 239 = .ok (.l2i, 1) := by decide +kernel
theorem d_M_parcel_240 : decode prog_14_method_49_code 240 = .ok (.goto 9, 3) := by decide +kernel
theorem w914 : Cond.methodLink "SeriesVaultModel" 315 ⟨"SeriesVaultModel", "bitsOf", "(IIZ)J"⟩ ∈ aW := aw_of (tb_10 (List.mem_of_getElem? (i := 72) rfl)) rfl
theorem w915 : Cond.code ⟨"SeriesVaultModel", "bitsOf", "(IIZ)J"⟩ prog_14_method_39_code 23 (some FieldType.long) ∈ aW := aw_of (tb_10 (List.mem_of_getElem? (i := 75) rfl)) rfl
theorem w916 : Cond.instanceMethod ⟨"SeriesVaultModel", "bitsOf", "(IIZ)J"⟩ ∈ aW := aw_of (tb_10 (List.mem_of_getElem? (i := 74) rfl)) rfl
theorem w917 : Cond.selects "SeriesVaultModel" ⟨"SeriesVaultModel", "bitsOf", "(IIZ)J"⟩ ⟨"SeriesVaultModel", "bitsOf", "(IIZ)J"⟩ ∈ aW := aw_pr (List.mem_map.mpr ⟨_, pv_6 (List.mem_of_getElem? (i := 7) rfl), rfl⟩) rfl
set_option maxHeartbeats 4000000 in
set_option maxRecDepth 100000 in
theorem k_parcel0_3 (l : Launch) (D : va_G) (dA : Nat → ClassId) (sz : Nat) (h : Nat) (ad : Nat → Nat) (x : MS) (d : Nat) (ho : x.on = true) (hk : d < x.parcelCount) (f1 : x.parcelCount ≤ 40) (h1 : x.points ≤ 12000) (h2 : x.seriesCount ≤ 256) (hs : ∀ q : Nat, q < x.points → x.pointSeries q < 256) : Met l ⟨"SeriesVaultModel", "parcel", "(II)I"⟩ [Cond.code ⟨"SeriesVaultModel", "parcel", "(II)I"⟩ prog_14_method_49_code 10 (some FieldType.int)] { frames := 3, cells := 0, slots := 0, locals := 63 } (pC D dA [.ref h, .int (nI d), .int 3] (MW dA h ad x) sz) (va_Qi (fun (r9 : Int32) (u9 : Unit) => r9 = nI (x.bA (nI (x.parcels d)) (nI (x.parcels d)) false x.seriesCount)) (fun (u9 : Unit) t9 => bW D (va_A (MW dA h ad x) sz) (MW dA h ad (MS.s_cod x 0)) t9) (va_A (MW dA h ad x) sz)) 0 0 (va_A (MW dA h ad x) sz) := by
  refine mkC (y := ⟨"SeriesVaultModel", "parcel", "(II)I"⟩) (cc := prog_14_method_49_code) (maxL := 10) (av := [.ref h, .int (nI d), .int 3]) (ws := MW dA h ad x) (sz := sz) (Qc := fun A => va_Qi (fun (r9 : Int32) (u9 : Unit) => r9 = nI (x.bA (nI (x.parcels d)) (nI (x.parcels d)) false x.seriesCount)) (fun (u9 : Unit) t9 => bW D A (MW dA h ad (MS.s_cod x 0)) t9) A) (by decide) (Nat.le_of_ble_eq_true rfl) ?_
  intro A p e s m below meth c ls hsz hB
  obtain ⟨hx, hb, hr, hml, hown, hin, hlk, hE, hK, hP, hD, hS, hA, hN, hl⟩ := hB
  have hown : s.vm.findClass "SeriesVaultModel" = some m.cls := hown
  have hl : lv_has ls 10 [(0, .ref h), (1, .int (nI d)), (2, .int 3)] := hl
  obtain ⟨H, hH⟩ : ∃ z, z = s.heap := ⟨_, rfl⟩
  have hP : va_P D vwCl (MW dA h ad x) H := by rw [hH]; exact hP
  have hS : va_S A s.heap H [] := by rw [hH]; exact hS
  rw [← hH]
  refine lv_aload_n hx hb d_M_parcel_0 rfl (lv_at hl 0 rfl) ?_
  refine lv_aload_n hx hb d_M_parcel_1 rfl (lv_at hl 0 rfl) ?_
  refine gF (v := .int (bI x.on)) hx hb hown hE hK hP 0 rfl rfl layM 7 (by decide) w324 rfl d_M_parcel_2 ?_
  refine lv_if_ne hx hb d_M_parcel_5 (tgt := 12) rfl (fun _ => ?_) (fun h9 => absurd h9 (by rw [ho]; decide))
  refine lv_iload_n hx hb d_M_parcel_12 rfl (lv_at hl 1 rfl) ?_
  refine lv_if_lt hx hb d_M_parcel_13 (tgt := 24) rfl (fun h9 => absurd h9 (nI_pos (n := d) (by omega))) (fun _ => ?_)
  refine lv_iload_n hx hb d_M_parcel_16 rfl (lv_at hl 1 rfl) ?_
  refine lv_aload_n hx hb d_M_parcel_17 rfl (lv_at hl 0 rfl) ?_
  refine gF (v := .int (nI x.parcelCount)) hx hb hown hE hK hP 0 rfl rfl layM 28 (by decide) w344 rfl d_M_parcel_18 ?_
  refine lv_icmp_lt hx hb d_M_parcel_21 (tgt := 28) rfl (fun _ => ?_) (fun h9 => absurd ((nI_ltI (a := d) (b := x.parcelCount) (by omega) (by omega)).mpr hk) h9)
  refine lv_iload_n hx hb d_M_parcel_28 rfl (lv_at hl 2 rfl) ?_
  refine lv_if_lt hx hb d_M_parcel_29 (tgt := 37) rfl (fun h9 => absurd h9 (by decide)) (fun _ => ?_)
  refine lv_iload_n hx hb d_M_parcel_32 rfl (lv_at hl 2 rfl) ?_
  refine lv_iconst (v := 4) hx hb d_M_parcel_33 (by decide) ?_
  refine lv_icmp_le hx hb d_M_parcel_34 (tgt := 41) rfl (fun _ => ?_) (fun h9 => absurd (by decide) h9)
  refine lv_iconst (v := 0) hx hb d_M_parcel_41 (by decide) ?_
  refine pF (v := .int 0) hx hb hown hE hK hP hD hS 0 rfl rfl layM tyM tokM nmM 0 (by decide) w319 rfl rfl rfl (Nat.le_of_ble_eq_true rfl) d_M_parcel_42 (fun H locs hP hD hS => ?_)
  have hP : va_P D vwCl (MW dA h ad (MS.s_cod x 0)) H := hP
  have hD : va_D A (MW dA h ad (MS.s_cod x 0)) := hD
  refine lv_aload_n hx hb d_M_parcel_45 rfl (lv_at hl 0 rfl) ?_
  refine gF (v := .int 0) hx hb hown hE hK hP 0 rfl rfl layM 0 (by decide) w319 rfl d_M_parcel_46 ?_
  refine lv_if_le hx hb d_M_parcel_49 (tgt := 54) rfl (fun _ => ?_) (fun h9 => absurd (by decide) h9)
  refine lv_iconst (v := 0) hx hb d_M_parcel_54 (by decide) ?_
  refine lv_istore_n hx hb d_M_parcel_55 rfl hl (by decide) rfl (fun ls hl => ?_)
  have hl : lv_has ls 10 [(3, .int 0), (0, .ref h), (1, .int (nI d)), (2, .int 3)] := hl
  refine lv_iconst (v := 0) hx hb d_M_parcel_56 (by decide) ?_
  refine lv_istore hx hb d_M_parcel_57 hl (by decide) rfl (fun ls hl => ?_)
  have hl : lv_has ls 10 [(4, .int 0), (3, .int 0), (0, .ref h), (1, .int (nI d)), (2, .int 3)] := hl
  refine lv_iconst (v := 0) hx hb d_M_parcel_59 (by decide) ?_
  refine lv_istore hx hb d_M_parcel_60 hl (by decide) rfl (fun ls hl => ?_)
  have hl : lv_has ls 10 [(5, .int 0), (4, .int 0), (3, .int 0), (0, .ref h), (1, .int (nI d)), (2, .int 3)] := hl
  refine lv_iconst (v := 0) hx hb d_M_parcel_62 (by decide) ?_
  refine lv_istore hx hb d_M_parcel_63 hl (by decide) rfl (fun ls hl => ?_)
  have hl : lv_has ls 10 [(6, .int 0), (5, .int 0), (4, .int 0), (3, .int 0), (0, .ref h), (1, .int (nI d)), (2, .int 3)] := hl
  have L65 : ∀ (k9 : Nat) (w : Nat) (a : Nat) (b : Nat) (n : Nat) (i1 : w ≤ x.seriesCount) (i2 : a = sumN w (fun z => cnt x.points (x.inP (x.parcels d) z))) (i3 : b = sumN w (fun z => cnt x.points (fun y => x.inP (x.parcels d) z y && x.seen y))) (i4 : n = cnt w (fun z => decide (0 < cnt x.points (x.inP (x.parcels d) z)))) (i5 : a ≤ 12000 * w) (hk9 : x.seriesCount - w = k9), ∀ (H : Heap) (locs : List Loc) (ls : Array Slot) (hP : va_P D vwCl (MW dA h ad (MS.s_cod x 0)) H) (hD : va_D A (MW dA h ad (MS.s_cod x 0))) (hS : va_S A s.heap H locs) (hl : lv_has ls 10 [(6, .int (nI w)), (3, .int (nI a)), (4, .int (nI b)), (5, .int (nI n)), (1, .int (nI d)), (2, .int 3), (0, .ref h)]), W p l e ({ frames := 3, cells := 0, slots := 0, locals := 63 } : Room) s m ([.ref h, .int (nI d), .int 3] : List Value).toArray below meth c H locs 0 0 (MQ below (va_Qi (fun (r9 : Int32) (u9 : Unit) => r9 = nI (x.bA (nI (x.parcels d)) (nI (x.parcels d)) false x.seriesCount)) (fun (u9 : Unit) t9 => bW D A (MW dA h ad (MS.s_cod x 0)) t9) A) ([.ref h, .int (nI d), .int 3] : List Value).toArray s 0 0 A) (F0 m 65 ls []) := by
    intro k9
    induction k9 using Nat.strongRecOn with
    | ind k9 ih65 =>
      intro w a b n i1 i2 i3 i4 i5 hk9 H locs ls hP hD hS hl
      refine lv_iload hx hb d_M_parcel_65 (lv_at hl 0 rfl) ?_
      refine lv_aload_n hx hb d_M_parcel_67 rfl (lv_at hl 6 rfl) ?_
      refine gF (v := .int (nI x.seriesCount)) hx hb hown hE hK hP 0 rfl rfl layM 12 (by decide) w332 rfl d_M_parcel_68 ?_
      refine lv_icmp_ge hx hb d_M_parcel_71 (tgt := 189) rfl (fun g1 => ?_) (fun g1 => ?_)
      · have g1 := (nI_leI (a := x.seriesCount) (b := w) (by omega) (by omega)).mp g1
        refine lv_iload_n hx hb d_M_parcel_189 rfl (lv_at hl 5 rfl) ?_
        refine lv_if_ne hx hb d_M_parcel_190 (tgt := 197) rfl (fun _ => ?_) (fun h9 => absurd h9 (by decide))
        refine lv_iload_n hx hb d_M_parcel_197 rfl (lv_at hl 5 rfl) ?_
        refine lv_iconst (v := 1) hx hb d_M_parcel_198 (by decide) ?_
        refine lv_icmp_ne hx hb d_M_parcel_199 (tgt := 207) rfl (fun _ => ?_) (fun h9 => absurd h9 (by decide))
        refine lv_iload_n hx hb d_M_parcel_207 rfl (lv_at hl 5 rfl) ?_
        refine lv_iconst (v := 2) hx hb d_M_parcel_208 (by decide) ?_
        refine lv_icmp_ne hx hb d_M_parcel_209 (tgt := 217) rfl (fun _ => ?_) (fun h9 => absurd h9 (by decide))
        refine lv_iload_n hx hb d_M_parcel_217 rfl (lv_at hl 5 rfl) ?_
        refine lv_iconst (v := 3) hx hb d_M_parcel_218 (by decide) ?_
        refine lv_icmp_ne hx hb d_M_parcel_219 (tgt := 243) rfl (fun h9 => absurd (by decide) h9) (fun _ => ?_)
        refine lv_aload_n hx hb d_M_parcel_222 rfl (lv_at hl 6 rfl) ?_
        refine lv_aload_n hx hb d_M_parcel_223 rfl (lv_at hl 6 rfl) ?_
        refine gF (v := .ref (ad 26)) hx hb hown hE hK hP 0 rfl rfl layM 26 (by decide) w509 rfl d_M_parcel_224 ?_
        refine lv_iload_n hx hb d_M_parcel_227 rfl (lv_at hl 4 rfl) ?_
        refine nild (f := (fun z9 => nI (x.parcels z9))) hx hb hK hP 12 1 rfl rfl (d) (by omega) (by decide) d_M_parcel_228 ?_
        refine lv_aload_n hx hb d_M_parcel_229 rfl (lv_at hl 6 rfl) ?_
        refine gF (v := .ref (ad 26)) hx hb hown hE hK hP 0 rfl rfl layM 26 (by decide) w509 rfl d_M_parcel_230 ?_
        refine lv_iload_n hx hb d_M_parcel_233 rfl (lv_at hl 4 rfl) ?_
        refine nild (f := (fun z9 => nI (x.parcels z9))) hx hb hK hP 12 1 rfl rfl (d) (by omega) (by decide) d_M_parcel_234 ?_
        refine lv_iconst (v := 0) hx hb d_M_parcel_235 (by decide) ?_
        refine jfL (rnV (As := [.int (nI (x.parcels d)), .int (nI (x.parcels d)), .int 0]) (rest := []) hx hb hml hown hE hK (hN _ _ hS) hP hD (k_bitsOf l D dA H.size h ad (MS.s_cod x 0) (nI (x.parcels d)) (nI (x.parcels d)) false (show x.points ≤ 12000 from by omega) (show x.seriesCount ≤ 256 from by omega) hs) (q0 := 0) rfl rfl w915 w914 w916 w917 w328 rfl rfl ⟨⟨by decide, by decide⟩, rfl⟩ ⟨(Nat.le_of_ble_eq_true rfl), (Nat.le_of_ble_eq_true rfl)⟩ rfl hl.1 rfl (Nat.le_of_ble_eq_true rfl) d_M_parcel_236 ⟨(Nat.le_of_ble_eq_true rfl), (Nat.le_of_ble_eq_true rfl)⟩) hP hD hS hA (fun r2 u3 H locs hp9 hP hD hS => ?_)
        have hP : va_P D vwCl (MW dA h ad (MS.s_cod x 0)) H := hP
        have hD : va_D A (MW dA h ad (MS.s_cod x 0)) := hD
        replace hp9 : r2 = lN (x.bA (nI (x.parcels d)) (nI (x.parcels d)) false x.seriesCount) := hp9.trans (congrArg lN (bA_ext rfl rfl rfl rfl rfl rfl rfl))
        replace hp9 : lN (x.bA (nI (x.parcels d)) (nI (x.parcels d)) false x.seriesCount) = r2 := Eq.symm hp9
        subst hp9
        refine lv_l2i hx hb d_M_parcel_239 rfl ?_
        refine tpi (y := nI (x.bA (nI (x.parcels d)) (nI (x.parcels d)) false x.seriesCount)) (lN_i _) ?_
        refine lv_goto hx hb d_M_parcel_240 (tgt := 249) rfl ?_
        exact rfI hx hb hr hlk hS () (by first | rfl | rw [i2, show w = x.seriesCount by omega] | rw [i3, show w = x.seriesCount by omega] | rw [i4, show w = x.seriesCount by omega]) hP hD (Nat.le_of_ble_eq_true rfl) (Nat.le_of_ble_eq_true rfl) d_M_parcel_249
      · have g1 := mt (nI_leI (a := x.seriesCount) (b := w) (by omega) (by omega)).mpr g1
        refine lv_iload_n hx hb d_M_parcel_74 rfl (lv_at hl 1 rfl) ?_
        refine lv_istore hx hb d_M_parcel_75 hl (by decide) rfl (fun ls hl => ?_)
        have hl : lv_has ls 10 [(7, .int (nI a)), (6, .int (nI w)), (3, .int (nI a)), (4, .int (nI b)), (5, .int (nI n)), (1, .int (nI d)), (2, .int 3), (0, .ref h)] := hl
        refine lv_iconst (v := 0) hx hb d_M_parcel_77 (by decide) ?_
        refine lv_istore hx hb d_M_parcel_78 hl (by decide) rfl (fun ls hl => ?_)
        have hl : lv_has ls 10 [(8, .int 0), (7, .int (nI a)), (6, .int (nI w)), (3, .int (nI a)), (4, .int (nI b)), (5, .int (nI n)), (1, .int (nI d)), (2, .int 3), (0, .ref h)] := hl
        have L80 : ∀ (k9 : Nat) (q : Nat) (a2 : Nat) (b2 : Nat) (j1 : q ≤ x.points) (j2 : a2 = a + cnt q (x.inP (x.parcels d) w)) (j3 : b2 = b + cnt q (fun y => x.inP (x.parcels d) w y && x.seen y)) (hk9 : x.points - q = k9), ∀ (H : Heap) (locs : List Loc) (ls : Array Slot) (hP : va_P D vwCl (MW dA h ad (MS.s_cod x 0)) H) (hD : va_D A (MW dA h ad (MS.s_cod x 0))) (hS : va_S A s.heap H locs) (hl : lv_has ls 10 [(8, .int (nI q)), (3, .int (nI a2)), (4, .int (nI b2)), (6, .int (nI w)), (5, .int (nI n)), (7, .int (nI a)), (1, .int (nI d)), (2, .int 3), (0, .ref h)]), W p l e ({ frames := 3, cells := 0, slots := 0, locals := 63 } : Room) s m ([.ref h, .int (nI d), .int 3] : List Value).toArray below meth c H locs 0 0 (MQ below (va_Qi (fun (r9 : Int32) (u9 : Unit) => r9 = nI (x.bA (nI (x.parcels d)) (nI (x.parcels d)) false x.seriesCount)) (fun (u9 : Unit) t9 => bW D A (MW dA h ad (MS.s_cod x 0)) t9) A) ([.ref h, .int (nI d), .int 3] : List Value).toArray s 0 0 A) (F0 m 80 ls []) := by
          intro k9
          induction k9 using Nat.strongRecOn with
          | ind k9 ih80 =>
            intro q a2 b2 j1 j2 j3 hk9 H locs ls hP hD hS hl
            have hz := cnt_le q (x.inP (x.parcels d) w)
            refine lv_iload hx hb d_M_parcel_80 (lv_at hl 0 rfl) ?_
            refine lv_aload_n hx hb d_M_parcel_82 rfl (lv_at hl 8 rfl) ?_
            refine gF (v := .int (nI x.points)) hx hb hown hE hK hP 0 rfl rfl layM 23 (by decide) w420 rfl d_M_parcel_83 ?_
            refine lv_icmp_ge hx hb d_M_parcel_86 (tgt := 167) rfl (fun g4 => ?_) (fun g4 => ?_)
            · have g4 := (nI_leI (a := x.points) (b := q) (by omega) (by omega)).mp g4
              refine lv_iload hx hb d_M_parcel_167 (lv_at hl 4 rfl) ?_
              refine lv_iload_n hx hb d_M_parcel_169 rfl (lv_at hl 1 rfl) ?_
              refine lv_iload hx hb d_M_parcel_170 (lv_at hl 5 rfl) ?_
              refine lv_icmp_le hx hb d_M_parcel_172 (tgt := 179) rfl (fun g5 => ?_) (fun g5 => ?_)
              · have g5 := (nI_leI (a := a2) (b := a) (by omega) (by omega)).mp g5
                refine lv_iconst (v := 0) hx hb d_M_parcel_179 (by decide) ?_
                refine lv_iadd hx hb d_M_parcel_180 (tpi (y := nI (n)) (nI_add (n) (0)) ?_)
                refine lv_istore hx hb d_M_parcel_181 hl (by decide) rfl (fun ls hl => ?_)
                have hl : lv_has ls 10 [(5, .int (nI (n))), (8, .int (nI q)), (3, .int (nI a2)), (4, .int (nI b2)), (6, .int (nI w)), (7, .int (nI a)), (1, .int (nI d)), (2, .int 3), (0, .ref h)] := hl
                refine lv_iinc (k := 4) (v := nI (w + 1)) hx hb d_M_parcel_183 hl rfl (iincN (w) 1 1 (by decide)) (by decide) rfl (fun ls hl => ?_)
                have hl : lv_has ls 10 [(6, .int (nI (w + 1))), (5, .int (nI (n))), (8, .int (nI q)), (3, .int (nI a2)), (4, .int (nI b2)), (7, .int (nI a)), (1, .int (nI d)), (2, .int 3), (0, .ref h)] := hl
                refine lv_goto hx hb d_M_parcel_186 (tgt := 65) rfl ?_
                exact ih65 _ (by omega) (w + 1) a2 b2 n (by omega) (by show _ = sumN w _ + cnt x.points (x.inP (x.parcels d) w); rw [← i2, ← show q = x.points by omega, j2]) (by show _ = sumN w _ + cnt x.points (fun y => x.inP (x.parcels d) w y && x.seen y); rw [← i3, ← show q = x.points by omega, j3]) (chk0 (F := (fun z => cnt x.points (x.inP (x.parcels d) z))) i4 (show a2 = a + cnt x.points (x.inP (x.parcels d) w) from by rw [← show q = x.points by omega]; exact j2) g5) (by have hz := cnt_le q (x.inP (x.parcels d) w); omega) rfl H _ ls hP hD hS (lv_sub hl [0, 3, 4, 1, 6, 7, 8] rfl)
              · have g5 := mt (nI_leI (a := a2) (b := a) (by omega) (by omega)).mpr g5
                refine lv_iconst (v := 1) hx hb d_M_parcel_175 (by decide) ?_
                refine lv_goto hx hb d_M_parcel_176 (tgt := 180) rfl ?_
                refine lv_iadd hx hb d_M_parcel_180 (tpi (y := nI (n + 1)) (nI_add (n) (1)) ?_)
                refine lv_istore hx hb d_M_parcel_181 hl (by decide) rfl (fun ls hl => ?_)
                have hl : lv_has ls 10 [(5, .int (nI (n + 1))), (8, .int (nI q)), (3, .int (nI a2)), (4, .int (nI b2)), (6, .int (nI w)), (7, .int (nI a)), (1, .int (nI d)), (2, .int 3), (0, .ref h)] := hl
                refine lv_iinc (k := 4) (v := nI (w + 1)) hx hb d_M_parcel_183 hl rfl (iincN (w) 1 1 (by decide)) (by decide) rfl (fun ls hl => ?_)
                have hl : lv_has ls 10 [(6, .int (nI (w + 1))), (5, .int (nI (n + 1))), (8, .int (nI q)), (3, .int (nI a2)), (4, .int (nI b2)), (7, .int (nI a)), (1, .int (nI d)), (2, .int 3), (0, .ref h)] := hl
                refine lv_goto hx hb d_M_parcel_186 (tgt := 65) rfl ?_
                exact ih65 _ (by omega) (w + 1) a2 b2 (n + 1) (by omega) (by show _ = sumN w _ + cnt x.points (x.inP (x.parcels d) w); rw [← i2, ← show q = x.points by omega, j2]) (by show _ = sumN w _ + cnt x.points (fun y => x.inP (x.parcels d) w y && x.seen y); rw [← i3, ← show q = x.points by omega, j3]) (chk (F := (fun z => cnt x.points (x.inP (x.parcels d) z))) i4 (show a2 = a + cnt x.points (x.inP (x.parcels d) w) from by rw [← show q = x.points by omega]; exact j2) g5) (by have hz := cnt_le q (x.inP (x.parcels d) w); omega) rfl H _ ls hP hD hS (lv_sub hl [0, 3, 4, 1, 6, 7, 8] rfl)
            · have g4 := mt (nI_leI (a := x.points) (b := q) (by omega) (by omega)).mpr g4
              have J122 : ∀ (v : Bool) (j9 : x.inP (x.parcels d) w q = v), ∀ (H : Heap) (locs : List Loc) (ls : Array Slot) (hP : va_P D vwCl (MW dA h ad (MS.s_cod x 0)) H) (hD : va_D A (MW dA h ad (MS.s_cod x 0))) (hS : va_S A s.heap H locs) (hl : lv_has ls 10 [(8, .int (nI q)), (3, .int (nI a2)), (4, .int (nI b2)), (6, .int (nI w)), (5, .int (nI n)), (7, .int (nI a)), (1, .int (nI d)), (2, .int 3), (0, .ref h)]), W p l e ({ frames := 3, cells := 0, slots := 0, locals := 63 } : Room) s m ([.ref h, .int (nI d), .int 3] : List Value).toArray below meth c H locs 0 0 (MQ below (va_Qi (fun (r9 : Int32) (u9 : Unit) => r9 = nI (x.bA (nI (x.parcels d)) (nI (x.parcels d)) false x.seriesCount)) (fun (u9 : Unit) t9 => bW D A (MW dA h ad (MS.s_cod x 0)) t9) A) ([.ref h, .int (nI d), .int 3] : List Value).toArray s 0 0 A) (F0 m 122 ls [.int (bI v)]) := by
                intro v j9 H locs ls hP hD hS hl
                refine lv_istore hx hb d_M_parcel_122 hl (by decide) rfl (fun ls hl => ?_)
                have hl : lv_has ls 10 [(9, .int (bI v)), (8, .int (nI q)), (3, .int (nI a2)), (4, .int (nI b2)), (6, .int (nI w)), (5, .int (nI n)), (7, .int (nI a)), (1, .int (nI d)), (2, .int 3), (0, .ref h)] := hl
                refine lv_iload_n hx hb d_M_parcel_124 rfl (lv_at hl 2 rfl) ?_
                refine lv_iload hx hb d_M_parcel_125 (lv_at hl 0 rfl) ?_
                refine lv_if_eq hx hb d_M_parcel_127 (tgt := 134) rfl (fun g6 => ?_) (fun g6 => ?_)
                · have g6 := bI_0 g6
                  refine lv_iconst (v := 0) hx hb d_M_parcel_134 (by decide) ?_
                  refine lv_iadd hx hb d_M_parcel_135 (tpi (y := nI (a2)) (nI_add (a2) (0)) ?_)
                  refine lv_istore_n hx hb d_M_parcel_136 rfl hl (by decide) rfl (fun ls hl => ?_)
                  have hl : lv_has ls 10 [(3, .int (nI (a2))), (9, .int (bI v)), (8, .int (nI q)), (4, .int (nI b2)), (6, .int (nI w)), (5, .int (nI n)), (7, .int (nI a)), (1, .int (nI d)), (2, .int 3), (0, .ref h)] := hl
                  refine lv_iload hx hb d_M_parcel_137 (lv_at hl 3 rfl) ?_
                  refine lv_iload hx hb d_M_parcel_139 (lv_at hl 1 rfl) ?_
                  refine lv_if_eq hx hb d_M_parcel_141 (tgt := 157) rfl (fun _ => ?_) (fun h9 => absurd (by rw [g6]; decide) h9)
                  refine lv_iconst (v := 0) hx hb d_M_parcel_157 (by decide) ?_
                  refine lv_iadd hx hb d_M_parcel_158 (tpi (y := nI (b2)) (nI_add (b2) (0)) ?_)
                  refine lv_istore hx hb d_M_parcel_159 hl (by decide) rfl (fun ls hl => ?_)
                  have hl : lv_has ls 10 [(4, .int (nI (b2))), (3, .int (nI (a2))), (9, .int (bI v)), (8, .int (nI q)), (6, .int (nI w)), (5, .int (nI n)), (7, .int (nI a)), (1, .int (nI d)), (2, .int 3), (0, .ref h)] := hl
                  refine lv_iinc (k := 3) (v := nI (q + 1)) hx hb d_M_parcel_161 hl rfl (iincN (q) 1 1 (by decide)) (by decide) rfl (fun ls hl => ?_)
                  have hl : lv_has ls 10 [(8, .int (nI (q + 1))), (4, .int (nI (b2))), (3, .int (nI (a2))), (9, .int (bI v)), (6, .int (nI w)), (5, .int (nI n)), (7, .int (nI a)), (1, .int (nI d)), (2, .int 3), (0, .ref h)] := hl
                  refine lv_goto hx hb d_M_parcel_164 (tgt := 80) rfl ?_
                  exact ih80 _ (by omega) (q + 1) a2 b2 (by omega) (by simp [cnt, *, Nat.add_assoc]) (by simp [cnt, *, Nat.add_assoc]) rfl H _ ls hP hD hS (lv_sub hl [0, 2, 1, 4, 5, 6, 7, 8, 9] rfl)
                · have g6 := bI_n0 g6
                  refine lv_iconst (v := 1) hx hb d_M_parcel_130 (by decide) ?_
                  refine lv_goto hx hb d_M_parcel_131 (tgt := 135) rfl ?_
                  refine lv_iadd hx hb d_M_parcel_135 (tpi (y := nI (a2 + 1)) (nI_add (a2) (1)) ?_)
                  refine lv_istore_n hx hb d_M_parcel_136 rfl hl (by decide) rfl (fun ls hl => ?_)
                  have hl : lv_has ls 10 [(3, .int (nI (a2 + 1))), (9, .int (bI v)), (8, .int (nI q)), (4, .int (nI b2)), (6, .int (nI w)), (5, .int (nI n)), (7, .int (nI a)), (1, .int (nI d)), (2, .int 3), (0, .ref h)] := hl
                  refine lv_iload hx hb d_M_parcel_137 (lv_at hl 3 rfl) ?_
                  refine lv_iload hx hb d_M_parcel_139 (lv_at hl 1 rfl) ?_
                  refine lv_if_eq hx hb d_M_parcel_141 (tgt := 157) rfl (fun h9 => absurd h9 (by rw [g6]; decide)) (fun _ => ?_)
                  refine lv_aload_n hx hb d_M_parcel_144 rfl (lv_at hl 9 rfl) ?_
                  refine lv_iload hx hb d_M_parcel_145 (lv_at hl 2 rfl) ?_
                  refine jfI (rnV (As := [.int (nI q)]) (rest := [.int (nI b2)]) hx hb hml hown hE hK (hN _ _ hS) hP hD (k_isSeen l D dA H.size h ad (MS.s_cod x 0) q (show q < 12000 from by omega)) (q0 := 0) rfl rfl w861 w860 w862 w863 w328 rfl rfl ⟨⟨by decide, by decide⟩, rfl⟩ ⟨(Nat.le_of_ble_eq_true rfl), (Nat.le_of_ble_eq_true rfl)⟩ rfl hl.1 rfl (Nat.le_of_ble_eq_true rfl) d_M_parcel_147 ⟨(Nat.le_of_ble_eq_true rfl), (Nat.le_of_ble_eq_true rfl)⟩) hP hD hS hA (fun r7 u8 H locs hp9 hP hD hS => ?_)
                  have hP : va_P D vwCl (MW dA h ad (MS.s_cod x 0)) H := hP
                  have hD : va_D A (MW dA h ad (MS.s_cod x 0)) := hD
                  replace hp9 : bI (x.seen q) = r7 := Eq.symm hp9
                  subst hp9
                  refine lv_if_eq hx hb d_M_parcel_150 (tgt := 157) rfl (fun g9 => ?_) (fun g9 => ?_)
                  · have g9 := bI_0 g9
                    refine lv_iconst (v := 0) hx hb d_M_parcel_157 (by decide) ?_
                    refine lv_iadd hx hb d_M_parcel_158 (tpi (y := nI (b2)) (nI_add (b2) (0)) ?_)
                    refine lv_istore hx hb d_M_parcel_159 hl (by decide) rfl (fun ls hl => ?_)
                    have hl : lv_has ls 10 [(4, .int (nI (b2))), (3, .int (nI (a2 + 1))), (9, .int (bI v)), (8, .int (nI q)), (6, .int (nI w)), (5, .int (nI n)), (7, .int (nI a)), (1, .int (nI d)), (2, .int 3), (0, .ref h)] := hl
                    refine lv_iinc (k := 3) (v := nI (q + 1)) hx hb d_M_parcel_161 hl rfl (iincN (q) 1 1 (by decide)) (by decide) rfl (fun ls hl => ?_)
                    have hl : lv_has ls 10 [(8, .int (nI (q + 1))), (4, .int (nI (b2))), (3, .int (nI (a2 + 1))), (9, .int (bI v)), (6, .int (nI w)), (5, .int (nI n)), (7, .int (nI a)), (1, .int (nI d)), (2, .int 3), (0, .ref h)] := hl
                    refine lv_goto hx hb d_M_parcel_164 (tgt := 80) rfl ?_
                    exact ih80 _ (by omega) (q + 1) (a2 + 1) b2 (by omega) (by simp [cnt, *, Nat.add_assoc]) (by simp [cnt, *, Nat.add_assoc]) rfl H _ ls hP hD hS (lv_sub hl [0, 2, 1, 4, 5, 6, 7, 8, 9] rfl)
                  · have g9 := bI_n0 g9
                    refine lv_iconst (v := 1) hx hb d_M_parcel_153 (by decide) ?_
                    refine lv_goto hx hb d_M_parcel_154 (tgt := 158) rfl ?_
                    refine lv_iadd hx hb d_M_parcel_158 (tpi (y := nI (b2 + 1)) (nI_add (b2) (1)) ?_)
                    refine lv_istore hx hb d_M_parcel_159 hl (by decide) rfl (fun ls hl => ?_)
                    have hl : lv_has ls 10 [(4, .int (nI (b2 + 1))), (3, .int (nI (a2 + 1))), (9, .int (bI v)), (8, .int (nI q)), (6, .int (nI w)), (5, .int (nI n)), (7, .int (nI a)), (1, .int (nI d)), (2, .int 3), (0, .ref h)] := hl
                    refine lv_iinc (k := 3) (v := nI (q + 1)) hx hb d_M_parcel_161 hl rfl (iincN (q) 1 1 (by decide)) (by decide) rfl (fun ls hl => ?_)
                    have hl : lv_has ls 10 [(8, .int (nI (q + 1))), (4, .int (nI (b2 + 1))), (3, .int (nI (a2 + 1))), (9, .int (bI v)), (6, .int (nI w)), (5, .int (nI n)), (7, .int (nI a)), (1, .int (nI d)), (2, .int 3), (0, .ref h)] := hl
                    refine lv_goto hx hb d_M_parcel_164 (tgt := 80) rfl ?_
                    exact ih80 _ (by omega) (q + 1) (a2 + 1) (b2 + 1) (by omega) (by simp [cnt, *, Nat.add_assoc]) (by simp [cnt, *, Nat.add_assoc]) rfl H _ ls hP hD hS (lv_sub hl [0, 2, 1, 4, 5, 6, 7, 8, 9] rfl)
              refine lv_aload_n hx hb d_M_parcel_89 rfl (lv_at hl 8 rfl) ?_
              refine gF (v := .ref (ad 17)) hx hb hown hE hK hP 0 rfl rfl layM 17 (by decide) w503 rfl d_M_parcel_90 ?_
              refine lv_iload hx hb d_M_parcel_93 (lv_at hl 0 rfl) ?_
              refine nild (f := (fun z9 => nI (x.pointSeries z9))) hx hb hK hP 6 1 rfl rfl (q) (by omega) (by decide) d_M_parcel_95 ?_
              refine lv_iload hx hb d_M_parcel_96 (lv_at hl 3 rfl) ?_
              have b1 := hs q (by omega)
              refine lv_icmp_ne hx hb d_M_parcel_98 (tgt := 121) rfl (fun g10 => ?_) (fun g10 => ?_)
              · have g10 := mt (nI_eq (a := x.pointSeries q) (b := w) (by omega) (by omega)).mpr g10
                refine lv_iconst (v := 0) hx hb d_M_parcel_121 (by decide) ?_
                exact J122 false (by simp [MS.inP, *]) H _ ls hP hD hS (lv_sub hl [0, 1, 2, 3, 4, 5, 6, 7, 8] rfl)
              · have g10 := (nI_eq (a := x.pointSeries q) (b := w) (by omega) (by omega)).mp g10
                refine lv_aload_n hx hb d_M_parcel_101 rfl (lv_at hl 8 rfl) ?_
                refine gF (v := .ref (ad 20)) hx hb hown hE hK hP 0 rfl rfl layM 20 (by decide) w506 rfl d_M_parcel_102 ?_
                refine lv_iload hx hb d_M_parcel_105 (lv_at hl 0 rfl) ?_
                refine nild (f := x.places) hx hb hK hP 9 1 rfl rfl (q) (by omega) (by decide) d_M_parcel_107 ?_
                refine lv_aload_n hx hb d_M_parcel_108 rfl (lv_at hl 8 rfl) ?_
                refine gF (v := .ref (ad 26)) hx hb hown hE hK hP 0 rfl rfl layM 26 (by decide) w509 rfl d_M_parcel_109 ?_
                refine lv_iload_n hx hb d_M_parcel_112 rfl (lv_at hl 6 rfl) ?_
                refine nild (f := (fun z9 => nI (x.parcels z9))) hx hb hK hP 12 1 rfl rfl (d) (by omega) (by decide) d_M_parcel_113 ?_
                refine lv_icmp_ne hx hb d_M_parcel_114 (tgt := 121) rfl (fun g11 => ?_) (fun g11 => ?_)
                · have g11 := g11
                  refine lv_iconst (v := 0) hx hb d_M_parcel_121 (by decide) ?_
                  exact J122 false (by simp [MS.inP, *]) H _ ls hP hD hS (lv_sub hl [0, 1, 2, 3, 4, 5, 6, 7, 8] rfl)
                · have g11 := g11
                  refine lv_iconst (v := 1) hx hb d_M_parcel_117 (by decide) ?_
                  refine lv_goto hx hb d_M_parcel_118 (tgt := 122) rfl ?_
                  exact J122 true (by simp [MS.inP, *]) H _ ls hP hD hS (lv_sub hl [0, 1, 2, 3, 4, 5, 6, 7, 8] rfl)
        exact L80 _ 0 a b (by omega) rfl rfl rfl H _ ls hP hD hS (lv_sub hl [0, 3, 4, 2, 5, 1, 6, 7, 8] rfl)
  exact L65 _ 0 0 0 0 (by omega) rfl rfl rfl (by omega) rfl H _ ls hP hD hS (lv_sub hl [0, 3, 2, 1, 5, 6, 4] rfl)
theorem d_M_parcel_243 : decode prog_14_method_49_code 243 = .ok (.aload_n 0, 1) := by decide +kernel
theorem d_M_parcel_244 : decode prog_14_method_49_code 244 = .ok (.getfield 64, 3) := by decide +kernel
theorem d_M_parcel_247 : decode prog_14_method_49_code 247 = .ok (.iload_n 1, 1) := by decide +kernel
theorem d_M_parcel_248 : decode prog_14_method_49_code 248 = .ok (.iaload, 1) := by decide +kernel
set_option maxHeartbeats 4000000 in
set_option maxRecDepth 100000 in
theorem k_parcel0_4 (l : Launch) (D : va_G) (dA : Nat → ClassId) (sz : Nat) (h : Nat) (ad : Nat → Nat) (x : MS) (d : Nat) (ho : x.on = true) (hk : d < x.parcelCount) (f1 : x.parcelCount ≤ 40) (h1 : x.points ≤ 12000) (h2 : x.seriesCount ≤ 256) (hs : ∀ q : Nat, q < x.points → x.pointSeries q < 256) : Met l ⟨"SeriesVaultModel", "parcel", "(II)I"⟩ [Cond.code ⟨"SeriesVaultModel", "parcel", "(II)I"⟩ prog_14_method_49_code 10 (some FieldType.int)] { frames := 2, cells := 0, slots := 0, locals := 21 } (pC D dA [.ref h, .int (nI d), .int 4] (MW dA h ad x) sz) (va_Qi (fun (r9 : Int32) (u9 : Unit) => r9 = nI (x.parcelBlocks d)) (fun (u9 : Unit) t9 => bW D (va_A (MW dA h ad x) sz) (MW dA h ad (MS.s_cod x 0)) t9) (va_A (MW dA h ad x) sz)) 0 0 (va_A (MW dA h ad x) sz) := by
  refine mkC (y := ⟨"SeriesVaultModel", "parcel", "(II)I"⟩) (cc := prog_14_method_49_code) (maxL := 10) (av := [.ref h, .int (nI d), .int 4]) (ws := MW dA h ad x) (sz := sz) (Qc := fun A => va_Qi (fun (r9 : Int32) (u9 : Unit) => r9 = nI (x.parcelBlocks d)) (fun (u9 : Unit) t9 => bW D A (MW dA h ad (MS.s_cod x 0)) t9) A) (by decide) (Nat.le_of_ble_eq_true rfl) ?_
  intro A p e s m below meth c ls hsz hB
  obtain ⟨hx, hb, hr, hml, hown, hin, hlk, hE, hK, hP, hD, hS, hA, hN, hl⟩ := hB
  have hown : s.vm.findClass "SeriesVaultModel" = some m.cls := hown
  have hl : lv_has ls 10 [(0, .ref h), (1, .int (nI d)), (2, .int 4)] := hl
  obtain ⟨H, hH⟩ : ∃ z, z = s.heap := ⟨_, rfl⟩
  have hP : va_P D vwCl (MW dA h ad x) H := by rw [hH]; exact hP
  have hS : va_S A s.heap H [] := by rw [hH]; exact hS
  rw [← hH]
  refine lv_aload_n hx hb d_M_parcel_0 rfl (lv_at hl 0 rfl) ?_
  refine lv_aload_n hx hb d_M_parcel_1 rfl (lv_at hl 0 rfl) ?_
  refine gF (v := .int (bI x.on)) hx hb hown hE hK hP 0 rfl rfl layM 7 (by decide) w324 rfl d_M_parcel_2 ?_
  refine lv_if_ne hx hb d_M_parcel_5 (tgt := 12) rfl (fun _ => ?_) (fun h9 => absurd h9 (by rw [ho]; decide))
  refine lv_iload_n hx hb d_M_parcel_12 rfl (lv_at hl 1 rfl) ?_
  refine lv_if_lt hx hb d_M_parcel_13 (tgt := 24) rfl (fun h9 => absurd h9 (nI_pos (n := d) (by omega))) (fun _ => ?_)
  refine lv_iload_n hx hb d_M_parcel_16 rfl (lv_at hl 1 rfl) ?_
  refine lv_aload_n hx hb d_M_parcel_17 rfl (lv_at hl 0 rfl) ?_
  refine gF (v := .int (nI x.parcelCount)) hx hb hown hE hK hP 0 rfl rfl layM 28 (by decide) w344 rfl d_M_parcel_18 ?_
  refine lv_icmp_lt hx hb d_M_parcel_21 (tgt := 28) rfl (fun _ => ?_) (fun h9 => absurd ((nI_ltI (a := d) (b := x.parcelCount) (by omega) (by omega)).mpr hk) h9)
  refine lv_iload_n hx hb d_M_parcel_28 rfl (lv_at hl 2 rfl) ?_
  refine lv_if_lt hx hb d_M_parcel_29 (tgt := 37) rfl (fun h9 => absurd h9 (by decide)) (fun _ => ?_)
  refine lv_iload_n hx hb d_M_parcel_32 rfl (lv_at hl 2 rfl) ?_
  refine lv_iconst (v := 4) hx hb d_M_parcel_33 (by decide) ?_
  refine lv_icmp_le hx hb d_M_parcel_34 (tgt := 41) rfl (fun _ => ?_) (fun h9 => absurd (by decide) h9)
  refine lv_iconst (v := 0) hx hb d_M_parcel_41 (by decide) ?_
  refine pF (v := .int 0) hx hb hown hE hK hP hD hS 0 rfl rfl layM tyM tokM nmM 0 (by decide) w319 rfl rfl rfl (Nat.le_of_ble_eq_true rfl) d_M_parcel_42 (fun H locs hP hD hS => ?_)
  have hP : va_P D vwCl (MW dA h ad (MS.s_cod x 0)) H := hP
  have hD : va_D A (MW dA h ad (MS.s_cod x 0)) := hD
  refine lv_aload_n hx hb d_M_parcel_45 rfl (lv_at hl 0 rfl) ?_
  refine gF (v := .int 0) hx hb hown hE hK hP 0 rfl rfl layM 0 (by decide) w319 rfl d_M_parcel_46 ?_
  refine lv_if_le hx hb d_M_parcel_49 (tgt := 54) rfl (fun _ => ?_) (fun h9 => absurd (by decide) h9)
  refine lv_iconst (v := 0) hx hb d_M_parcel_54 (by decide) ?_
  refine lv_istore_n hx hb d_M_parcel_55 rfl hl (by decide) rfl (fun ls hl => ?_)
  have hl : lv_has ls 10 [(3, .int 0), (0, .ref h), (1, .int (nI d)), (2, .int 4)] := hl
  refine lv_iconst (v := 0) hx hb d_M_parcel_56 (by decide) ?_
  refine lv_istore hx hb d_M_parcel_57 hl (by decide) rfl (fun ls hl => ?_)
  have hl : lv_has ls 10 [(4, .int 0), (3, .int 0), (0, .ref h), (1, .int (nI d)), (2, .int 4)] := hl
  refine lv_iconst (v := 0) hx hb d_M_parcel_59 (by decide) ?_
  refine lv_istore hx hb d_M_parcel_60 hl (by decide) rfl (fun ls hl => ?_)
  have hl : lv_has ls 10 [(5, .int 0), (4, .int 0), (3, .int 0), (0, .ref h), (1, .int (nI d)), (2, .int 4)] := hl
  refine lv_iconst (v := 0) hx hb d_M_parcel_62 (by decide) ?_
  refine lv_istore hx hb d_M_parcel_63 hl (by decide) rfl (fun ls hl => ?_)
  have hl : lv_has ls 10 [(6, .int 0), (5, .int 0), (4, .int 0), (3, .int 0), (0, .ref h), (1, .int (nI d)), (2, .int 4)] := hl
  have L65 : ∀ (k9 : Nat) (w : Nat) (a : Nat) (b : Nat) (n : Nat) (i1 : w ≤ x.seriesCount) (i2 : a = sumN w (fun z => cnt x.points (x.inP (x.parcels d) z))) (i3 : b = sumN w (fun z => cnt x.points (fun y => x.inP (x.parcels d) z y && x.seen y))) (i4 : n = cnt w (fun z => decide (0 < cnt x.points (x.inP (x.parcels d) z)))) (i5 : a ≤ 12000 * w) (hk9 : x.seriesCount - w = k9), ∀ (H : Heap) (locs : List Loc) (ls : Array Slot) (hP : va_P D vwCl (MW dA h ad (MS.s_cod x 0)) H) (hD : va_D A (MW dA h ad (MS.s_cod x 0))) (hS : va_S A s.heap H locs) (hl : lv_has ls 10 [(6, .int (nI w)), (3, .int (nI a)), (4, .int (nI b)), (5, .int (nI n)), (1, .int (nI d)), (2, .int 4), (0, .ref h)]), W p l e ({ frames := 2, cells := 0, slots := 0, locals := 21 } : Room) s m ([.ref h, .int (nI d), .int 4] : List Value).toArray below meth c H locs 0 0 (MQ below (va_Qi (fun (r9 : Int32) (u9 : Unit) => r9 = nI (x.parcelBlocks d)) (fun (u9 : Unit) t9 => bW D A (MW dA h ad (MS.s_cod x 0)) t9) A) ([.ref h, .int (nI d), .int 4] : List Value).toArray s 0 0 A) (F0 m 65 ls []) := by
    intro k9
    induction k9 using Nat.strongRecOn with
    | ind k9 ih65 =>
      intro w a b n i1 i2 i3 i4 i5 hk9 H locs ls hP hD hS hl
      refine lv_iload hx hb d_M_parcel_65 (lv_at hl 0 rfl) ?_
      refine lv_aload_n hx hb d_M_parcel_67 rfl (lv_at hl 6 rfl) ?_
      refine gF (v := .int (nI x.seriesCount)) hx hb hown hE hK hP 0 rfl rfl layM 12 (by decide) w332 rfl d_M_parcel_68 ?_
      refine lv_icmp_ge hx hb d_M_parcel_71 (tgt := 189) rfl (fun g1 => ?_) (fun g1 => ?_)
      · have g1 := (nI_leI (a := x.seriesCount) (b := w) (by omega) (by omega)).mp g1
        refine lv_iload_n hx hb d_M_parcel_189 rfl (lv_at hl 5 rfl) ?_
        refine lv_if_ne hx hb d_M_parcel_190 (tgt := 197) rfl (fun _ => ?_) (fun h9 => absurd h9 (by decide))
        refine lv_iload_n hx hb d_M_parcel_197 rfl (lv_at hl 5 rfl) ?_
        refine lv_iconst (v := 1) hx hb d_M_parcel_198 (by decide) ?_
        refine lv_icmp_ne hx hb d_M_parcel_199 (tgt := 207) rfl (fun _ => ?_) (fun h9 => absurd h9 (by decide))
        refine lv_iload_n hx hb d_M_parcel_207 rfl (lv_at hl 5 rfl) ?_
        refine lv_iconst (v := 2) hx hb d_M_parcel_208 (by decide) ?_
        refine lv_icmp_ne hx hb d_M_parcel_209 (tgt := 217) rfl (fun _ => ?_) (fun h9 => absurd h9 (by decide))
        refine lv_iload_n hx hb d_M_parcel_217 rfl (lv_at hl 5 rfl) ?_
        refine lv_iconst (v := 3) hx hb d_M_parcel_218 (by decide) ?_
        refine lv_icmp_ne hx hb d_M_parcel_219 (tgt := 243) rfl (fun _ => ?_) (fun h9 => absurd h9 (by decide))
        refine lv_aload_n hx hb d_M_parcel_243 rfl (lv_at hl 6 rfl) ?_
        refine gF (v := .ref (ad 27)) hx hb hown hE hK hP 0 rfl rfl layM 27 (by decide) w510 rfl d_M_parcel_244 ?_
        refine lv_iload_n hx hb d_M_parcel_247 rfl (lv_at hl 4 rfl) ?_
        refine nild (f := (fun z9 => nI (x.parcelBlocks z9))) hx hb hK hP 13 1 rfl rfl (d) (by omega) (by decide) d_M_parcel_248 ?_
        exact rfI hx hb hr hlk hS () (by first | rfl | rw [i2, show w = x.seriesCount by omega] | rw [i3, show w = x.seriesCount by omega] | rw [i4, show w = x.seriesCount by omega]) hP hD (Nat.le_of_ble_eq_true rfl) (Nat.le_of_ble_eq_true rfl) d_M_parcel_249
      · have g1 := mt (nI_leI (a := x.seriesCount) (b := w) (by omega) (by omega)).mpr g1
        refine lv_iload_n hx hb d_M_parcel_74 rfl (lv_at hl 1 rfl) ?_
        refine lv_istore hx hb d_M_parcel_75 hl (by decide) rfl (fun ls hl => ?_)
        have hl : lv_has ls 10 [(7, .int (nI a)), (6, .int (nI w)), (3, .int (nI a)), (4, .int (nI b)), (5, .int (nI n)), (1, .int (nI d)), (2, .int 4), (0, .ref h)] := hl
        refine lv_iconst (v := 0) hx hb d_M_parcel_77 (by decide) ?_
        refine lv_istore hx hb d_M_parcel_78 hl (by decide) rfl (fun ls hl => ?_)
        have hl : lv_has ls 10 [(8, .int 0), (7, .int (nI a)), (6, .int (nI w)), (3, .int (nI a)), (4, .int (nI b)), (5, .int (nI n)), (1, .int (nI d)), (2, .int 4), (0, .ref h)] := hl
        have L80 : ∀ (k9 : Nat) (q : Nat) (a2 : Nat) (b2 : Nat) (j1 : q ≤ x.points) (j2 : a2 = a + cnt q (x.inP (x.parcels d) w)) (j3 : b2 = b + cnt q (fun y => x.inP (x.parcels d) w y && x.seen y)) (hk9 : x.points - q = k9), ∀ (H : Heap) (locs : List Loc) (ls : Array Slot) (hP : va_P D vwCl (MW dA h ad (MS.s_cod x 0)) H) (hD : va_D A (MW dA h ad (MS.s_cod x 0))) (hS : va_S A s.heap H locs) (hl : lv_has ls 10 [(8, .int (nI q)), (3, .int (nI a2)), (4, .int (nI b2)), (6, .int (nI w)), (5, .int (nI n)), (7, .int (nI a)), (1, .int (nI d)), (2, .int 4), (0, .ref h)]), W p l e ({ frames := 2, cells := 0, slots := 0, locals := 21 } : Room) s m ([.ref h, .int (nI d), .int 4] : List Value).toArray below meth c H locs 0 0 (MQ below (va_Qi (fun (r9 : Int32) (u9 : Unit) => r9 = nI (x.parcelBlocks d)) (fun (u9 : Unit) t9 => bW D A (MW dA h ad (MS.s_cod x 0)) t9) A) ([.ref h, .int (nI d), .int 4] : List Value).toArray s 0 0 A) (F0 m 80 ls []) := by
          intro k9
          induction k9 using Nat.strongRecOn with
          | ind k9 ih80 =>
            intro q a2 b2 j1 j2 j3 hk9 H locs ls hP hD hS hl
            have hz := cnt_le q (x.inP (x.parcels d) w)
            refine lv_iload hx hb d_M_parcel_80 (lv_at hl 0 rfl) ?_
            refine lv_aload_n hx hb d_M_parcel_82 rfl (lv_at hl 8 rfl) ?_
            refine gF (v := .int (nI x.points)) hx hb hown hE hK hP 0 rfl rfl layM 23 (by decide) w420 rfl d_M_parcel_83 ?_
            refine lv_icmp_ge hx hb d_M_parcel_86 (tgt := 167) rfl (fun g2 => ?_) (fun g2 => ?_)
            · have g2 := (nI_leI (a := x.points) (b := q) (by omega) (by omega)).mp g2
              refine lv_iload hx hb d_M_parcel_167 (lv_at hl 4 rfl) ?_
              refine lv_iload_n hx hb d_M_parcel_169 rfl (lv_at hl 1 rfl) ?_
              refine lv_iload hx hb d_M_parcel_170 (lv_at hl 5 rfl) ?_
              refine lv_icmp_le hx hb d_M_parcel_172 (tgt := 179) rfl (fun g3 => ?_) (fun g3 => ?_)
              · have g3 := (nI_leI (a := a2) (b := a) (by omega) (by omega)).mp g3
                refine lv_iconst (v := 0) hx hb d_M_parcel_179 (by decide) ?_
                refine lv_iadd hx hb d_M_parcel_180 (tpi (y := nI (n)) (nI_add (n) (0)) ?_)
                refine lv_istore hx hb d_M_parcel_181 hl (by decide) rfl (fun ls hl => ?_)
                have hl : lv_has ls 10 [(5, .int (nI (n))), (8, .int (nI q)), (3, .int (nI a2)), (4, .int (nI b2)), (6, .int (nI w)), (7, .int (nI a)), (1, .int (nI d)), (2, .int 4), (0, .ref h)] := hl
                refine lv_iinc (k := 4) (v := nI (w + 1)) hx hb d_M_parcel_183 hl rfl (iincN (w) 1 1 (by decide)) (by decide) rfl (fun ls hl => ?_)
                have hl : lv_has ls 10 [(6, .int (nI (w + 1))), (5, .int (nI (n))), (8, .int (nI q)), (3, .int (nI a2)), (4, .int (nI b2)), (7, .int (nI a)), (1, .int (nI d)), (2, .int 4), (0, .ref h)] := hl
                refine lv_goto hx hb d_M_parcel_186 (tgt := 65) rfl ?_
                exact ih65 _ (by omega) (w + 1) a2 b2 n (by omega) (by show _ = sumN w _ + cnt x.points (x.inP (x.parcels d) w); rw [← i2, ← show q = x.points by omega, j2]) (by show _ = sumN w _ + cnt x.points (fun y => x.inP (x.parcels d) w y && x.seen y); rw [← i3, ← show q = x.points by omega, j3]) (chk0 (F := (fun z => cnt x.points (x.inP (x.parcels d) z))) i4 (show a2 = a + cnt x.points (x.inP (x.parcels d) w) from by rw [← show q = x.points by omega]; exact j2) g3) (by have hz := cnt_le q (x.inP (x.parcels d) w); omega) rfl H _ ls hP hD hS (lv_sub hl [0, 3, 4, 1, 6, 7, 8] rfl)
              · have g3 := mt (nI_leI (a := a2) (b := a) (by omega) (by omega)).mpr g3
                refine lv_iconst (v := 1) hx hb d_M_parcel_175 (by decide) ?_
                refine lv_goto hx hb d_M_parcel_176 (tgt := 180) rfl ?_
                refine lv_iadd hx hb d_M_parcel_180 (tpi (y := nI (n + 1)) (nI_add (n) (1)) ?_)
                refine lv_istore hx hb d_M_parcel_181 hl (by decide) rfl (fun ls hl => ?_)
                have hl : lv_has ls 10 [(5, .int (nI (n + 1))), (8, .int (nI q)), (3, .int (nI a2)), (4, .int (nI b2)), (6, .int (nI w)), (7, .int (nI a)), (1, .int (nI d)), (2, .int 4), (0, .ref h)] := hl
                refine lv_iinc (k := 4) (v := nI (w + 1)) hx hb d_M_parcel_183 hl rfl (iincN (w) 1 1 (by decide)) (by decide) rfl (fun ls hl => ?_)
                have hl : lv_has ls 10 [(6, .int (nI (w + 1))), (5, .int (nI (n + 1))), (8, .int (nI q)), (3, .int (nI a2)), (4, .int (nI b2)), (7, .int (nI a)), (1, .int (nI d)), (2, .int 4), (0, .ref h)] := hl
                refine lv_goto hx hb d_M_parcel_186 (tgt := 65) rfl ?_
                exact ih65 _ (by omega) (w + 1) a2 b2 (n + 1) (by omega) (by show _ = sumN w _ + cnt x.points (x.inP (x.parcels d) w); rw [← i2, ← show q = x.points by omega, j2]) (by show _ = sumN w _ + cnt x.points (fun y => x.inP (x.parcels d) w y && x.seen y); rw [← i3, ← show q = x.points by omega, j3]) (chk (F := (fun z => cnt x.points (x.inP (x.parcels d) z))) i4 (show a2 = a + cnt x.points (x.inP (x.parcels d) w) from by rw [← show q = x.points by omega]; exact j2) g3) (by have hz := cnt_le q (x.inP (x.parcels d) w); omega) rfl H _ ls hP hD hS (lv_sub hl [0, 3, 4, 1, 6, 7, 8] rfl)
            · have g2 := mt (nI_leI (a := x.points) (b := q) (by omega) (by omega)).mpr g2
              have J122 : ∀ (v : Bool) (j9 : x.inP (x.parcels d) w q = v), ∀ (H : Heap) (locs : List Loc) (ls : Array Slot) (hP : va_P D vwCl (MW dA h ad (MS.s_cod x 0)) H) (hD : va_D A (MW dA h ad (MS.s_cod x 0))) (hS : va_S A s.heap H locs) (hl : lv_has ls 10 [(8, .int (nI q)), (3, .int (nI a2)), (4, .int (nI b2)), (6, .int (nI w)), (5, .int (nI n)), (7, .int (nI a)), (1, .int (nI d)), (2, .int 4), (0, .ref h)]), W p l e ({ frames := 2, cells := 0, slots := 0, locals := 21 } : Room) s m ([.ref h, .int (nI d), .int 4] : List Value).toArray below meth c H locs 0 0 (MQ below (va_Qi (fun (r9 : Int32) (u9 : Unit) => r9 = nI (x.parcelBlocks d)) (fun (u9 : Unit) t9 => bW D A (MW dA h ad (MS.s_cod x 0)) t9) A) ([.ref h, .int (nI d), .int 4] : List Value).toArray s 0 0 A) (F0 m 122 ls [.int (bI v)]) := by
                intro v j9 H locs ls hP hD hS hl
                refine lv_istore hx hb d_M_parcel_122 hl (by decide) rfl (fun ls hl => ?_)
                have hl : lv_has ls 10 [(9, .int (bI v)), (8, .int (nI q)), (3, .int (nI a2)), (4, .int (nI b2)), (6, .int (nI w)), (5, .int (nI n)), (7, .int (nI a)), (1, .int (nI d)), (2, .int 4), (0, .ref h)] := hl
                refine lv_iload_n hx hb d_M_parcel_124 rfl (lv_at hl 2 rfl) ?_
                refine lv_iload hx hb d_M_parcel_125 (lv_at hl 0 rfl) ?_
                refine lv_if_eq hx hb d_M_parcel_127 (tgt := 134) rfl (fun g4 => ?_) (fun g4 => ?_)
                · have g4 := bI_0 g4
                  refine lv_iconst (v := 0) hx hb d_M_parcel_134 (by decide) ?_
                  refine lv_iadd hx hb d_M_parcel_135 (tpi (y := nI (a2)) (nI_add (a2) (0)) ?_)
                  refine lv_istore_n hx hb d_M_parcel_136 rfl hl (by decide) rfl (fun ls hl => ?_)
                  have hl : lv_has ls 10 [(3, .int (nI (a2))), (9, .int (bI v)), (8, .int (nI q)), (4, .int (nI b2)), (6, .int (nI w)), (5, .int (nI n)), (7, .int (nI a)), (1, .int (nI d)), (2, .int 4), (0, .ref h)] := hl
                  refine lv_iload hx hb d_M_parcel_137 (lv_at hl 3 rfl) ?_
                  refine lv_iload hx hb d_M_parcel_139 (lv_at hl 1 rfl) ?_
                  refine lv_if_eq hx hb d_M_parcel_141 (tgt := 157) rfl (fun _ => ?_) (fun h9 => absurd (by rw [g4]; decide) h9)
                  refine lv_iconst (v := 0) hx hb d_M_parcel_157 (by decide) ?_
                  refine lv_iadd hx hb d_M_parcel_158 (tpi (y := nI (b2)) (nI_add (b2) (0)) ?_)
                  refine lv_istore hx hb d_M_parcel_159 hl (by decide) rfl (fun ls hl => ?_)
                  have hl : lv_has ls 10 [(4, .int (nI (b2))), (3, .int (nI (a2))), (9, .int (bI v)), (8, .int (nI q)), (6, .int (nI w)), (5, .int (nI n)), (7, .int (nI a)), (1, .int (nI d)), (2, .int 4), (0, .ref h)] := hl
                  refine lv_iinc (k := 3) (v := nI (q + 1)) hx hb d_M_parcel_161 hl rfl (iincN (q) 1 1 (by decide)) (by decide) rfl (fun ls hl => ?_)
                  have hl : lv_has ls 10 [(8, .int (nI (q + 1))), (4, .int (nI (b2))), (3, .int (nI (a2))), (9, .int (bI v)), (6, .int (nI w)), (5, .int (nI n)), (7, .int (nI a)), (1, .int (nI d)), (2, .int 4), (0, .ref h)] := hl
                  refine lv_goto hx hb d_M_parcel_164 (tgt := 80) rfl ?_
                  exact ih80 _ (by omega) (q + 1) a2 b2 (by omega) (by simp [cnt, *, Nat.add_assoc]) (by simp [cnt, *, Nat.add_assoc]) rfl H _ ls hP hD hS (lv_sub hl [0, 2, 1, 4, 5, 6, 7, 8, 9] rfl)
                · have g4 := bI_n0 g4
                  refine lv_iconst (v := 1) hx hb d_M_parcel_130 (by decide) ?_
                  refine lv_goto hx hb d_M_parcel_131 (tgt := 135) rfl ?_
                  refine lv_iadd hx hb d_M_parcel_135 (tpi (y := nI (a2 + 1)) (nI_add (a2) (1)) ?_)
                  refine lv_istore_n hx hb d_M_parcel_136 rfl hl (by decide) rfl (fun ls hl => ?_)
                  have hl : lv_has ls 10 [(3, .int (nI (a2 + 1))), (9, .int (bI v)), (8, .int (nI q)), (4, .int (nI b2)), (6, .int (nI w)), (5, .int (nI n)), (7, .int (nI a)), (1, .int (nI d)), (2, .int 4), (0, .ref h)] := hl
                  refine lv_iload hx hb d_M_parcel_137 (lv_at hl 3 rfl) ?_
                  refine lv_iload hx hb d_M_parcel_139 (lv_at hl 1 rfl) ?_
                  refine lv_if_eq hx hb d_M_parcel_141 (tgt := 157) rfl (fun h9 => absurd h9 (by rw [g4]; decide)) (fun _ => ?_)
                  refine lv_aload_n hx hb d_M_parcel_144 rfl (lv_at hl 9 rfl) ?_
                  refine lv_iload hx hb d_M_parcel_145 (lv_at hl 2 rfl) ?_
                  refine jfI (rnV (As := [.int (nI q)]) (rest := [.int (nI b2)]) hx hb hml hown hE hK (hN _ _ hS) hP hD (k_isSeen l D dA H.size h ad (MS.s_cod x 0) q (show q < 12000 from by omega)) (q0 := 0) rfl rfl w861 w860 w862 w863 w328 rfl rfl ⟨⟨by decide, by decide⟩, rfl⟩ ⟨(Nat.le_of_ble_eq_true rfl), (Nat.le_of_ble_eq_true rfl)⟩ rfl hl.1 rfl (Nat.le_of_ble_eq_true rfl) d_M_parcel_147 ⟨(Nat.le_of_ble_eq_true rfl), (Nat.le_of_ble_eq_true rfl)⟩) hP hD hS hA (fun r5 u6 H locs hp9 hP hD hS => ?_)
                  have hP : va_P D vwCl (MW dA h ad (MS.s_cod x 0)) H := hP
                  have hD : va_D A (MW dA h ad (MS.s_cod x 0)) := hD
                  replace hp9 : bI (x.seen q) = r5 := Eq.symm hp9
                  subst hp9
                  refine lv_if_eq hx hb d_M_parcel_150 (tgt := 157) rfl (fun g7 => ?_) (fun g7 => ?_)
                  · have g7 := bI_0 g7
                    refine lv_iconst (v := 0) hx hb d_M_parcel_157 (by decide) ?_
                    refine lv_iadd hx hb d_M_parcel_158 (tpi (y := nI (b2)) (nI_add (b2) (0)) ?_)
                    refine lv_istore hx hb d_M_parcel_159 hl (by decide) rfl (fun ls hl => ?_)
                    have hl : lv_has ls 10 [(4, .int (nI (b2))), (3, .int (nI (a2 + 1))), (9, .int (bI v)), (8, .int (nI q)), (6, .int (nI w)), (5, .int (nI n)), (7, .int (nI a)), (1, .int (nI d)), (2, .int 4), (0, .ref h)] := hl
                    refine lv_iinc (k := 3) (v := nI (q + 1)) hx hb d_M_parcel_161 hl rfl (iincN (q) 1 1 (by decide)) (by decide) rfl (fun ls hl => ?_)
                    have hl : lv_has ls 10 [(8, .int (nI (q + 1))), (4, .int (nI (b2))), (3, .int (nI (a2 + 1))), (9, .int (bI v)), (6, .int (nI w)), (5, .int (nI n)), (7, .int (nI a)), (1, .int (nI d)), (2, .int 4), (0, .ref h)] := hl
                    refine lv_goto hx hb d_M_parcel_164 (tgt := 80) rfl ?_
                    exact ih80 _ (by omega) (q + 1) (a2 + 1) b2 (by omega) (by simp [cnt, *, Nat.add_assoc]) (by simp [cnt, *, Nat.add_assoc]) rfl H _ ls hP hD hS (lv_sub hl [0, 2, 1, 4, 5, 6, 7, 8, 9] rfl)
                  · have g7 := bI_n0 g7
                    refine lv_iconst (v := 1) hx hb d_M_parcel_153 (by decide) ?_
                    refine lv_goto hx hb d_M_parcel_154 (tgt := 158) rfl ?_
                    refine lv_iadd hx hb d_M_parcel_158 (tpi (y := nI (b2 + 1)) (nI_add (b2) (1)) ?_)
                    refine lv_istore hx hb d_M_parcel_159 hl (by decide) rfl (fun ls hl => ?_)
                    have hl : lv_has ls 10 [(4, .int (nI (b2 + 1))), (3, .int (nI (a2 + 1))), (9, .int (bI v)), (8, .int (nI q)), (6, .int (nI w)), (5, .int (nI n)), (7, .int (nI a)), (1, .int (nI d)), (2, .int 4), (0, .ref h)] := hl
                    refine lv_iinc (k := 3) (v := nI (q + 1)) hx hb d_M_parcel_161 hl rfl (iincN (q) 1 1 (by decide)) (by decide) rfl (fun ls hl => ?_)
                    have hl : lv_has ls 10 [(8, .int (nI (q + 1))), (4, .int (nI (b2 + 1))), (3, .int (nI (a2 + 1))), (9, .int (bI v)), (6, .int (nI w)), (5, .int (nI n)), (7, .int (nI a)), (1, .int (nI d)), (2, .int 4), (0, .ref h)] := hl
                    refine lv_goto hx hb d_M_parcel_164 (tgt := 80) rfl ?_
                    exact ih80 _ (by omega) (q + 1) (a2 + 1) (b2 + 1) (by omega) (by simp [cnt, *, Nat.add_assoc]) (by simp [cnt, *, Nat.add_assoc]) rfl H _ ls hP hD hS (lv_sub hl [0, 2, 1, 4, 5, 6, 7, 8, 9] rfl)
              refine lv_aload_n hx hb d_M_parcel_89 rfl (lv_at hl 8 rfl) ?_
              refine gF (v := .ref (ad 17)) hx hb hown hE hK hP 0 rfl rfl layM 17 (by decide) w503 rfl d_M_parcel_90 ?_
              refine lv_iload hx hb d_M_parcel_93 (lv_at hl 0 rfl) ?_
              refine nild (f := (fun z9 => nI (x.pointSeries z9))) hx hb hK hP 6 1 rfl rfl (q) (by omega) (by decide) d_M_parcel_95 ?_
              refine lv_iload hx hb d_M_parcel_96 (lv_at hl 3 rfl) ?_
              have b1 := hs q (by omega)
              refine lv_icmp_ne hx hb d_M_parcel_98 (tgt := 121) rfl (fun g8 => ?_) (fun g8 => ?_)
              · have g8 := mt (nI_eq (a := x.pointSeries q) (b := w) (by omega) (by omega)).mpr g8
                refine lv_iconst (v := 0) hx hb d_M_parcel_121 (by decide) ?_
                exact J122 false (by simp [MS.inP, *]) H _ ls hP hD hS (lv_sub hl [0, 1, 2, 3, 4, 5, 6, 7, 8] rfl)
              · have g8 := (nI_eq (a := x.pointSeries q) (b := w) (by omega) (by omega)).mp g8
                refine lv_aload_n hx hb d_M_parcel_101 rfl (lv_at hl 8 rfl) ?_
                refine gF (v := .ref (ad 20)) hx hb hown hE hK hP 0 rfl rfl layM 20 (by decide) w506 rfl d_M_parcel_102 ?_
                refine lv_iload hx hb d_M_parcel_105 (lv_at hl 0 rfl) ?_
                refine nild (f := x.places) hx hb hK hP 9 1 rfl rfl (q) (by omega) (by decide) d_M_parcel_107 ?_
                refine lv_aload_n hx hb d_M_parcel_108 rfl (lv_at hl 8 rfl) ?_
                refine gF (v := .ref (ad 26)) hx hb hown hE hK hP 0 rfl rfl layM 26 (by decide) w509 rfl d_M_parcel_109 ?_
                refine lv_iload_n hx hb d_M_parcel_112 rfl (lv_at hl 6 rfl) ?_
                refine nild (f := (fun z9 => nI (x.parcels z9))) hx hb hK hP 12 1 rfl rfl (d) (by omega) (by decide) d_M_parcel_113 ?_
                refine lv_icmp_ne hx hb d_M_parcel_114 (tgt := 121) rfl (fun g9 => ?_) (fun g9 => ?_)
                · have g9 := g9
                  refine lv_iconst (v := 0) hx hb d_M_parcel_121 (by decide) ?_
                  exact J122 false (by simp [MS.inP, *]) H _ ls hP hD hS (lv_sub hl [0, 1, 2, 3, 4, 5, 6, 7, 8] rfl)
                · have g9 := g9
                  refine lv_iconst (v := 1) hx hb d_M_parcel_117 (by decide) ?_
                  refine lv_goto hx hb d_M_parcel_118 (tgt := 122) rfl ?_
                  exact J122 true (by simp [MS.inP, *]) H _ ls hP hD hS (lv_sub hl [0, 1, 2, 3, 4, 5, 6, 7, 8] rfl)
        exact L80 _ 0 a b (by omega) rfl rfl rfl H _ ls hP hD hS (lv_sub hl [0, 3, 4, 2, 5, 1, 6, 7, 8] rfl)
  exact L65 _ 0 0 0 0 (by omega) rfl rfl rfl (by omega) rfl H _ ls hP hD hS (lv_sub hl [0, 3, 2, 1, 5, 6, 4] rfl)
