section
theorem mapT_u {α : Type} {k : Nat} {c : Nat → Bool} {g f : Nat → α} {v : α} (h : c k = false) (hv : v = f k) : mapT (k + 1) c g f = va_up (mapT k c g f) k v := by
  rw [mapT_f h]
  subst hv
  funext q
  show mapT k c g f q = if q = k then f k else mapT k c g f q
  by_cases e : q = k
  · subst e; rw [if_pos rfl, mapT_at _ _ _ (Nat.le_refl q)]
  · rw [if_neg e]
def MS.syCut (x : MS) : Int32 := if x.fresh = true then cutF x.cutLeft else x.cutLeft
def MS.syWr (x : MS) : Nat := if x.fresh = true then x.written + 1 else x.written
def MS.isM1 (x : MS) (z : Nat) : Bool := decide (x.places z = (-1))
def MS.flP (x : MS) (z : Nat) : Int32 := if x.seen z = true then nI x.parcelNumber else (-2)
def MS.cmN (x : MS) (d : Nat) : Nat := (x.bA (nI (x.parcels d)) (nI (x.parcels (d + 1))) true x.seriesCount + 32255) / 32256
def MS.is12 (x : MS) (d z : Nat) : Bool := decide (x.places z = nI (x.parcels d)) || decide (x.places z = nI (x.parcels (d + 1)))
theorem cmN_le {x : MS} (d : Nat) (h1 : x.points ≤ 12000) (h2 : x.seriesCount ≤ 256) : x.cmN d ≤ 16001 := by
  unfold MS.cmN
  have := bA_le x (nI (x.parcels d)) (nI (x.parcels (d + 1))) true h1 x.seriesCount
  omega
theorem flx {x : MS} {pk : Bool} (hpk : decide (0 < x.heads) = pk) (hn : 0 < x.heads ∧ x.parcelCount = 32 ∨ x.freeN < x.manyN + x.catN) (h : pk = false ∨ ¬ x.parcelCount = 32) : x.freeN < x.manyN + x.catN := by
  rcases hn with ⟨h1, h2⟩ | h1
  · rcases h with h | h
    · subst h
      exact absurd h1 (of_decide_eq_false hpk)
    · exact absurd h2 h
  · exact h1
def MS.tidS (x : MS) : MS := MS.s_points (MS.s_baseHidden (MS.s_hidden (MS.s_places (MS.s_pointValues (MS.s_pointTimes (MS.s_pointSeries x (tdT x.stay x.pointSeries x.points)) (tdT x.stay x.pointTimes x.points)) (tdT x.stay x.pointValues x.points)) (tdT x.stay x.places x.points)) (tdT x.stay x.hidden x.points)) (tdT x.stay x.baseHidden x.points)) (cnt x.points x.stay)
def MS.shoS (x : MS) : MS := MS.s_baseHorizon (MS.s_baseHidden x (mapT x.points (fun _ => true) x.hidden x.baseHidden)) x.horizon
def MS.fl1 (x : MS) (n : Nat) : MS := MS.s_places (MS.s_written (MS.s_cutLeft (MS.s_cod x 0) (cutN x.cutLeft n)) (x.written + n)) (mapT x.points x.isM1 x.flP x.places)
def MS.fl2 (x : MS) (v : Nat) : MS := MS.s_parcelNumber (MS.s_parcelCount (MS.s_parcelBlocks (MS.s_parcels x (va_up x.parcels x.parcelCount x.parcelNumber)) (va_up x.parcelBlocks x.parcelCount v)) (x.parcelCount + 1)) (x.parcelNumber + 1)
def MS.fl3 (x : MS) (n : Nat) : MS := (x.tidS.s_catalogBlocks n).s_baseSeries x.seriesCount
def MS.fl4 (x : MS) : MS := MS.s_fresh (MS.s_used (MS.s_block (MS.s_kept (MS.s_records (MS.s_baseHorizon (MS.s_baseHidden (MS.s_baseLasts x (mapT x.seriesCount (fun _ => true) x.lasts x.baseLasts)) (mapT x.points (fun _ => true) x.hidden x.baseHidden)) x.horizon) 0) 0) 0) 0) false
def MS.fluS (x : MS) : MS := MS.fl4 (MS.fl3 (bif decide (0 < x.heads) then (x.fl1 (x.manyN + x.catN + 1)).fl2 x.manyN else x.fl1 (x.manyN + x.catN + 1)) x.catN)
theorem d_M_flush_12 : decode prog_14_method_44_code 12 = .ok (.iconst 1, 1) := by decide +kernel
set_option maxHeartbeats 4000000 in
set_option maxRecDepth 100000 in
theorem k_flush_1 (l : Launch) (D : va_G) (dA : Nat → ClassId) (sz : Nat) (h : Nat) (ad : Nat → Nat) (x : MS) (ho : x.on = false) : Met l ⟨"SeriesVaultModel", "flush", "()I"⟩ [Cond.code ⟨"SeriesVaultModel", "flush", "()I"⟩ prog_14_method_44_code 5 (some FieldType.int)] { frames := 1, cells := 0, slots := 0, locals := 0 } (pC D dA [.ref h] (MW dA h ad x) sz) (va_Qi (fun (r9 : Int32) (u9 : Unit) => r9 = 0) (fun (u9 : Unit) t9 => bW D (va_A (MW dA h ad x) sz) (MW dA h ad (MS.s_cod x 1)) t9) (va_A (MW dA h ad x) sz)) 0 0 (va_A (MW dA h ad x) sz) := by
  refine mkC (y := ⟨"SeriesVaultModel", "flush", "()I"⟩) (cc := prog_14_method_44_code) (maxL := 5) (av := [.ref h]) (ws := MW dA h ad x) (sz := sz) (Qc := fun A => va_Qi (fun (r9 : Int32) (u9 : Unit) => r9 = 0) (fun (u9 : Unit) t9 => bW D A (MW dA h ad (MS.s_cod x 1)) t9) A) (by decide) (Nat.le_of_ble_eq_true rfl) ?_
  intro A p e s m below meth c ls hsz hB
  obtain ⟨hx, hb, hr, hml, hown, hin, hlk, hE, hK, hP, hD, hS, hA, hN, hl⟩ := hB
  have hown : s.vm.findClass "SeriesVaultModel" = some m.cls := hown
  have hl : lv_has ls 5 [(0, .ref h)] := hl
  obtain ⟨H, hH⟩ : ∃ z, z = s.heap := ⟨_, rfl⟩
  have hP : va_P D vwCl (MW dA h ad x) H := by rw [hH]; exact hP
  have hS : va_S A s.heap H [] := by rw [hH]; exact hS
  rw [← hH]
  refine lv_aload_n hx hb d_M_flush_0 rfl (lv_at hl 0 rfl) ?_
  refine lv_aload_n hx hb d_M_flush_1 rfl (lv_at hl 0 rfl) ?_
  refine gF (v := .int (bI x.on)) hx hb hown hE hK hP 0 rfl rfl layM 7 (by decide) w324 rfl d_M_flush_2 ?_
  refine lv_if_eq hx hb d_M_flush_5 (tgt := 12) rfl (fun _ => ?_) (fun h9 => absurd (by rw [ho]; decide) h9)
  refine lv_iconst (v := 1) hx hb d_M_flush_12 (by decide) ?_
  refine pF (v := .int 1) hx hb hown hE hK hP hD hS 0 rfl rfl layM tyM tokM nmM 0 (by decide) w319 rfl rfl rfl (Nat.le_of_ble_eq_true rfl) d_M_flush_13 (fun H locs hP hD hS => ?_)
  have hP : va_P D vwCl (MW dA h ad (MS.s_cod x 1)) H := hP
  have hD : va_D A (MW dA h ad (MS.s_cod x 1)) := hD
  refine lv_aload_n hx hb d_M_flush_16 rfl (lv_at hl 0 rfl) ?_
  refine gF (v := .int 1) hx hb hown hE hK hP 0 rfl rfl layM 0 (by decide) w319 rfl d_M_flush_17 ?_
  refine lv_if_gt hx hb d_M_flush_20 (tgt := 30) rfl (fun _ => ?_) (fun h9 => absurd (by decide) h9)
  refine lv_iconst (v := 0) hx hb d_M_flush_30 (by decide) ?_
  exact rfI hx hb hr hlk hS () rfl hP hD (Nat.le_of_ble_eq_true rfl) (Nat.le_of_ble_eq_true rfl) d_M_flush_31
set_option maxHeartbeats 4000000 in
set_option maxRecDepth 100000 in
theorem k_flush_n (l : Launch) (D : va_G) (dA : Nat → ClassId) (sz : Nat) (h : Nat) (ad : Nat → Nat) (x : MS) (ho : x.on = true) (h0 : x.records = 0) : Met l ⟨"SeriesVaultModel", "flush", "()I"⟩ [Cond.code ⟨"SeriesVaultModel", "flush", "()I"⟩ prog_14_method_44_code 5 (some FieldType.int)] { frames := 1, cells := 0, slots := 0, locals := 0 } (pC D dA [.ref h] (MW dA h ad x) sz) (va_Qi (fun (r9 : Int32) (u9 : Unit) => r9 = 0) (fun (u9 : Unit) t9 => bW D (va_A (MW dA h ad x) sz) (MW dA h ad (MS.s_cod x 0)) t9) (va_A (MW dA h ad x) sz)) 0 0 (va_A (MW dA h ad x) sz) := by
  refine mkC (y := ⟨"SeriesVaultModel", "flush", "()I"⟩) (cc := prog_14_method_44_code) (maxL := 5) (av := [.ref h]) (ws := MW dA h ad x) (sz := sz) (Qc := fun A => va_Qi (fun (r9 : Int32) (u9 : Unit) => r9 = 0) (fun (u9 : Unit) t9 => bW D A (MW dA h ad (MS.s_cod x 0)) t9) A) (by decide) (Nat.le_of_ble_eq_true rfl) ?_
  intro A p e s m below meth c ls hsz hB
  obtain ⟨hx, hb, hr, hml, hown, hin, hlk, hE, hK, hP, hD, hS, hA, hN, hl⟩ := hB
  have hown : s.vm.findClass "SeriesVaultModel" = some m.cls := hown
  have hl : lv_has ls 5 [(0, .ref h)] := hl
  obtain ⟨H, hH⟩ : ∃ z, z = s.heap := ⟨_, rfl⟩
  have hP : va_P D vwCl (MW dA h ad x) H := by rw [hH]; exact hP
  have hS : va_S A s.heap H [] := by rw [hH]; exact hS
  rw [← hH]
  refine lv_aload_n hx hb d_M_flush_0 rfl (lv_at hl 0 rfl) ?_
  refine lv_aload_n hx hb d_M_flush_1 rfl (lv_at hl 0 rfl) ?_
  refine gF (v := .int (bI x.on)) hx hb hown hE hK hP 0 rfl rfl layM 7 (by decide) w324 rfl d_M_flush_2 ?_
  refine lv_if_eq hx hb d_M_flush_5 (tgt := 12) rfl (fun h9 => absurd h9 (by rw [ho]; decide)) (fun _ => ?_)
  refine lv_iconst (v := 0) hx hb d_M_flush_8 (by decide) ?_
  refine lv_goto hx hb d_M_flush_9 (tgt := 13) rfl ?_
  refine pF (v := .int 0) hx hb hown hE hK hP hD hS 0 rfl rfl layM tyM tokM nmM 0 (by decide) w319 rfl rfl rfl (Nat.le_of_ble_eq_true rfl) d_M_flush_13 (fun H locs hP hD hS => ?_)
  have hP : va_P D vwCl (MW dA h ad (MS.s_cod x 0)) H := hP
  have hD : va_D A (MW dA h ad (MS.s_cod x 0)) := hD
  refine lv_aload_n hx hb d_M_flush_16 rfl (lv_at hl 0 rfl) ?_
  refine gF (v := .int 0) hx hb hown hE hK hP 0 rfl rfl layM 0 (by decide) w319 rfl d_M_flush_17 ?_
  refine lv_if_gt hx hb d_M_flush_20 (tgt := 30) rfl (fun h9 => absurd h9 (by decide)) (fun _ => ?_)
  refine lv_aload_n hx hb d_M_flush_23 rfl (lv_at hl 0 rfl) ?_
  refine gF (v := .int (nI x.records)) hx hb hown hE hK hP 0 rfl rfl layM 37 (by decide) w338 rfl d_M_flush_24 ?_
  refine lv_if_ne hx hb d_M_flush_27 (tgt := 32) rfl (fun h9 => absurd ((nI_eq (a := x.records) (b := 0) (by omega) (by omega)).mpr h0) h9) (fun _ => ?_)
  refine lv_iconst (v := 0) hx hb d_M_flush_30 (by decide) ?_
  exact rfI hx hb hr hlk hS () rfl hP hD (Nat.le_of_ble_eq_true rfl) (Nat.le_of_ble_eq_true rfl) d_M_flush_31
theorem d_M_flush_32 : decode prog_14_method_44_code 32 = .ok (.aload_n 0, 1) := by decide +kernel
theorem d_M_flush_33 : decode prog_14_method_44_code 33 = .ok (.invokevirtual 271, 3) := by decide +kernel
theorem d_M_flush_44 : decode prog_14_method_44_code 44 = .ok (.istore_n 1, 1) := by decide +kernel
theorem d_M_flush_63 : decode prog_14_method_44_code 63 = .ok (.istore_n 2, 1) := by decide +kernel
theorem d_M_flush_64 : decode prog_14_method_44_code 64 = .ok (.aload_n 0, 1) := by decide +kernel
theorem d_M_flush_65 : decode prog_14_method_44_code 65 = .ok (.invokevirtual 322, 3) := by decide +kernel
theorem d_M_flush_68 : decode prog_14_method_44_code 68 = .ok (.istore_n 3, 1) := by decide +kernel
theorem d_M_flush_69 : decode prog_14_method_44_code 69 = .ok (.iload_n 1, 1) := by decide +kernel
theorem d_M_flush_70 : decode prog_14_method_44_code 70 = .ok (.ifCond .eq 12, 3) := by decide +kernel
theorem d_M_flush_82 : decode prog_14_method_44_code 82 = .ok (.iload_n 2, 1) := by decide +kernel
theorem d_M_flush_83 : decode prog_14_method_44_code 83 = .ok (.iload_n 3, 1) := by decide +kernel
theorem d_M_flush_84 : decode prog_14_method_44_code 84 = .ok (.iadd, 1) := by decide +kernel
theorem d_M_flush_85 : decode prog_14_method_44_code 85 = .ok (.aload_n 0, 1) := by decide +kernel
theorem d_M_flush_86 : decode prog_14_method_44_code 86 = .ok (.invokevirtual 325, 3) := by decide +kernel
theorem d_M_flush_89 : decode prog_14_method_44_code 89 = .ok (.if_icmp .le 10, 3) := by decide +kernel
theorem d_M_flush_92 : decode prog_14_method_44_code 92 = .ok (.aload_n 0, 1) := by decide +kernel
theorem d_M_flush_93 : decode prog_14_method_44_code 93 = .ok (.iconst 2, 1) := by decide +kernel
theorem d_M_flush_94 : decode prog_14_method_44_code 94 = .ok (.putfield 145, 3) := by decide +kernel
theorem d_M_flush_97 : decode prog_14_method_44_code 97 = .ok (.iconst 0, 1) := by decide +kernel
theorem d_M_flush_98 : decode prog_14_method_44_code 98 = .ok (.ireturn, 1) := by decide +kernel
theorem d_M_flush_73 : decode prog_14_method_44_code 73 = .ok (.aload_n 0, 1) := by decide +kernel
theorem d_M_flush_74 : decode prog_14_method_44_code 74 = .ok (.getfield 179, 3) := by decide +kernel
theorem d_M_flush_77 : decode prog_14_method_44_code 77 = .ok (.bipush 32, 2) := by decide +kernel
theorem d_M_flush_79 : decode prog_14_method_44_code 79 = .ok (.if_icmp .eq 13, 3) := by decide +kernel
theorem d_M_flush_45 : decode prog_14_method_44_code 45 = .ok (.iload_n 1, 1) := by decide +kernel
theorem d_M_flush_46 : decode prog_14_method_44_code 46 = .ok (.ifCond .eq 16, 3) := by decide +kernel
theorem d_M_flush_62 : decode prog_14_method_44_code 62 = .ok (.iconst 0, 1) := by decide +kernel
theorem d_M_flush_49 : decode prog_14_method_44_code 49 = .ok (.aload_n 0, 1) := by decide +kernel
theorem d_M_flush_50 : decode prog_14_method_44_code 50 = .ok (.iconst (-1), 1) := by decide +kernel
theorem d_M_flush_51 : decode prog_14_method_44_code 51 = .ok (.iconst (-1), 1) := by decide +kernel
theorem d_M_flush_52 : decode prog_14_method_44_code 52 = .ok (.iconst 1, 1) := by decide +kernel
theorem d_M_flush_53 : decode prog_14_method_44_code 53 = .ok (.invokevirtual 315, 3) := by decide +kernel
theorem d_M_flush_56 : decode prog_14_method_44_code 56 = .ok (.invokestatic 319, 3) := by decide +kernel
theorem d_M_flush_59 : decode prog_14_method_44_code 59 = .ok (.goto 4, 3) := by decide +kernel
theorem d_M_flush_36 : decode prog_14_method_44_code 36 = .ok (.ifCond .le 7, 3) := by decide +kernel
theorem d_M_flush_43 : decode prog_14_method_44_code 43 = .ok (.iconst 0, 1) := by decide +kernel
theorem d_M_flush_39 : decode prog_14_method_44_code 39 = .ok (.iconst 1, 1) := by decide +kernel
theorem d_M_flush_40 : decode prog_14_method_44_code 40 = .ok (.goto 4, 3) := by decide +kernel
theorem w918 : Cond.methodLink "SeriesVaultModel" 322 ⟨"SeriesVaultModel", "catalogSize", "()I"⟩ ∈ aW := aw_of (tb_10 (List.mem_of_getElem? (i := 93) rfl)) rfl
theorem w919 : Cond.code ⟨"SeriesVaultModel", "catalogSize", "()I"⟩ prog_14_method_41_code 5 (some FieldType.int) ∈ aW := aw_of (tb_10 (List.mem_of_getElem? (i := 96) rfl)) rfl
theorem w920 : Cond.instanceMethod ⟨"SeriesVaultModel", "catalogSize", "()I"⟩ ∈ aW := aw_of (tb_10 (List.mem_of_getElem? (i := 95) rfl)) rfl
theorem w921 : Cond.selects "SeriesVaultModel" ⟨"SeriesVaultModel", "catalogSize", "()I"⟩ ⟨"SeriesVaultModel", "catalogSize", "()I"⟩ ∈ aW := aw_pr (List.mem_map.mpr ⟨_, pv_6 (List.mem_of_getElem? (i := 8) rfl), rfl⟩) rfl
theorem w922 : Cond.methodLink "SeriesVaultModel" 319 ⟨"SeriesVaultModel", "blocksOf", "(J)I"⟩ ∈ aW := aw_of (tb_10 (List.mem_of_getElem? (i := 88) rfl)) rfl
theorem w923 : Cond.code ⟨"SeriesVaultModel", "blocksOf", "(J)I"⟩ prog_14_method_40_code 2 (some FieldType.int) ∈ aW := aw_of (tb_10 (List.mem_of_getElem? (i := 90) rfl)) rfl
theorem w924 : Cond.static ⟨"SeriesVaultModel", "blocksOf", "(J)I"⟩ ∈ aW := aw_of (tb_10 (List.mem_of_getElem? (i := 89) rfl)) rfl
set_option maxHeartbeats 4000000 in
set_option maxRecDepth 100000 in
theorem k_flush_2 (l : Launch) (D : va_G) (dA : Nat → ClassId) (sz : Nat) (h : Nat) (ad : Nat → Nat) (x : MS) (ho : x.on = true) (h0 : ¬ x.records = 0) (r1 : x.records ≤ 32000) (h1 : x.points ≤ 12000) (h2 : x.seriesCount ≤ 256) (hs : ∀ q : Nat, q < x.points → x.pointSeries q < 256) (ht : ∀ q : Nat, q < x.seriesCount → x.textLengths q ≤ 304) (f1 : x.parcelCount ≤ 40) (f2 : 2 + x.journal + x.catalogBlocks + sumN x.parcelCount x.parcelBlocks ≤ x.blocks) (f3 : x.blocks ≤ 256) (hn : 0 < x.heads ∧ x.parcelCount = 32 ∨ x.freeN < x.manyN + x.catN) : Met l ⟨"SeriesVaultModel", "flush", "()I"⟩ [Cond.code ⟨"SeriesVaultModel", "flush", "()I"⟩ prog_14_method_44_code 5 (some FieldType.int)] { frames := 3, cells := 0, slots := 0, locals := 63 } (pC D dA [.ref h] (MW dA h ad x) sz) (va_Qi (fun (r9 : Int32) (u9 : Unit) => r9 = 0) (fun (u9 : Unit) t9 => bW D (va_A (MW dA h ad x) sz) (MW dA h ad (MS.s_cod x 2)) t9) (va_A (MW dA h ad x) sz)) 0 0 (va_A (MW dA h ad x) sz) := by
  refine mkC (y := ⟨"SeriesVaultModel", "flush", "()I"⟩) (cc := prog_14_method_44_code) (maxL := 5) (av := [.ref h]) (ws := MW dA h ad x) (sz := sz) (Qc := fun A => va_Qi (fun (r9 : Int32) (u9 : Unit) => r9 = 0) (fun (u9 : Unit) t9 => bW D A (MW dA h ad (MS.s_cod x 2)) t9) A) (by decide) (Nat.le_of_ble_eq_true rfl) ?_
  intro A p e s m below meth c ls hsz hB
  obtain ⟨hx, hb, hr, hml, hown, hin, hlk, hE, hK, hP, hD, hS, hA, hN, hl⟩ := hB
  have hown : s.vm.findClass "SeriesVaultModel" = some m.cls := hown
  have hl : lv_has ls 5 [(0, .ref h)] := hl
  obtain ⟨H, hH⟩ : ∃ z, z = s.heap := ⟨_, rfl⟩
  have hP : va_P D vwCl (MW dA h ad x) H := by rw [hH]; exact hP
  have hS : va_S A s.heap H [] := by rw [hH]; exact hS
  rw [← hH]
  refine lv_aload_n hx hb d_M_flush_0 rfl (lv_at hl 0 rfl) ?_
  refine lv_aload_n hx hb d_M_flush_1 rfl (lv_at hl 0 rfl) ?_
  refine gF (v := .int (bI x.on)) hx hb hown hE hK hP 0 rfl rfl layM 7 (by decide) w324 rfl d_M_flush_2 ?_
  refine lv_if_eq hx hb d_M_flush_5 (tgt := 12) rfl (fun h9 => absurd h9 (by rw [ho]; decide)) (fun _ => ?_)
  refine lv_iconst (v := 0) hx hb d_M_flush_8 (by decide) ?_
  refine lv_goto hx hb d_M_flush_9 (tgt := 13) rfl ?_
  refine pF (v := .int 0) hx hb hown hE hK hP hD hS 0 rfl rfl layM tyM tokM nmM 0 (by decide) w319 rfl rfl rfl (Nat.le_of_ble_eq_true rfl) d_M_flush_13 (fun H locs hP hD hS => ?_)
  have hP : va_P D vwCl (MW dA h ad (MS.s_cod x 0)) H := hP
  have hD : va_D A (MW dA h ad (MS.s_cod x 0)) := hD
  refine lv_aload_n hx hb d_M_flush_16 rfl (lv_at hl 0 rfl) ?_
  refine gF (v := .int 0) hx hb hown hE hK hP 0 rfl rfl layM 0 (by decide) w319 rfl d_M_flush_17 ?_
  refine lv_if_gt hx hb d_M_flush_20 (tgt := 30) rfl (fun h9 => absurd h9 (by decide)) (fun _ => ?_)
  refine lv_aload_n hx hb d_M_flush_23 rfl (lv_at hl 0 rfl) ?_
  refine gF (v := .int (nI x.records)) hx hb hown hE hK hP 0 rfl rfl layM 37 (by decide) w338 rfl d_M_flush_24 ?_
  refine lv_if_ne hx hb d_M_flush_27 (tgt := 32) rfl (fun _ => ?_) (fun h9 => absurd h9 (mt (nI_eq (a := x.records) (b := 0) (by omega) (by omega)).mp h0))
  refine lv_aload_n hx hb d_M_flush_32 rfl (lv_at hl 0 rfl) ?_
  refine jfI (rnV (As := []) (rest := []) hx hb hml hown hE hK (hN _ _ hS) hP hD (k_headCount l D dA H.size h ad (MS.s_cod x 0) (show x.points ≤ 12000 from by omega)) (q0 := 0) rfl rfl w439 w438 w440 w441 w328 rfl rfl ⟨⟨by decide, by decide⟩, rfl⟩ ⟨(Nat.le_of_ble_eq_true rfl), (Nat.le_of_ble_eq_true rfl)⟩ rfl hl.1 rfl (Nat.le_of_ble_eq_true rfl) d_M_flush_33 ⟨(Nat.le_of_ble_eq_true rfl), (Nat.le_of_ble_eq_true rfl)⟩) hP hD hS hA (fun r1 u2 H locs hp9 hP hD hS => ?_)
  have hP : va_P D vwCl (MW dA h ad (MS.s_cod x 0)) H := hP
  have hD : va_D A (MW dA h ad (MS.s_cod x 0)) := hD
  replace hp9 : nI x.heads = r1 := Eq.symm hp9
  subst hp9
  have J44 : ∀ (pk : Bool) (hpk : decide (0 < x.heads) = pk), ∀ (H : Heap) (locs : List Loc) (ls : Array Slot) (hP : va_P D vwCl (MW dA h ad (MS.s_cod x 0)) H) (hD : va_D A (MW dA h ad (MS.s_cod x 0))) (hS : va_S A s.heap H locs) (hl : lv_has ls 5 [(0, .ref h)]), W p l e ({ frames := 3, cells := 0, slots := 0, locals := 63 } : Room) s m ([.ref h] : List Value).toArray below meth c H locs 0 0 (MQ below (va_Qi (fun (r9 : Int32) (u9 : Unit) => r9 = 0) (fun (u9 : Unit) t9 => bW D A (MW dA h ad (MS.s_cod x 2)) t9) A) ([.ref h] : List Value).toArray s 0 0 A) (F0 m 44 ls [.int (bI pk)]) := by
    intro pk hpk H locs ls hP hD hS hl
    refine lv_istore_n hx hb d_M_flush_44 rfl hl (by decide) rfl (fun ls hl => ?_)
    have hl : lv_has ls 5 [(1, .int (bI pk)), (0, .ref h)] := hl
    have J63 : ∀ (v : Nat) (hv : x.manyN = v), ∀ (H : Heap) (locs : List Loc) (ls : Array Slot) (hP : va_P D vwCl (MW dA h ad (MS.s_cod x 0)) H) (hD : va_D A (MW dA h ad (MS.s_cod x 0))) (hS : va_S A s.heap H locs) (hl : lv_has ls 5 [(1, .int (bI pk)), (0, .ref h)]), W p l e ({ frames := 3, cells := 0, slots := 0, locals := 63 } : Room) s m ([.ref h] : List Value).toArray below meth c H locs 0 0 (MQ below (va_Qi (fun (r9 : Int32) (u9 : Unit) => r9 = 0) (fun (u9 : Unit) t9 => bW D A (MW dA h ad (MS.s_cod x 2)) t9) A) ([.ref h] : List Value).toArray s 0 0 A) (F0 m 63 ls [.int (nI v)]) := by
      intro v hv H locs ls hP hD hS hl
      have hv5 := manyN_le (x := x) h1 h2
      have hc5 := catN_le (x := x) h2
      refine lv_istore_n hx hb d_M_flush_63 rfl hl (by decide) rfl (fun ls hl => ?_)
      have hl : lv_has ls 5 [(2, .int (nI v)), (1, .int (bI pk)), (0, .ref h)] := hl
      refine lv_aload_n hx hb d_M_flush_64 rfl (lv_at hl 2 rfl) ?_
      refine jfI (rnV (As := []) (rest := []) hx hb hml hown hE hK (hN _ _ hS) hP hD (k_catalogSize l D dA H.size h ad (MS.s_cod x 0) (show x.seriesCount ≤ 256 from by omega) ht) (q0 := 0) rfl rfl w919 w918 w920 w921 w328 rfl rfl ⟨⟨by decide, by decide⟩, rfl⟩ ⟨(Nat.le_of_ble_eq_true rfl), (Nat.le_of_ble_eq_true rfl)⟩ rfl hl.1 rfl (Nat.le_of_ble_eq_true rfl) d_M_flush_65 ⟨(Nat.le_of_ble_eq_true rfl), (Nat.le_of_ble_eq_true rfl)⟩) hP hD hS hA (fun r3 u4 H locs hp9 hP hD hS => ?_)
      have hP : va_P D vwCl (MW dA h ad (MS.s_cod x 0)) H := hP
      have hD : va_D A (MW dA h ad (MS.s_cod x 0)) := hD
      replace hp9 : nI x.catN = r3 := Eq.symm hp9
      subst hp9
      refine lv_istore_n hx hb d_M_flush_68 rfl hl (by decide) rfl (fun ls hl => ?_)
      have hl : lv_has ls 5 [(3, .int (nI x.catN)), (2, .int (nI v)), (1, .int (bI pk)), (0, .ref h)] := hl
      refine lv_iload_n hx hb d_M_flush_69 rfl (lv_at hl 2 rfl) ?_
      refine lv_if_eq hx hb d_M_flush_70 (tgt := 82) rfl (fun g5 => ?_) (fun g5 => ?_)
      · have g5 := bI_0 g5
        refine lv_iload_n hx hb d_M_flush_82 rfl (lv_at hl 1 rfl) ?_
        refine lv_iload_n hx hb d_M_flush_83 rfl (lv_at hl 0 rfl) ?_
        refine lv_iadd hx hb d_M_flush_84 (tpi (y := nI (v + x.catN)) (nI_add (v) (x.catN)) ?_)
        refine lv_aload_n hx hb d_M_flush_85 rfl (lv_at hl 3 rfl) ?_
        refine jfI (rnV (As := []) (rest := [.int (nI (v + x.catN))]) hx hb hml hown hE hK (hN _ _ hS) hP hD (k_free l D dA H.size h ad (MS.s_cod x 0) (show x.parcelCount ≤ 40 from by omega) (show 2 + x.journal + x.catalogBlocks + sumN x.parcelCount x.parcelBlocks ≤ x.blocks from by omega) (show x.blocks ≤ 256 from by omega)) (q0 := 0) rfl rfl w447 w446 w448 w449 w328 rfl rfl ⟨⟨by decide, by decide⟩, rfl⟩ ⟨(Nat.le_of_ble_eq_true rfl), (Nat.le_of_ble_eq_true rfl)⟩ rfl hl.1 rfl (Nat.le_of_ble_eq_true rfl) d_M_flush_86 ⟨(Nat.le_of_ble_eq_true rfl), (Nat.le_of_ble_eq_true rfl)⟩) hP hD hS hA (fun r6 u7 H locs hp9 hP hD hS => ?_)
        have hP : va_P D vwCl (MW dA h ad (MS.s_cod x 0)) H := hP
        have hD : va_D A (MW dA h ad (MS.s_cod x 0)) := hD
        replace hp9 : nI x.freeN = r6 := Eq.symm hp9
        subst hp9
        have hf5 : x.freeN ≤ 256 := by unfold MS.freeN; omega
        refine lv_icmp_le hx hb d_M_flush_89 (tgt := 99) rfl (fun h9 => absurd h9 (mt (nI_leI (a := v + x.catN) (b := x.freeN) (by omega) (by omega)).mp (Nat.not_le.mpr (by rw [← hv]; exact flx hpk hn (Or.inl g5))))) (fun _ => ?_)
        refine lv_aload_n hx hb d_M_flush_92 rfl (lv_at hl 3 rfl) ?_
        refine lv_iconst (v := 2) hx hb d_M_flush_93 (by decide) ?_
        refine pF (v := .int 2) hx hb hown hE hK hP hD hS 0 rfl rfl layM tyM tokM nmM 0 (by decide) w319 rfl rfl rfl (Nat.le_of_ble_eq_true rfl) d_M_flush_94 (fun H locs hP hD hS => ?_)
        have hP : va_P D vwCl (MW dA h ad (MS.s_cod x 2)) H := hP
        have hD : va_D A (MW dA h ad (MS.s_cod x 2)) := hD
        refine lv_iconst (v := 0) hx hb d_M_flush_97 (by decide) ?_
        exact rfI hx hb hr hlk hS () rfl hP hD (Nat.le_of_ble_eq_true rfl) (Nat.le_of_ble_eq_true rfl) d_M_flush_98
      · have g5 := bI_n0 g5
        refine lv_aload_n hx hb d_M_flush_73 rfl (lv_at hl 3 rfl) ?_
        refine gF (v := .int (nI x.parcelCount)) hx hb hown hE hK hP 0 rfl rfl layM 28 (by decide) w344 rfl d_M_flush_74 ?_
        refine lv_bipush (v := 32) hx hb d_M_flush_77 (by decide) ?_
        refine lv_icmp_eq hx hb d_M_flush_79 (tgt := 92) rfl (fun g8 => ?_) (fun g8 => ?_)
        · have g8 := (nI_eq (a := x.parcelCount) (b := 32) (by omega) (by omega)).mp g8
          refine lv_aload_n hx hb d_M_flush_92 rfl (lv_at hl 3 rfl) ?_
          refine lv_iconst (v := 2) hx hb d_M_flush_93 (by decide) ?_
          refine pF (v := .int 2) hx hb hown hE hK hP hD hS 0 rfl rfl layM tyM tokM nmM 0 (by decide) w319 rfl rfl rfl (Nat.le_of_ble_eq_true rfl) d_M_flush_94 (fun H locs hP hD hS => ?_)
          have hP : va_P D vwCl (MW dA h ad (MS.s_cod x 2)) H := hP
          have hD : va_D A (MW dA h ad (MS.s_cod x 2)) := hD
          refine lv_iconst (v := 0) hx hb d_M_flush_97 (by decide) ?_
          exact rfI hx hb hr hlk hS () rfl hP hD (Nat.le_of_ble_eq_true rfl) (Nat.le_of_ble_eq_true rfl) d_M_flush_98
        · have g8 := mt (nI_eq (a := x.parcelCount) (b := 32) (by omega) (by omega)).mpr g8
          refine lv_iload_n hx hb d_M_flush_82 rfl (lv_at hl 1 rfl) ?_
          refine lv_iload_n hx hb d_M_flush_83 rfl (lv_at hl 0 rfl) ?_
          refine lv_iadd hx hb d_M_flush_84 (tpi (y := nI (v + x.catN)) (nI_add (v) (x.catN)) ?_)
          refine lv_aload_n hx hb d_M_flush_85 rfl (lv_at hl 3 rfl) ?_
          refine jfI (rnV (As := []) (rest := [.int (nI (v + x.catN))]) hx hb hml hown hE hK (hN _ _ hS) hP hD (k_free l D dA H.size h ad (MS.s_cod x 0) (show x.parcelCount ≤ 40 from by omega) (show 2 + x.journal + x.catalogBlocks + sumN x.parcelCount x.parcelBlocks ≤ x.blocks from by omega) (show x.blocks ≤ 256 from by omega)) (q0 := 0) rfl rfl w447 w446 w448 w449 w328 rfl rfl ⟨⟨by decide, by decide⟩, rfl⟩ ⟨(Nat.le_of_ble_eq_true rfl), (Nat.le_of_ble_eq_true rfl)⟩ rfl hl.1 rfl (Nat.le_of_ble_eq_true rfl) d_M_flush_86 ⟨(Nat.le_of_ble_eq_true rfl), (Nat.le_of_ble_eq_true rfl)⟩) hP hD hS hA (fun r9 u10 H locs hp9 hP hD hS => ?_)
          have hP : va_P D vwCl (MW dA h ad (MS.s_cod x 0)) H := hP
          have hD : va_D A (MW dA h ad (MS.s_cod x 0)) := hD
          replace hp9 : nI x.freeN = r9 := Eq.symm hp9
          subst hp9
          have hf5 : x.freeN ≤ 256 := by unfold MS.freeN; omega
          refine lv_icmp_le hx hb d_M_flush_89 (tgt := 99) rfl (fun h9 => absurd h9 (mt (nI_leI (a := v + x.catN) (b := x.freeN) (by omega) (by omega)).mp (Nat.not_le.mpr (by rw [← hv]; exact flx hpk hn (Or.inr g8))))) (fun _ => ?_)
          refine lv_aload_n hx hb d_M_flush_92 rfl (lv_at hl 3 rfl) ?_
          refine lv_iconst (v := 2) hx hb d_M_flush_93 (by decide) ?_
          refine pF (v := .int 2) hx hb hown hE hK hP hD hS 0 rfl rfl layM tyM tokM nmM 0 (by decide) w319 rfl rfl rfl (Nat.le_of_ble_eq_true rfl) d_M_flush_94 (fun H locs hP hD hS => ?_)
          have hP : va_P D vwCl (MW dA h ad (MS.s_cod x 2)) H := hP
          have hD : va_D A (MW dA h ad (MS.s_cod x 2)) := hD
          refine lv_iconst (v := 0) hx hb d_M_flush_97 (by decide) ?_
          exact rfI hx hb hr hlk hS () rfl hP hD (Nat.le_of_ble_eq_true rfl) (Nat.le_of_ble_eq_true rfl) d_M_flush_98
    refine lv_iload_n hx hb d_M_flush_45 rfl (lv_at hl 0 rfl) ?_
    refine lv_if_eq hx hb d_M_flush_46 (tgt := 62) rfl (fun g11 => ?_) (fun g11 => ?_)
    · have g11 := bI_0 g11
      refine lv_iconst (v := 0) hx hb d_M_flush_62 (by decide) ?_
      exact J63 0 (by unfold MS.manyN; simp [g11] at hpk; simp [hpk]) H _ ls hP hD hS (lv_sub hl [0, 1] rfl)
    · have g11 := bI_n0 g11
      refine lv_aload_n hx hb d_M_flush_49 rfl (lv_at hl 1 rfl) ?_
      refine lv_iconst (v := (-1)) hx hb d_M_flush_50 (by decide) ?_
      refine lv_iconst (v := (-1)) hx hb d_M_flush_51 (by decide) ?_
      refine lv_iconst (v := 1) hx hb d_M_flush_52 (by decide) ?_
      refine jfL (rnV (As := [.int (-1), .int (-1), .int 1]) (rest := []) hx hb hml hown hE hK (hN _ _ hS) hP hD (k_bitsOf l D dA H.size h ad (MS.s_cod x 0) (-1) (-1) true (show x.points ≤ 12000 from by omega) (show x.seriesCount ≤ 256 from by omega) hs) (q0 := 0) rfl rfl w915 w914 w916 w917 w328 rfl rfl ⟨⟨by decide, by decide⟩, rfl⟩ ⟨(Nat.le_of_ble_eq_true rfl), (Nat.le_of_ble_eq_true rfl)⟩ rfl hl.1 rfl (Nat.le_of_ble_eq_true rfl) d_M_flush_53 ⟨(Nat.le_of_ble_eq_true rfl), (Nat.le_of_ble_eq_true rfl)⟩) hP hD hS hA (fun r12 u13 H locs hp9 hP hD hS => ?_)
      have hP : va_P D vwCl (MW dA h ad (MS.s_cod x 0)) H := hP
      have hD : va_D A (MW dA h ad (MS.s_cod x 0)) := hD
      replace hp9 : r12 = lN (x.bA (-1) (-1) true x.seriesCount) := hp9.trans (congrArg lN (bA_ext rfl rfl rfl rfl rfl rfl rfl))
      replace hp9 : lN (x.bA (-1) (-1) true x.seriesCount) = r12 := Eq.symm hp9
      subst hp9
      have hPc := hP.sub (ws' := []) [] rfl
      have hDc := hD.sub (ws' := []) [] (by decide) rfl
      refine jnI (rnS (As := [.long (lN (x.bA (-1) (-1) true x.seriesCount))]) (rest := []) hx hb hml hown hE hK (hN _ _ hS) hPc hDc (k_blocksOf l D dA H.size (lN (x.bA (-1) (-1) true x.seriesCount))) w923 w922 w924 w328 rfl rfl ⟨⟨by decide, by decide⟩, rfl⟩ ⟨(Nat.le_of_ble_eq_true rfl), (Nat.le_of_ble_eq_true rfl)⟩ rfl hl.1 rfl (Nat.le_of_ble_eq_true rfl) d_M_flush_56 ⟨(Nat.le_of_ble_eq_true rfl), (Nat.le_of_ble_eq_true rfl)⟩) hP hD hS hA [] [0, 1, 2, 3, 4, 5, 6, 7, 8, 9, 10, 11, 12, 13, 14, 15, 16, 17, 18, 19, 20, 21, 22, 23, 24, 25, 26, 27, 28, 29, 30, 31, 32, 33, 34, 35, 36, 37, 38] (wr := MW dA h ad (MS.s_cod x 0)) rfl rfl (by decide) (by decide) (fun r14 u9 H locs hp9 hP hD hS => ?_)
      have hP : va_P D vwCl (MW dA h ad (MS.s_cod x 0)) H := hP
      have hD : va_D A (MW dA h ad (MS.s_cod x 0)) := hD
      replace hp9 : (((lN (x.bA (-1) (-1) true x.seriesCount)) + 32255) / 32256).toInt32 = r14 := Eq.symm hp9
      subst hp9
      refine tpi (y := nI ((x.bA (-1) (-1) true x.seriesCount + 32255) / 32256)) (blkI (by have := bA_le x (-1) (-1) true h1 x.seriesCount; omega)) ?_
      refine lv_goto hx hb d_M_flush_59 (tgt := 63) rfl ?_
      exact J63 ((x.bA (-1) (-1) true x.seriesCount + 32255) / 32256) (by unfold MS.manyN; simp [g11] at hpk; simp [hpk]) H _ ls hP hD hS (lv_sub hl [0, 1] rfl)
  have hz9 := cnt_le x.points (fun q => decide (x.places q = -1) && x.seen q)
  have hz9 : x.heads ≤ x.points := hz9
  refine lv_if_le hx hb d_M_flush_36 (tgt := 43) rfl (fun g16 => ?_) (fun g16 => ?_)
  · have g16 := (nI_leI (a := x.heads) (b := 0) (by omega) (by decide)).mp g16
    refine lv_iconst (v := 0) hx hb d_M_flush_43 (by decide) ?_
    exact J44 false (by simp; omega) H _ ls hP hD hS (lv_sub hl [0] rfl)
  · have g16 := mt (nI_leI (a := x.heads) (b := 0) (by omega) (by decide)).mpr g16
    refine lv_iconst (v := 1) hx hb d_M_flush_39 (by decide) ?_
    refine lv_goto hx hb d_M_flush_40 (tgt := 44) rfl ?_
    exact J44 true (by simp; omega) H _ ls hP hD hS (lv_sub hl [0] rfl)
theorem d_M_flush_99 : decode prog_14_method_44_code 99 = .ok (.aload_n 0, 1) := by decide +kernel
theorem d_M_flush_100 : decode prog_14_method_44_code 100 = .ok (.iload_n 2, 1) := by decide +kernel
theorem d_M_flush_101 : decode prog_14_method_44_code 101 = .ok (.iload_n 3, 1) := by decide +kernel
theorem d_M_flush_102 : decode prog_14_method_44_code 102 = .ok (.iadd, 1) := by decide +kernel
theorem d_M_flush_103 : decode prog_14_method_44_code 103 = .ok (.iconst 1, 1) := by decide +kernel
theorem d_M_flush_104 : decode prog_14_method_44_code 104 = .ok (.iadd, 1) := by decide +kernel
theorem d_M_flush_105 : decode prog_14_method_44_code 105 = .ok (.invokevirtual 328, 3) := by decide +kernel
theorem d_M_flush_108 : decode prog_14_method_44_code 108 = .ok (.ifCond .ne 10, 3) := by decide +kernel
theorem d_M_flush_111 : decode prog_14_method_44_code 111 = .ok (.aload_n 0, 1) := by decide +kernel
theorem d_M_flush_112 : decode prog_14_method_44_code 112 = .ok (.iconst 1, 1) := by decide +kernel
theorem d_M_flush_113 : decode prog_14_method_44_code 113 = .ok (.putfield 145, 3) := by decide +kernel
theorem d_M_flush_116 : decode prog_14_method_44_code 116 = .ok (.iconst 0, 1) := by decide +kernel
theorem d_M_flush_117 : decode prog_14_method_44_code 117 = .ok (.ireturn, 1) := by decide +kernel
theorem w925 : Cond.methodLink "SeriesVaultModel" 328 ⟨"SeriesVaultModel", "write", "(I)Z"⟩ ∈ aW := aw_of (tb_10 (List.mem_of_getElem? (i := 101) rfl)) rfl
theorem w926 : Cond.code ⟨"SeriesVaultModel", "write", "(I)Z"⟩ prog_14_method_8_code 4 (some FieldType.boolean) ∈ aW := aw_of (tb_10 (List.mem_of_getElem? (i := 104) rfl)) rfl
theorem w927 : Cond.instanceMethod ⟨"SeriesVaultModel", "write", "(I)Z"⟩ ∈ aW := aw_of (tb_10 (List.mem_of_getElem? (i := 103) rfl)) rfl
theorem w928 : Cond.selects "SeriesVaultModel" ⟨"SeriesVaultModel", "write", "(I)Z"⟩ ⟨"SeriesVaultModel", "write", "(I)Z"⟩ ∈ aW := aw_pr (List.mem_map.mpr ⟨_, pv_6 (List.mem_of_getElem? (i := 10) rfl), rfl⟩) rfl
set_option maxHeartbeats 4000000 in
set_option maxRecDepth 100000 in
theorem k_flush_5 (l : Launch) (D : va_G) (dA : Nat → ClassId) (sz : Nat) (h : Nat) (ad : Nat → Nat) (x : MS) (j : Nat) (ho : x.on = true) (h0 : ¬ x.records = 0) (r1 : x.records ≤ 32000) (h1 : x.points ≤ 12000) (h2 : x.seriesCount ≤ 256) (hs : ∀ q : Nat, q < x.points → x.pointSeries q < 256) (ht : ∀ q : Nat, q < x.seriesCount → x.textLengths q ≤ 304) (f1 : x.parcelCount ≤ 40) (f2 : 2 + x.journal + x.catalogBlocks + sumN x.parcelCount x.parcelBlocks ≤ x.blocks) (f3 : x.blocks ≤ 256) (hn : ¬ (0 < x.heads ∧ x.parcelCount = 32)) (hn2 : x.manyN + x.catN ≤ x.freeN) (hj : j < x.manyN + x.catN + 1) (hc0 : cutN x.cutLeft j = 0) (hz : ∀ i : Nat, i < j → ¬ cutN x.cutLeft i = 0) : Met l ⟨"SeriesVaultModel", "flush", "()I"⟩ [Cond.code ⟨"SeriesVaultModel", "flush", "()I"⟩ prog_14_method_44_code 5 (some FieldType.int)] { frames := 3, cells := 0, slots := 0, locals := 63 } (pC D dA [.ref h] (MW dA h ad x) sz) (va_Qi (fun (r9 : Int32) (u9 : Unit) => r9 = 0) (fun (u9 : Unit) t9 => bW D (va_A (MW dA h ad x) sz) (MW dA h ad (MS.s_written (MS.s_cutLeft (MS.s_on (MS.s_cod x 1) false) (-1)) (x.written + j))) t9) (va_A (MW dA h ad x) sz)) 0 0 (va_A (MW dA h ad x) sz) := by
  refine mkC (y := ⟨"SeriesVaultModel", "flush", "()I"⟩) (cc := prog_14_method_44_code) (maxL := 5) (av := [.ref h]) (ws := MW dA h ad x) (sz := sz) (Qc := fun A => va_Qi (fun (r9 : Int32) (u9 : Unit) => r9 = 0) (fun (u9 : Unit) t9 => bW D A (MW dA h ad (MS.s_written (MS.s_cutLeft (MS.s_on (MS.s_cod x 1) false) (-1)) (x.written + j))) t9) A) (by decide) (Nat.le_of_ble_eq_true rfl) ?_
  intro A p e s m below meth c ls hsz hB
  obtain ⟨hx, hb, hr, hml, hown, hin, hlk, hE, hK, hP, hD, hS, hA, hN, hl⟩ := hB
  have hown : s.vm.findClass "SeriesVaultModel" = some m.cls := hown
  have hl : lv_has ls 5 [(0, .ref h)] := hl
  obtain ⟨H, hH⟩ : ∃ z, z = s.heap := ⟨_, rfl⟩
  have hP : va_P D vwCl (MW dA h ad x) H := by rw [hH]; exact hP
  have hS : va_S A s.heap H [] := by rw [hH]; exact hS
  rw [← hH]
  refine lv_aload_n hx hb d_M_flush_0 rfl (lv_at hl 0 rfl) ?_
  refine lv_aload_n hx hb d_M_flush_1 rfl (lv_at hl 0 rfl) ?_
  refine gF (v := .int (bI x.on)) hx hb hown hE hK hP 0 rfl rfl layM 7 (by decide) w324 rfl d_M_flush_2 ?_
  refine lv_if_eq hx hb d_M_flush_5 (tgt := 12) rfl (fun h9 => absurd h9 (by rw [ho]; decide)) (fun _ => ?_)
  refine lv_iconst (v := 0) hx hb d_M_flush_8 (by decide) ?_
  refine lv_goto hx hb d_M_flush_9 (tgt := 13) rfl ?_
  refine pF (v := .int 0) hx hb hown hE hK hP hD hS 0 rfl rfl layM tyM tokM nmM 0 (by decide) w319 rfl rfl rfl (Nat.le_of_ble_eq_true rfl) d_M_flush_13 (fun H locs hP hD hS => ?_)
  have hP : va_P D vwCl (MW dA h ad (MS.s_cod x 0)) H := hP
  have hD : va_D A (MW dA h ad (MS.s_cod x 0)) := hD
  refine lv_aload_n hx hb d_M_flush_16 rfl (lv_at hl 0 rfl) ?_
  refine gF (v := .int 0) hx hb hown hE hK hP 0 rfl rfl layM 0 (by decide) w319 rfl d_M_flush_17 ?_
  refine lv_if_gt hx hb d_M_flush_20 (tgt := 30) rfl (fun h9 => absurd h9 (by decide)) (fun _ => ?_)
  refine lv_aload_n hx hb d_M_flush_23 rfl (lv_at hl 0 rfl) ?_
  refine gF (v := .int (nI x.records)) hx hb hown hE hK hP 0 rfl rfl layM 37 (by decide) w338 rfl d_M_flush_24 ?_
  refine lv_if_ne hx hb d_M_flush_27 (tgt := 32) rfl (fun _ => ?_) (fun h9 => absurd h9 (mt (nI_eq (a := x.records) (b := 0) (by omega) (by omega)).mp h0))
  refine lv_aload_n hx hb d_M_flush_32 rfl (lv_at hl 0 rfl) ?_
  refine jfI (rnV (As := []) (rest := []) hx hb hml hown hE hK (hN _ _ hS) hP hD (k_headCount l D dA H.size h ad (MS.s_cod x 0) (show x.points ≤ 12000 from by omega)) (q0 := 0) rfl rfl w439 w438 w440 w441 w328 rfl rfl ⟨⟨by decide, by decide⟩, rfl⟩ ⟨(Nat.le_of_ble_eq_true rfl), (Nat.le_of_ble_eq_true rfl)⟩ rfl hl.1 rfl (Nat.le_of_ble_eq_true rfl) d_M_flush_33 ⟨(Nat.le_of_ble_eq_true rfl), (Nat.le_of_ble_eq_true rfl)⟩) hP hD hS hA (fun r1 u2 H locs hp9 hP hD hS => ?_)
  have hP : va_P D vwCl (MW dA h ad (MS.s_cod x 0)) H := hP
  have hD : va_D A (MW dA h ad (MS.s_cod x 0)) := hD
  replace hp9 : nI x.heads = r1 := Eq.symm hp9
  subst hp9
  have J44 : ∀ (pk : Bool) (hpk : decide (0 < x.heads) = pk), ∀ (H : Heap) (locs : List Loc) (ls : Array Slot) (hP : va_P D vwCl (MW dA h ad (MS.s_cod x 0)) H) (hD : va_D A (MW dA h ad (MS.s_cod x 0))) (hS : va_S A s.heap H locs) (hl : lv_has ls 5 [(0, .ref h)]), W p l e ({ frames := 3, cells := 0, slots := 0, locals := 63 } : Room) s m ([.ref h] : List Value).toArray below meth c H locs 0 0 (MQ below (va_Qi (fun (r9 : Int32) (u9 : Unit) => r9 = 0) (fun (u9 : Unit) t9 => bW D A (MW dA h ad (MS.s_written (MS.s_cutLeft (MS.s_on (MS.s_cod x 1) false) (-1)) (x.written + j))) t9) A) ([.ref h] : List Value).toArray s 0 0 A) (F0 m 44 ls [.int (bI pk)]) := by
    intro pk hpk H locs ls hP hD hS hl
    refine lv_istore_n hx hb d_M_flush_44 rfl hl (by decide) rfl (fun ls hl => ?_)
    have hl : lv_has ls 5 [(1, .int (bI pk)), (0, .ref h)] := hl
    have J63 : ∀ (v : Nat) (hv : x.manyN = v), ∀ (H : Heap) (locs : List Loc) (ls : Array Slot) (hP : va_P D vwCl (MW dA h ad (MS.s_cod x 0)) H) (hD : va_D A (MW dA h ad (MS.s_cod x 0))) (hS : va_S A s.heap H locs) (hl : lv_has ls 5 [(1, .int (bI pk)), (0, .ref h)]), W p l e ({ frames := 3, cells := 0, slots := 0, locals := 63 } : Room) s m ([.ref h] : List Value).toArray below meth c H locs 0 0 (MQ below (va_Qi (fun (r9 : Int32) (u9 : Unit) => r9 = 0) (fun (u9 : Unit) t9 => bW D A (MW dA h ad (MS.s_written (MS.s_cutLeft (MS.s_on (MS.s_cod x 1) false) (-1)) (x.written + j))) t9) A) ([.ref h] : List Value).toArray s 0 0 A) (F0 m 63 ls [.int (nI v)]) := by
      intro v hv H locs ls hP hD hS hl
      have hv5 := manyN_le (x := x) h1 h2
      have hc5 := catN_le (x := x) h2
      refine lv_istore_n hx hb d_M_flush_63 rfl hl (by decide) rfl (fun ls hl => ?_)
      have hl : lv_has ls 5 [(2, .int (nI v)), (1, .int (bI pk)), (0, .ref h)] := hl
      refine lv_aload_n hx hb d_M_flush_64 rfl (lv_at hl 2 rfl) ?_
      refine jfI (rnV (As := []) (rest := []) hx hb hml hown hE hK (hN _ _ hS) hP hD (k_catalogSize l D dA H.size h ad (MS.s_cod x 0) (show x.seriesCount ≤ 256 from by omega) ht) (q0 := 0) rfl rfl w919 w918 w920 w921 w328 rfl rfl ⟨⟨by decide, by decide⟩, rfl⟩ ⟨(Nat.le_of_ble_eq_true rfl), (Nat.le_of_ble_eq_true rfl)⟩ rfl hl.1 rfl (Nat.le_of_ble_eq_true rfl) d_M_flush_65 ⟨(Nat.le_of_ble_eq_true rfl), (Nat.le_of_ble_eq_true rfl)⟩) hP hD hS hA (fun r3 u4 H locs hp9 hP hD hS => ?_)
      have hP : va_P D vwCl (MW dA h ad (MS.s_cod x 0)) H := hP
      have hD : va_D A (MW dA h ad (MS.s_cod x 0)) := hD
      replace hp9 : nI x.catN = r3 := Eq.symm hp9
      subst hp9
      refine lv_istore_n hx hb d_M_flush_68 rfl hl (by decide) rfl (fun ls hl => ?_)
      have hl : lv_has ls 5 [(3, .int (nI x.catN)), (2, .int (nI v)), (1, .int (bI pk)), (0, .ref h)] := hl
      refine lv_iload_n hx hb d_M_flush_69 rfl (lv_at hl 2 rfl) ?_
      refine lv_if_eq hx hb d_M_flush_70 (tgt := 82) rfl (fun g5 => ?_) (fun g5 => ?_)
      · have g5 := bI_0 g5
        refine lv_iload_n hx hb d_M_flush_82 rfl (lv_at hl 1 rfl) ?_
        refine lv_iload_n hx hb d_M_flush_83 rfl (lv_at hl 0 rfl) ?_
        refine lv_iadd hx hb d_M_flush_84 (tpi (y := nI (v + x.catN)) (nI_add (v) (x.catN)) ?_)
        refine lv_aload_n hx hb d_M_flush_85 rfl (lv_at hl 3 rfl) ?_
        refine jfI (rnV (As := []) (rest := [.int (nI (v + x.catN))]) hx hb hml hown hE hK (hN _ _ hS) hP hD (k_free l D dA H.size h ad (MS.s_cod x 0) (show x.parcelCount ≤ 40 from by omega) (show 2 + x.journal + x.catalogBlocks + sumN x.parcelCount x.parcelBlocks ≤ x.blocks from by omega) (show x.blocks ≤ 256 from by omega)) (q0 := 0) rfl rfl w447 w446 w448 w449 w328 rfl rfl ⟨⟨by decide, by decide⟩, rfl⟩ ⟨(Nat.le_of_ble_eq_true rfl), (Nat.le_of_ble_eq_true rfl)⟩ rfl hl.1 rfl (Nat.le_of_ble_eq_true rfl) d_M_flush_86 ⟨(Nat.le_of_ble_eq_true rfl), (Nat.le_of_ble_eq_true rfl)⟩) hP hD hS hA (fun r6 u7 H locs hp9 hP hD hS => ?_)
        have hP : va_P D vwCl (MW dA h ad (MS.s_cod x 0)) H := hP
        have hD : va_D A (MW dA h ad (MS.s_cod x 0)) := hD
        replace hp9 : nI x.freeN = r6 := Eq.symm hp9
        subst hp9
        have hf5 : x.freeN ≤ 256 := by unfold MS.freeN; omega
        refine lv_icmp_le hx hb d_M_flush_89 (tgt := 99) rfl (fun _ => ?_) (fun h9 => absurd ((nI_leI (a := v + x.catN) (b := x.freeN) (by omega) (by omega)).mpr (by omega)) h9)
        refine lv_aload_n hx hb d_M_flush_99 rfl (lv_at hl 3 rfl) ?_
        refine lv_iload_n hx hb d_M_flush_100 rfl (lv_at hl 1 rfl) ?_
        refine lv_iload_n hx hb d_M_flush_101 rfl (lv_at hl 0 rfl) ?_
        refine lv_iadd hx hb d_M_flush_102 (tpi (y := nI (v + x.catN)) (nI_add (v) (x.catN)) ?_)
        refine lv_iconst (v := 1) hx hb d_M_flush_103 (by decide) ?_
        refine lv_iadd hx hb d_M_flush_104 (tpi (y := nI (v + x.catN + 1)) (nI_add (v + x.catN) (1)) ?_)
        refine jfI (rnV (As := [.int (nI (v + x.catN + 1))]) (rest := []) hx hb hml hown hE hK (hN _ _ hS) hP hD (k_write_nx l D dA H.size h ad (MS.s_cod x 0) (v + x.catN + 1) j (show (v + x.catN + 1) < 2 ^ 31 from by omega) (show j < (v + x.catN + 1) from by omega) hc0 hz) (q0 := 0) rfl rfl w926 w925 w927 w928 w328 rfl rfl ⟨⟨by decide, by decide⟩, rfl⟩ ⟨(Nat.le_of_ble_eq_true rfl), (Nat.le_of_ble_eq_true rfl)⟩ rfl hl.1 rfl (Nat.le_of_ble_eq_true rfl) d_M_flush_105 ⟨(Nat.le_of_ble_eq_true rfl), (Nat.le_of_ble_eq_true rfl)⟩) hP hD hS hA (fun r8 u9 H locs hp9 hP hD hS => ?_)
        have hP : va_P D vwCl (MW dA h ad (MS.s_written (MS.s_cutLeft (MS.s_on (MS.s_cod x 0) false) (-1)) (x.written + j))) H := hP
        have hD : va_D A (MW dA h ad (MS.s_written (MS.s_cutLeft (MS.s_on (MS.s_cod x 0) false) (-1)) (x.written + j))) := hD
        replace hp9 : bI false = r8 := Eq.symm hp9
        subst hp9
        refine lv_if_ne hx hb d_M_flush_108 (tgt := 118) rfl (fun h9 => absurd (by decide) h9) (fun _ => ?_)
        refine lv_aload_n hx hb d_M_flush_111 rfl (lv_at hl 3 rfl) ?_
        refine lv_iconst (v := 1) hx hb d_M_flush_112 (by decide) ?_
        refine pF (v := .int 1) hx hb hown hE hK hP hD hS 0 rfl rfl layM tyM tokM nmM 0 (by decide) w319 rfl rfl rfl (Nat.le_of_ble_eq_true rfl) d_M_flush_113 (fun H locs hP hD hS => ?_)
        have hP : va_P D vwCl (MW dA h ad (MS.s_written (MS.s_cutLeft (MS.s_on (MS.s_cod x 1) false) (-1)) (x.written + j))) H := hP
        have hD : va_D A (MW dA h ad (MS.s_written (MS.s_cutLeft (MS.s_on (MS.s_cod x 1) false) (-1)) (x.written + j))) := hD
        refine lv_iconst (v := 0) hx hb d_M_flush_116 (by decide) ?_
        exact rfI hx hb hr hlk hS () rfl hP hD (Nat.le_of_ble_eq_true rfl) (Nat.le_of_ble_eq_true rfl) d_M_flush_117
      · have g5 := bI_n0 g5
        refine lv_aload_n hx hb d_M_flush_73 rfl (lv_at hl 3 rfl) ?_
        refine gF (v := .int (nI x.parcelCount)) hx hb hown hE hK hP 0 rfl rfl layM 28 (by decide) w344 rfl d_M_flush_74 ?_
        refine lv_bipush (v := 32) hx hb d_M_flush_77 (by decide) ?_
        have hh5 : 0 < x.heads := of_decide_eq_true (hpk.trans g5)
        have hn5 : ¬ x.parcelCount = 32 := fun z => hn ⟨hh5, z⟩
        refine lv_icmp_eq hx hb d_M_flush_79 (tgt := 92) rfl (fun g10 => ?_) (fun g10 => ?_)
        · have g10 := (nI_eq (a := x.parcelCount) (b := 32) (by omega) (by omega)).mp g10; exfalso; omega
        have g10 := mt (nI_eq (a := x.parcelCount) (b := 32) (by omega) (by omega)).mpr g10
        refine lv_iload_n hx hb d_M_flush_82 rfl (lv_at hl 1 rfl) ?_
        refine lv_iload_n hx hb d_M_flush_83 rfl (lv_at hl 0 rfl) ?_
        refine lv_iadd hx hb d_M_flush_84 (tpi (y := nI (v + x.catN)) (nI_add (v) (x.catN)) ?_)
        refine lv_aload_n hx hb d_M_flush_85 rfl (lv_at hl 3 rfl) ?_
        refine jfI (rnV (As := []) (rest := [.int (nI (v + x.catN))]) hx hb hml hown hE hK (hN _ _ hS) hP hD (k_free l D dA H.size h ad (MS.s_cod x 0) (show x.parcelCount ≤ 40 from by omega) (show 2 + x.journal + x.catalogBlocks + sumN x.parcelCount x.parcelBlocks ≤ x.blocks from by omega) (show x.blocks ≤ 256 from by omega)) (q0 := 0) rfl rfl w447 w446 w448 w449 w328 rfl rfl ⟨⟨by decide, by decide⟩, rfl⟩ ⟨(Nat.le_of_ble_eq_true rfl), (Nat.le_of_ble_eq_true rfl)⟩ rfl hl.1 rfl (Nat.le_of_ble_eq_true rfl) d_M_flush_86 ⟨(Nat.le_of_ble_eq_true rfl), (Nat.le_of_ble_eq_true rfl)⟩) hP hD hS hA (fun r11 u12 H locs hp9 hP hD hS => ?_)
        have hP : va_P D vwCl (MW dA h ad (MS.s_cod x 0)) H := hP
        have hD : va_D A (MW dA h ad (MS.s_cod x 0)) := hD
        replace hp9 : nI x.freeN = r11 := Eq.symm hp9
        subst hp9
        have hf5 : x.freeN ≤ 256 := by unfold MS.freeN; omega
        refine lv_icmp_le hx hb d_M_flush_89 (tgt := 99) rfl (fun _ => ?_) (fun h9 => absurd ((nI_leI (a := v + x.catN) (b := x.freeN) (by omega) (by omega)).mpr (by omega)) h9)
        refine lv_aload_n hx hb d_M_flush_99 rfl (lv_at hl 3 rfl) ?_
        refine lv_iload_n hx hb d_M_flush_100 rfl (lv_at hl 1 rfl) ?_
        refine lv_iload_n hx hb d_M_flush_101 rfl (lv_at hl 0 rfl) ?_
        refine lv_iadd hx hb d_M_flush_102 (tpi (y := nI (v + x.catN)) (nI_add (v) (x.catN)) ?_)
        refine lv_iconst (v := 1) hx hb d_M_flush_103 (by decide) ?_
        refine lv_iadd hx hb d_M_flush_104 (tpi (y := nI (v + x.catN + 1)) (nI_add (v + x.catN) (1)) ?_)
        refine jfI (rnV (As := [.int (nI (v + x.catN + 1))]) (rest := []) hx hb hml hown hE hK (hN _ _ hS) hP hD (k_write_nx l D dA H.size h ad (MS.s_cod x 0) (v + x.catN + 1) j (show (v + x.catN + 1) < 2 ^ 31 from by omega) (show j < (v + x.catN + 1) from by omega) hc0 hz) (q0 := 0) rfl rfl w926 w925 w927 w928 w328 rfl rfl ⟨⟨by decide, by decide⟩, rfl⟩ ⟨(Nat.le_of_ble_eq_true rfl), (Nat.le_of_ble_eq_true rfl)⟩ rfl hl.1 rfl (Nat.le_of_ble_eq_true rfl) d_M_flush_105 ⟨(Nat.le_of_ble_eq_true rfl), (Nat.le_of_ble_eq_true rfl)⟩) hP hD hS hA (fun r13 u14 H locs hp9 hP hD hS => ?_)
        have hP : va_P D vwCl (MW dA h ad (MS.s_written (MS.s_cutLeft (MS.s_on (MS.s_cod x 0) false) (-1)) (x.written + j))) H := hP
        have hD : va_D A (MW dA h ad (MS.s_written (MS.s_cutLeft (MS.s_on (MS.s_cod x 0) false) (-1)) (x.written + j))) := hD
        replace hp9 : bI false = r13 := Eq.symm hp9
        subst hp9
        refine lv_if_ne hx hb d_M_flush_108 (tgt := 118) rfl (fun h9 => absurd (by decide) h9) (fun _ => ?_)
        refine lv_aload_n hx hb d_M_flush_111 rfl (lv_at hl 3 rfl) ?_
        refine lv_iconst (v := 1) hx hb d_M_flush_112 (by decide) ?_
        refine pF (v := .int 1) hx hb hown hE hK hP hD hS 0 rfl rfl layM tyM tokM nmM 0 (by decide) w319 rfl rfl rfl (Nat.le_of_ble_eq_true rfl) d_M_flush_113 (fun H locs hP hD hS => ?_)
        have hP : va_P D vwCl (MW dA h ad (MS.s_written (MS.s_cutLeft (MS.s_on (MS.s_cod x 1) false) (-1)) (x.written + j))) H := hP
        have hD : va_D A (MW dA h ad (MS.s_written (MS.s_cutLeft (MS.s_on (MS.s_cod x 1) false) (-1)) (x.written + j))) := hD
        refine lv_iconst (v := 0) hx hb d_M_flush_116 (by decide) ?_
        exact rfI hx hb hr hlk hS () rfl hP hD (Nat.le_of_ble_eq_true rfl) (Nat.le_of_ble_eq_true rfl) d_M_flush_117
    refine lv_iload_n hx hb d_M_flush_45 rfl (lv_at hl 0 rfl) ?_
    refine lv_if_eq hx hb d_M_flush_46 (tgt := 62) rfl (fun g15 => ?_) (fun g15 => ?_)
    · have g15 := bI_0 g15
      refine lv_iconst (v := 0) hx hb d_M_flush_62 (by decide) ?_
      exact J63 0 (by unfold MS.manyN; simp [g15] at hpk; simp [hpk]) H _ ls hP hD hS (lv_sub hl [0, 1] rfl)
    · have g15 := bI_n0 g15
      refine lv_aload_n hx hb d_M_flush_49 rfl (lv_at hl 1 rfl) ?_
      refine lv_iconst (v := (-1)) hx hb d_M_flush_50 (by decide) ?_
      refine lv_iconst (v := (-1)) hx hb d_M_flush_51 (by decide) ?_
      refine lv_iconst (v := 1) hx hb d_M_flush_52 (by decide) ?_
      refine jfL (rnV (As := [.int (-1), .int (-1), .int 1]) (rest := []) hx hb hml hown hE hK (hN _ _ hS) hP hD (k_bitsOf l D dA H.size h ad (MS.s_cod x 0) (-1) (-1) true (show x.points ≤ 12000 from by omega) (show x.seriesCount ≤ 256 from by omega) hs) (q0 := 0) rfl rfl w915 w914 w916 w917 w328 rfl rfl ⟨⟨by decide, by decide⟩, rfl⟩ ⟨(Nat.le_of_ble_eq_true rfl), (Nat.le_of_ble_eq_true rfl)⟩ rfl hl.1 rfl (Nat.le_of_ble_eq_true rfl) d_M_flush_53 ⟨(Nat.le_of_ble_eq_true rfl), (Nat.le_of_ble_eq_true rfl)⟩) hP hD hS hA (fun r16 u17 H locs hp9 hP hD hS => ?_)
      have hP : va_P D vwCl (MW dA h ad (MS.s_cod x 0)) H := hP
      have hD : va_D A (MW dA h ad (MS.s_cod x 0)) := hD
      replace hp9 : r16 = lN (x.bA (-1) (-1) true x.seriesCount) := hp9.trans (congrArg lN (bA_ext rfl rfl rfl rfl rfl rfl rfl))
      replace hp9 : lN (x.bA (-1) (-1) true x.seriesCount) = r16 := Eq.symm hp9
      subst hp9
      have hPc := hP.sub (ws' := []) [] rfl
      have hDc := hD.sub (ws' := []) [] (by decide) rfl
      refine jnI (rnS (As := [.long (lN (x.bA (-1) (-1) true x.seriesCount))]) (rest := []) hx hb hml hown hE hK (hN _ _ hS) hPc hDc (k_blocksOf l D dA H.size (lN (x.bA (-1) (-1) true x.seriesCount))) w923 w922 w924 w328 rfl rfl ⟨⟨by decide, by decide⟩, rfl⟩ ⟨(Nat.le_of_ble_eq_true rfl), (Nat.le_of_ble_eq_true rfl)⟩ rfl hl.1 rfl (Nat.le_of_ble_eq_true rfl) d_M_flush_56 ⟨(Nat.le_of_ble_eq_true rfl), (Nat.le_of_ble_eq_true rfl)⟩) hP hD hS hA [] [0, 1, 2, 3, 4, 5, 6, 7, 8, 9, 10, 11, 12, 13, 14, 15, 16, 17, 18, 19, 20, 21, 22, 23, 24, 25, 26, 27, 28, 29, 30, 31, 32, 33, 34, 35, 36, 37, 38] (wr := MW dA h ad (MS.s_cod x 0)) rfl rfl (by decide) (by decide) (fun r18 u9 H locs hp9 hP hD hS => ?_)
      have hP : va_P D vwCl (MW dA h ad (MS.s_cod x 0)) H := hP
      have hD : va_D A (MW dA h ad (MS.s_cod x 0)) := hD
      replace hp9 : (((lN (x.bA (-1) (-1) true x.seriesCount)) + 32255) / 32256).toInt32 = r18 := Eq.symm hp9
      subst hp9
      refine tpi (y := nI ((x.bA (-1) (-1) true x.seriesCount + 32255) / 32256)) (blkI (by have := bA_le x (-1) (-1) true h1 x.seriesCount; omega)) ?_
      refine lv_goto hx hb d_M_flush_59 (tgt := 63) rfl ?_
      exact J63 ((x.bA (-1) (-1) true x.seriesCount + 32255) / 32256) (by unfold MS.manyN; simp [g15] at hpk; simp [hpk]) H _ ls hP hD hS (lv_sub hl [0, 1] rfl)
  have hz9 := cnt_le x.points (fun q => decide (x.places q = -1) && x.seen q)
  have hz9 : x.heads ≤ x.points := hz9
  refine lv_if_le hx hb d_M_flush_36 (tgt := 43) rfl (fun g20 => ?_) (fun g20 => ?_)
  · have g20 := (nI_leI (a := x.heads) (b := 0) (by omega) (by decide)).mp g20
    refine lv_iconst (v := 0) hx hb d_M_flush_43 (by decide) ?_
    exact J44 false (by simp; omega) H _ ls hP hD hS (lv_sub hl [0] rfl)
  · have g20 := mt (nI_leI (a := x.heads) (b := 0) (by omega) (by decide)).mpr g20
    refine lv_iconst (v := 1) hx hb d_M_flush_39 (by decide) ?_
    refine lv_goto hx hb d_M_flush_40 (tgt := 44) rfl ?_
    exact J44 true (by simp; omega) H _ ls hP hD hS (lv_sub hl [0] rfl)
theorem d_M_flush_246 : decode prog_14_method_44_code 246 = .ok (.iconst 0, 1) := by decide +kernel
theorem d_M_flush_247 : decode prog_14_method_44_code 247 = .ok (.istore 4, 2) := by decide +kernel
theorem d_M_flush_249 : decode prog_14_method_44_code 249 = .ok (.iload 4, 2) := by decide +kernel
theorem d_M_flush_251 : decode prog_14_method_44_code 251 = .ok (.aload_n 0, 1) := by decide +kernel
theorem d_M_flush_252 : decode prog_14_method_44_code 252 = .ok (.getfield 160, 3) := by decide +kernel
theorem d_M_flush_255 : decode prog_14_method_44_code 255 = .ok (.if_icmp .ge 23, 3) := by decide +kernel
theorem d_M_flush_278 : decode prog_14_method_44_code 278 = .ok (.aload_n 0, 1) := by decide +kernel
theorem d_M_flush_279 : decode prog_14_method_44_code 279 = .ok (.invokevirtual 336, 3) := by decide +kernel
theorem d_M_flush_282 : decode prog_14_method_44_code 282 = .ok (.aload_n 0, 1) := by decide +kernel
theorem d_M_flush_283 : decode prog_14_method_44_code 283 = .ok (.iconst 0, 1) := by decide +kernel
theorem d_M_flush_284 : decode prog_14_method_44_code 284 = .ok (.putfield 182, 3) := by decide +kernel
theorem d_M_flush_287 : decode prog_14_method_44_code 287 = .ok (.aload_n 0, 1) := by decide +kernel
theorem d_M_flush_288 : decode prog_14_method_44_code 288 = .ok (.iconst 0, 1) := by decide +kernel
theorem d_M_flush_289 : decode prog_14_method_44_code 289 = .ok (.putfield 185, 3) := by decide +kernel
theorem d_M_flush_292 : decode prog_14_method_44_code 292 = .ok (.aload_n 0, 1) := by decide +kernel
theorem d_M_flush_293 : decode prog_14_method_44_code 293 = .ok (.iconst 0, 1) := by decide +kernel
theorem d_M_flush_294 : decode prog_14_method_44_code 294 = .ok (.putfield 188, 3) := by decide +kernel
theorem d_M_flush_297 : decode prog_14_method_44_code 297 = .ok (.aload_n 0, 1) := by decide +kernel
theorem d_M_flush_298 : decode prog_14_method_44_code 298 = .ok (.iconst 0, 1) := by decide +kernel
theorem d_M_flush_299 : decode prog_14_method_44_code 299 = .ok (.putfield 191, 3) := by decide +kernel
theorem d_M_flush_302 : decode prog_14_method_44_code 302 = .ok (.aload_n 0, 1) := by decide +kernel
theorem d_M_flush_303 : decode prog_14_method_44_code 303 = .ok (.iconst 0, 1) := by decide +kernel
theorem d_M_flush_304 : decode prog_14_method_44_code 304 = .ok (.putfield 194, 3) := by decide +kernel
theorem d_M_flush_307 : decode prog_14_method_44_code 307 = .ok (.iload_n 2, 1) := by decide +kernel
theorem d_M_flush_308 : decode prog_14_method_44_code 308 = .ok (.iload_n 3, 1) := by decide +kernel
theorem d_M_flush_309 : decode prog_14_method_44_code 309 = .ok (.iadd, 1) := by decide +kernel
theorem d_M_flush_310 : decode prog_14_method_44_code 310 = .ok (.iconst 1, 1) := by decide +kernel
theorem d_M_flush_311 : decode prog_14_method_44_code 311 = .ok (.iadd, 1) := by decide +kernel
theorem d_M_flush_312 : decode prog_14_method_44_code 312 = .ok (.ireturn, 1) := by decide +kernel
theorem d_M_flush_258 : decode prog_14_method_44_code 258 = .ok (.aload_n 0, 1) := by decide +kernel
theorem d_M_flush_259 : decode prog_14_method_44_code 259 = .ok (.getfield 40, 3) := by decide +kernel
theorem d_M_flush_262 : decode prog_14_method_44_code 262 = .ok (.iload 4, 2) := by decide +kernel
theorem d_M_flush_264 : decode prog_14_method_44_code 264 = .ok (.aload_n 0, 1) := by decide +kernel
theorem d_M_flush_265 : decode prog_14_method_44_code 265 = .ok (.getfield 36, 3) := by decide +kernel
theorem d_M_flush_268 : decode prog_14_method_44_code 268 = .ok (.iload 4, 2) := by decide +kernel
theorem d_M_flush_270 : decode prog_14_method_44_code 270 = .ok (.laload, 1) := by decide +kernel
theorem d_M_flush_271 : decode prog_14_method_44_code 271 = .ok (.lastore, 1) := by decide +kernel
theorem d_M_flush_272 : decode prog_14_method_44_code 272 = .ok (.iinc 4 1, 3) := by decide +kernel
theorem d_M_flush_275 : decode prog_14_method_44_code 275 = .ok (.goto (-26), 3) := by decide +kernel
theorem d_M_flush_229 : decode prog_14_method_44_code 229 = .ok (.aload_n 0, 1) := by decide +kernel
theorem d_M_flush_230 : decode prog_14_method_44_code 230 = .ok (.invokevirtual 333, 3) := by decide +kernel
theorem d_M_flush_233 : decode prog_14_method_44_code 233 = .ok (.aload_n 0, 1) := by decide +kernel
theorem d_M_flush_234 : decode prog_14_method_44_code 234 = .ok (.iload_n 3, 1) := by decide +kernel
theorem d_M_flush_235 : decode prog_14_method_44_code 235 = .ok (.putfield 166, 3) := by decide +kernel
theorem d_M_flush_238 : decode prog_14_method_44_code 238 = .ok (.aload_n 0, 1) := by decide +kernel
theorem d_M_flush_239 : decode prog_14_method_44_code 239 = .ok (.aload_n 0, 1) := by decide +kernel
theorem d_M_flush_240 : decode prog_14_method_44_code 240 = .ok (.getfield 160, 3) := by decide +kernel
theorem d_M_flush_243 : decode prog_14_method_44_code 243 = .ok (.putfield 163, 3) := by decide +kernel
theorem d_M_flush_182 : decode prog_14_method_44_code 182 = .ok (.iload_n 1, 1) := by decide +kernel
theorem d_M_flush_183 : decode prog_14_method_44_code 183 = .ok (.ifCond .eq 46, 3) := by decide +kernel
theorem d_M_flush_118 : decode prog_14_method_44_code 118 = .ok (.iconst 0, 1) := by decide +kernel
theorem d_M_flush_119 : decode prog_14_method_44_code 119 = .ok (.istore 4, 2) := by decide +kernel
theorem d_M_flush_121 : decode prog_14_method_44_code 121 = .ok (.iload 4, 2) := by decide +kernel
theorem d_M_flush_123 : decode prog_14_method_44_code 123 = .ok (.aload_n 0, 1) := by decide +kernel
theorem d_M_flush_124 : decode prog_14_method_44_code 124 = .ok (.getfield 169, 3) := by decide +kernel
theorem d_M_flush_127 : decode prog_14_method_44_code 127 = .ok (.if_icmp .ge 55, 3) := by decide +kernel
theorem d_M_flush_130 : decode prog_14_method_44_code 130 = .ok (.aload_n 0, 1) := by decide +kernel
theorem d_M_flush_131 : decode prog_14_method_44_code 131 = .ok (.getfield 52, 3) := by decide +kernel
theorem d_M_flush_134 : decode prog_14_method_44_code 134 = .ok (.iload 4, 2) := by decide +kernel
theorem d_M_flush_136 : decode prog_14_method_44_code 136 = .ok (.aload_n 0, 1) := by decide +kernel
theorem d_M_flush_137 : decode prog_14_method_44_code 137 = .ok (.getfield 52, 3) := by decide +kernel
theorem d_M_flush_140 : decode prog_14_method_44_code 140 = .ok (.iload 4, 2) := by decide +kernel
theorem d_M_flush_142 : decode prog_14_method_44_code 142 = .ok (.iaload, 1) := by decide +kernel
theorem d_M_flush_143 : decode prog_14_method_44_code 143 = .ok (.iconst (-1), 1) := by decide +kernel
theorem d_M_flush_144 : decode prog_14_method_44_code 144 = .ok (.if_icmp .ne 24, 3) := by decide +kernel
theorem d_M_flush_168 : decode prog_14_method_44_code 168 = .ok (.aload_n 0, 1) := by decide +kernel
theorem d_M_flush_169 : decode prog_14_method_44_code 169 = .ok (.getfield 52, 3) := by decide +kernel
theorem d_M_flush_172 : decode prog_14_method_44_code 172 = .ok (.iload 4, 2) := by decide +kernel
theorem d_M_flush_174 : decode prog_14_method_44_code 174 = .ok (.iaload, 1) := by decide +kernel
theorem d_M_flush_175 : decode prog_14_method_44_code 175 = .ok (.iastore, 1) := by decide +kernel
theorem d_M_flush_176 : decode prog_14_method_44_code 176 = .ok (.iinc 4 1, 3) := by decide +kernel
theorem d_M_flush_179 : decode prog_14_method_44_code 179 = .ok (.goto (-58), 3) := by decide +kernel
theorem d_M_flush_147 : decode prog_14_method_44_code 147 = .ok (.aload_n 0, 1) := by decide +kernel
theorem d_M_flush_148 : decode prog_14_method_44_code 148 = .ok (.iload 4, 2) := by decide +kernel
theorem d_M_flush_150 : decode prog_14_method_44_code 150 = .ok (.invokevirtual 207, 3) := by decide +kernel
theorem d_M_flush_153 : decode prog_14_method_44_code 153 = .ok (.ifCond .eq 10, 3) := by decide +kernel
theorem d_M_flush_163 : decode prog_14_method_44_code 163 = .ok (.bipush (-2), 2) := by decide +kernel
theorem d_M_flush_165 : decode prog_14_method_44_code 165 = .ok (.goto 10, 3) := by decide +kernel
theorem d_M_flush_156 : decode prog_14_method_44_code 156 = .ok (.aload_n 0, 1) := by decide +kernel
theorem d_M_flush_157 : decode prog_14_method_44_code 157 = .ok (.getfield 330, 3) := by decide +kernel
theorem d_M_flush_160 : decode prog_14_method_44_code 160 = .ok (.goto 15, 3) := by decide +kernel
theorem d_M_flush_186 : decode prog_14_method_44_code 186 = .ok (.aload_n 0, 1) := by decide +kernel
theorem d_M_flush_187 : decode prog_14_method_44_code 187 = .ok (.getfield 61, 3) := by decide +kernel
theorem d_M_flush_190 : decode prog_14_method_44_code 190 = .ok (.aload_n 0, 1) := by decide +kernel
theorem d_M_flush_191 : decode prog_14_method_44_code 191 = .ok (.getfield 179, 3) := by decide +kernel
theorem d_M_flush_194 : decode prog_14_method_44_code 194 = .ok (.aload_n 0, 1) := by decide +kernel
theorem d_M_flush_195 : decode prog_14_method_44_code 195 = .ok (.getfield 330, 3) := by decide +kernel
theorem d_M_flush_198 : decode prog_14_method_44_code 198 = .ok (.iastore, 1) := by decide +kernel
theorem d_M_flush_199 : decode prog_14_method_44_code 199 = .ok (.aload_n 0, 1) := by decide +kernel
theorem d_M_flush_200 : decode prog_14_method_44_code 200 = .ok (.getfield 64, 3) := by decide +kernel
theorem d_M_flush_203 : decode prog_14_method_44_code 203 = .ok (.aload_n 0, 1) := by decide +kernel
theorem d_M_flush_204 : decode prog_14_method_44_code 204 = .ok (.getfield 179, 3) := by decide +kernel
theorem d_M_flush_207 : decode prog_14_method_44_code 207 = .ok (.iload_n 2, 1) := by decide +kernel
theorem d_M_flush_208 : decode prog_14_method_44_code 208 = .ok (.iastore, 1) := by decide +kernel
theorem d_M_flush_209 : decode prog_14_method_44_code 209 = .ok (.aload_n 0, 1) := by decide +kernel
theorem d_M_flush_210 : decode prog_14_method_44_code 210 = .ok (.dup, 1) := by decide +kernel
theorem d_M_flush_211 : decode prog_14_method_44_code 211 = .ok (.getfield 179, 3) := by decide +kernel
theorem d_M_flush_214 : decode prog_14_method_44_code 214 = .ok (.iconst 1, 1) := by decide +kernel
theorem d_M_flush_215 : decode prog_14_method_44_code 215 = .ok (.iadd, 1) := by decide +kernel
theorem d_M_flush_216 : decode prog_14_method_44_code 216 = .ok (.putfield 179, 3) := by decide +kernel
theorem d_M_flush_219 : decode prog_14_method_44_code 219 = .ok (.aload_n 0, 1) := by decide +kernel
theorem d_M_flush_220 : decode prog_14_method_44_code 220 = .ok (.dup, 1) := by decide +kernel
theorem d_M_flush_221 : decode prog_14_method_44_code 221 = .ok (.getfield 330, 3) := by decide +kernel
theorem d_M_flush_224 : decode prog_14_method_44_code 224 = .ok (.iconst 1, 1) := by decide +kernel
theorem d_M_flush_225 : decode prog_14_method_44_code 225 = .ok (.iadd, 1) := by decide +kernel
theorem d_M_flush_226 : decode prog_14_method_44_code 226 = .ok (.putfield 330, 3) := by decide +kernel
theorem w929 : Cond.fieldLink "SeriesVaultModel" 330 "SeriesVaultModel" "parcelNumber" "I" ∈ aW := aw_of (tb_8 (List.mem_of_getElem? (i := 203) rfl)) rfl
set_option maxHeartbeats 4000000 in
set_option maxRecDepth 100000 in
theorem k_flush_0 (l : Launch) (D : va_G) (dA : Nat → ClassId) (sz : Nat) (h : Nat) (ad : Nat → Nat) (x : MS) (ho : x.on = true) (h0 : ¬ x.records = 0) (r1 : x.records ≤ 32000) (h1 : x.points ≤ 12000) (h2 : x.seriesCount ≤ 256) (hs : ∀ q : Nat, q < x.points → x.pointSeries q < 256) (ht : ∀ q : Nat, q < x.seriesCount → x.textLengths q ≤ 304) (f1 : x.parcelCount ≤ 40) (f2 : 2 + x.journal + x.catalogBlocks + sumN x.parcelCount x.parcelBlocks ≤ x.blocks) (f3 : x.blocks ≤ 256) (hn : ¬ (0 < x.heads ∧ x.parcelCount = 32)) (hn2 : x.manyN + x.catN ≤ x.freeN) (f4 : x.parcelCount ≤ 32) (hz : ∀ i : Nat, i < x.manyN + x.catN + 1 → ¬ cutN x.cutLeft i = 0) : Met l ⟨"SeriesVaultModel", "flush", "()I"⟩ [Cond.code ⟨"SeriesVaultModel", "flush", "()I"⟩ prog_14_method_44_code 5 (some FieldType.int)] { frames := 3, cells := 0, slots := 0, locals := 63 } (pC D dA [.ref h] (MW dA h ad x) sz) (va_Qi (fun (r9 : Int32) (u9 : MS) => r9 = nI (x.manyN + x.catN + 1) ∧ u9 = x.fluS) (fun (u9 : MS) t9 => bW D (va_A (MW dA h ad x) sz) (MW dA h ad u9) t9) (va_A (MW dA h ad x) sz)) 0 0 (va_A (MW dA h ad x) sz) := by
  refine mkC (y := ⟨"SeriesVaultModel", "flush", "()I"⟩) (cc := prog_14_method_44_code) (maxL := 5) (av := [.ref h]) (ws := MW dA h ad x) (sz := sz) (Qc := fun A => va_Qi (fun (r9 : Int32) (u9 : MS) => r9 = nI (x.manyN + x.catN + 1) ∧ u9 = x.fluS) (fun (u9 : MS) t9 => bW D A (MW dA h ad u9) t9) A) (by decide) (Nat.le_of_ble_eq_true rfl) ?_
  intro A p e s m below meth c ls hsz hB
  obtain ⟨hx, hb, hr, hml, hown, hin, hlk, hE, hK, hP, hD, hS, hA, hN, hl⟩ := hB
  have hown : s.vm.findClass "SeriesVaultModel" = some m.cls := hown
  have hl : lv_has ls 5 [(0, .ref h)] := hl
  obtain ⟨H, hH⟩ : ∃ z, z = s.heap := ⟨_, rfl⟩
  have hP : va_P D vwCl (MW dA h ad x) H := by rw [hH]; exact hP
  have hS : va_S A s.heap H [] := by rw [hH]; exact hS
  rw [← hH]
  refine lv_aload_n hx hb d_M_flush_0 rfl (lv_at hl 0 rfl) ?_
  refine lv_aload_n hx hb d_M_flush_1 rfl (lv_at hl 0 rfl) ?_
  refine gF (v := .int (bI x.on)) hx hb hown hE hK hP 0 rfl rfl layM 7 (by decide) w324 rfl d_M_flush_2 ?_
  refine lv_if_eq hx hb d_M_flush_5 (tgt := 12) rfl (fun h9 => absurd h9 (by rw [ho]; decide)) (fun _ => ?_)
  refine lv_iconst (v := 0) hx hb d_M_flush_8 (by decide) ?_
  refine lv_goto hx hb d_M_flush_9 (tgt := 13) rfl ?_
  refine pF (v := .int 0) hx hb hown hE hK hP hD hS 0 rfl rfl layM tyM tokM nmM 0 (by decide) w319 rfl rfl rfl (Nat.le_of_ble_eq_true rfl) d_M_flush_13 (fun H locs hP hD hS => ?_)
  have hP : va_P D vwCl (MW dA h ad (MS.s_cod x 0)) H := hP
  have hD : va_D A (MW dA h ad (MS.s_cod x 0)) := hD
  refine lv_aload_n hx hb d_M_flush_16 rfl (lv_at hl 0 rfl) ?_
  refine gF (v := .int 0) hx hb hown hE hK hP 0 rfl rfl layM 0 (by decide) w319 rfl d_M_flush_17 ?_
  refine lv_if_gt hx hb d_M_flush_20 (tgt := 30) rfl (fun h9 => absurd h9 (by decide)) (fun _ => ?_)
  refine lv_aload_n hx hb d_M_flush_23 rfl (lv_at hl 0 rfl) ?_
  refine gF (v := .int (nI x.records)) hx hb hown hE hK hP 0 rfl rfl layM 37 (by decide) w338 rfl d_M_flush_24 ?_
  refine lv_if_ne hx hb d_M_flush_27 (tgt := 32) rfl (fun _ => ?_) (fun h9 => absurd h9 (mt (nI_eq (a := x.records) (b := 0) (by omega) (by omega)).mp h0))
  refine lv_aload_n hx hb d_M_flush_32 rfl (lv_at hl 0 rfl) ?_
  refine jfI (rnV (As := []) (rest := []) hx hb hml hown hE hK (hN _ _ hS) hP hD (k_headCount l D dA H.size h ad (MS.s_cod x 0) (show x.points ≤ 12000 from by omega)) (q0 := 0) rfl rfl w439 w438 w440 w441 w328 rfl rfl ⟨⟨by decide, by decide⟩, rfl⟩ ⟨(Nat.le_of_ble_eq_true rfl), (Nat.le_of_ble_eq_true rfl)⟩ rfl hl.1 rfl (Nat.le_of_ble_eq_true rfl) d_M_flush_33 ⟨(Nat.le_of_ble_eq_true rfl), (Nat.le_of_ble_eq_true rfl)⟩) hP hD hS hA (fun r1 u2 H locs hp9 hP hD hS => ?_)
  have hP : va_P D vwCl (MW dA h ad (MS.s_cod x 0)) H := hP
  have hD : va_D A (MW dA h ad (MS.s_cod x 0)) := hD
  replace hp9 : nI x.heads = r1 := Eq.symm hp9
  subst hp9
  have J44 : ∀ (pk : Bool) (hpk : decide (0 < x.heads) = pk), ∀ (H : Heap) (locs : List Loc) (ls : Array Slot) (hP : va_P D vwCl (MW dA h ad (MS.s_cod x 0)) H) (hD : va_D A (MW dA h ad (MS.s_cod x 0))) (hS : va_S A s.heap H locs) (hl : lv_has ls 5 [(0, .ref h)]), W p l e ({ frames := 3, cells := 0, slots := 0, locals := 63 } : Room) s m ([.ref h] : List Value).toArray below meth c H locs 0 0 (MQ below (va_Qi (fun (r9 : Int32) (u9 : MS) => r9 = nI (x.manyN + x.catN + 1) ∧ u9 = x.fluS) (fun (u9 : MS) t9 => bW D A (MW dA h ad u9) t9) A) ([.ref h] : List Value).toArray s 0 0 A) (F0 m 44 ls [.int (bI pk)]) := by
    intro pk hpk H locs ls hP hD hS hl
    refine lv_istore_n hx hb d_M_flush_44 rfl hl (by decide) rfl (fun ls hl => ?_)
    have hl : lv_has ls 5 [(1, .int (bI pk)), (0, .ref h)] := hl
    have J63 : ∀ (v : Nat) (hv : x.manyN = v), ∀ (H : Heap) (locs : List Loc) (ls : Array Slot) (hP : va_P D vwCl (MW dA h ad (MS.s_cod x 0)) H) (hD : va_D A (MW dA h ad (MS.s_cod x 0))) (hS : va_S A s.heap H locs) (hl : lv_has ls 5 [(1, .int (bI pk)), (0, .ref h)]), W p l e ({ frames := 3, cells := 0, slots := 0, locals := 63 } : Room) s m ([.ref h] : List Value).toArray below meth c H locs 0 0 (MQ below (va_Qi (fun (r9 : Int32) (u9 : MS) => r9 = nI (x.manyN + x.catN + 1) ∧ u9 = x.fluS) (fun (u9 : MS) t9 => bW D A (MW dA h ad u9) t9) A) ([.ref h] : List Value).toArray s 0 0 A) (F0 m 63 ls [.int (nI v)]) := by
      intro v hv H locs ls hP hD hS hl
      have hv5 := manyN_le (x := x) h1 h2
      have hc5 := catN_le (x := x) h2
      refine lv_istore_n hx hb d_M_flush_63 rfl hl (by decide) rfl (fun ls hl => ?_)
      have hl : lv_has ls 5 [(2, .int (nI v)), (1, .int (bI pk)), (0, .ref h)] := hl
      refine lv_aload_n hx hb d_M_flush_64 rfl (lv_at hl 2 rfl) ?_
      refine jfI (rnV (As := []) (rest := []) hx hb hml hown hE hK (hN _ _ hS) hP hD (k_catalogSize l D dA H.size h ad (MS.s_cod x 0) (show x.seriesCount ≤ 256 from by omega) ht) (q0 := 0) rfl rfl w919 w918 w920 w921 w328 rfl rfl ⟨⟨by decide, by decide⟩, rfl⟩ ⟨(Nat.le_of_ble_eq_true rfl), (Nat.le_of_ble_eq_true rfl)⟩ rfl hl.1 rfl (Nat.le_of_ble_eq_true rfl) d_M_flush_65 ⟨(Nat.le_of_ble_eq_true rfl), (Nat.le_of_ble_eq_true rfl)⟩) hP hD hS hA (fun r3 u4 H locs hp9 hP hD hS => ?_)
      have hP : va_P D vwCl (MW dA h ad (MS.s_cod x 0)) H := hP
      have hD : va_D A (MW dA h ad (MS.s_cod x 0)) := hD
      replace hp9 : nI x.catN = r3 := Eq.symm hp9
      subst hp9
      refine lv_istore_n hx hb d_M_flush_68 rfl hl (by decide) rfl (fun ls hl => ?_)
      have hl : lv_has ls 5 [(3, .int (nI x.catN)), (2, .int (nI v)), (1, .int (bI pk)), (0, .ref h)] := hl
      refine lv_iload_n hx hb d_M_flush_69 rfl (lv_at hl 2 rfl) ?_
      refine lv_if_eq hx hb d_M_flush_70 (tgt := 82) rfl (fun g5 => ?_) (fun g5 => ?_)
      · have g5 := bI_0 g5
        refine lv_iload_n hx hb d_M_flush_82 rfl (lv_at hl 1 rfl) ?_
        refine lv_iload_n hx hb d_M_flush_83 rfl (lv_at hl 0 rfl) ?_
        refine lv_iadd hx hb d_M_flush_84 (tpi (y := nI (v + x.catN)) (nI_add (v) (x.catN)) ?_)
        refine lv_aload_n hx hb d_M_flush_85 rfl (lv_at hl 3 rfl) ?_
        refine jfI (rnV (As := []) (rest := [.int (nI (v + x.catN))]) hx hb hml hown hE hK (hN _ _ hS) hP hD (k_free l D dA H.size h ad (MS.s_cod x 0) (show x.parcelCount ≤ 40 from by omega) (show 2 + x.journal + x.catalogBlocks + sumN x.parcelCount x.parcelBlocks ≤ x.blocks from by omega) (show x.blocks ≤ 256 from by omega)) (q0 := 0) rfl rfl w447 w446 w448 w449 w328 rfl rfl ⟨⟨by decide, by decide⟩, rfl⟩ ⟨(Nat.le_of_ble_eq_true rfl), (Nat.le_of_ble_eq_true rfl)⟩ rfl hl.1 rfl (Nat.le_of_ble_eq_true rfl) d_M_flush_86 ⟨(Nat.le_of_ble_eq_true rfl), (Nat.le_of_ble_eq_true rfl)⟩) hP hD hS hA (fun r6 u7 H locs hp9 hP hD hS => ?_)
        have hP : va_P D vwCl (MW dA h ad (MS.s_cod x 0)) H := hP
        have hD : va_D A (MW dA h ad (MS.s_cod x 0)) := hD
        replace hp9 : nI x.freeN = r6 := Eq.symm hp9
        subst hp9
        have hf5 : x.freeN ≤ 256 := by unfold MS.freeN; omega
        refine lv_icmp_le hx hb d_M_flush_89 (tgt := 99) rfl (fun _ => ?_) (fun h9 => absurd ((nI_leI (a := v + x.catN) (b := x.freeN) (by omega) (by omega)).mpr (by omega)) h9)
        refine lv_aload_n hx hb d_M_flush_99 rfl (lv_at hl 3 rfl) ?_
        refine lv_iload_n hx hb d_M_flush_100 rfl (lv_at hl 1 rfl) ?_
        refine lv_iload_n hx hb d_M_flush_101 rfl (lv_at hl 0 rfl) ?_
        refine lv_iadd hx hb d_M_flush_102 (tpi (y := nI (v + x.catN)) (nI_add (v) (x.catN)) ?_)
        refine lv_iconst (v := 1) hx hb d_M_flush_103 (by decide) ?_
        refine lv_iadd hx hb d_M_flush_104 (tpi (y := nI (v + x.catN + 1)) (nI_add (v + x.catN) (1)) ?_)
        refine jfI (rnV (As := [.int (nI (v + x.catN + 1))]) (rest := []) hx hb hml hown hE hK (hN _ _ hS) hP hD (k_write_n l D dA H.size h ad (MS.s_cod x 0) (v + x.catN + 1) (show (v + x.catN + 1) < 2 ^ 31 from by omega) (by rw [← hv]; exact hz)) (q0 := 0) rfl rfl w926 w925 w927 w928 w328 rfl rfl ⟨⟨by decide, by decide⟩, rfl⟩ ⟨(Nat.le_of_ble_eq_true rfl), (Nat.le_of_ble_eq_true rfl)⟩ rfl hl.1 rfl (Nat.le_of_ble_eq_true rfl) d_M_flush_105 ⟨(Nat.le_of_ble_eq_true rfl), (Nat.le_of_ble_eq_true rfl)⟩) hP hD hS hA (fun r8 u9 H locs hp9 hP hD hS => ?_)
        have hP : va_P D vwCl (MW dA h ad (MS.s_written (MS.s_cutLeft (MS.s_cod x 0) (cutN x.cutLeft (v + x.catN + 1))) (x.written + (v + x.catN + 1)))) H := hP
        have hD : va_D A (MW dA h ad (MS.s_written (MS.s_cutLeft (MS.s_cod x 0) (cutN x.cutLeft (v + x.catN + 1))) (x.written + (v + x.catN + 1)))) := hD
        replace hp9 : bI true = r8 := Eq.symm hp9
        subst hp9
        refine lv_if_ne hx hb d_M_flush_108 (tgt := 118) rfl (fun _ => ?_) (fun h9 => absurd h9 (by decide))
        have J182 : ∀ (y : MS) (ey : y = x.fl1 (v + x.catN + 1)) (y1 : y.points = x.points) (y2 : y.parcelCount = x.parcelCount) (y3 : y.seriesCount = x.seriesCount), ∀ (H : Heap) (locs : List Loc) (ls : Array Slot) (hP : va_P D vwCl (MW dA h ad y) H) (hD : va_D A (MW dA h ad y)) (hS : va_S A s.heap H locs) (hl : lv_has ls 5 [(3, .int (nI x.catN)), (2, .int (nI v)), (1, .int (bI pk)), (0, .ref h)]), W p l e ({ frames := 3, cells := 0, slots := 0, locals := 63 } : Room) s m ([.ref h] : List Value).toArray below meth c H locs 0 0 (MQ below (va_Qi (fun (r9 : Int32) (u9 : MS) => r9 = nI (x.manyN + x.catN + 1) ∧ u9 = x.fluS) (fun (u9 : MS) t9 => bW D A (MW dA h ad u9) t9) A) ([.ref h] : List Value).toArray s 0 0 A) (F0 m 182 ls []) := by
          intro y ey y1 y2 y3 H locs ls hP hD hS hl
          have J229 : ∀ (z : MS) (ez : z = (bif pk then y.fl2 v else y)) (z1 : z.points = x.points) (z3 : z.seriesCount = x.seriesCount), ∀ (H : Heap) (locs : List Loc) (ls : Array Slot) (hP : va_P D vwCl (MW dA h ad z) H) (hD : va_D A (MW dA h ad z)) (hS : va_S A s.heap H locs) (hl : lv_has ls 5 [(3, .int (nI x.catN)), (2, .int (nI v)), (1, .int (bI pk)), (0, .ref h)]), W p l e ({ frames := 3, cells := 0, slots := 0, locals := 63 } : Room) s m ([.ref h] : List Value).toArray below meth c H locs 0 0 (MQ below (va_Qi (fun (r9 : Int32) (u9 : MS) => r9 = nI (x.manyN + x.catN + 1) ∧ u9 = x.fluS) (fun (u9 : MS) t9 => bW D A (MW dA h ad u9) t9) A) ([.ref h] : List Value).toArray s 0 0 A) (F0 m 229 ls []) := by
            intro z ez z1 z3 H locs ls hP hD hS hl
            have J246 : ∀ (r : MS) (er : r = z.fl3 x.catN) (r4 : r.points ≤ 12000) (r3 : r.seriesCount = x.seriesCount), ∀ (H : Heap) (locs : List Loc) (ls : Array Slot) (hP : va_P D vwCl (MW dA h ad r) H) (hD : va_D A (MW dA h ad r)) (hS : va_S A s.heap H locs) (hl : lv_has ls 5 [(3, .int (nI x.catN)), (2, .int (nI v)), (1, .int (bI pk)), (0, .ref h)]), W p l e ({ frames := 3, cells := 0, slots := 0, locals := 63 } : Room) s m ([.ref h] : List Value).toArray below meth c H locs 0 0 (MQ below (va_Qi (fun (r9 : Int32) (u9 : MS) => r9 = nI (x.manyN + x.catN + 1) ∧ u9 = x.fluS) (fun (u9 : MS) t9 => bW D A (MW dA h ad u9) t9) A) ([.ref h] : List Value).toArray s 0 0 A) (F0 m 246 ls []) := by
              intro r er r4 r3 H locs ls hP hD hS hl
              refine lv_iconst (v := 0) hx hb d_M_flush_246 (by decide) ?_
              refine lv_istore hx hb d_M_flush_247 hl (by decide) rfl (fun ls hl => ?_)
              have hl : lv_has ls 5 [(4, .int 0), (3, .int (nI x.catN)), (2, .int (nI v)), (1, .int (bI pk)), (0, .ref h)] := hl
              have L249 : ∀ (k9 : Nat) (k : Nat) (m1 : k ≤ r.seriesCount) (hk9 : r.seriesCount - k = k9), ∀ (H : Heap) (locs : List Loc) (ls : Array Slot) (hP : va_P D vwCl (MW dA h ad (MS.s_baseLasts r (mapT k (fun _ => true) r.lasts r.baseLasts))) H) (hD : va_D A (MW dA h ad (MS.s_baseLasts r (mapT k (fun _ => true) r.lasts r.baseLasts)))) (hS : va_S A s.heap H locs) (hl : lv_has ls 5 [(4, .int (nI k)), (3, .int (nI x.catN)), (2, .int (nI v)), (1, .int (bI pk)), (0, .ref h)]), W p l e ({ frames := 3, cells := 0, slots := 0, locals := 63 } : Room) s m ([.ref h] : List Value).toArray below meth c H locs 0 0 (MQ below (va_Qi (fun (r9 : Int32) (u9 : MS) => r9 = nI (x.manyN + x.catN + 1) ∧ u9 = x.fluS) (fun (u9 : MS) t9 => bW D A (MW dA h ad u9) t9) A) ([.ref h] : List Value).toArray s 0 0 A) (F0 m 249 ls []) := by
                intro k9
                induction k9 using Nat.strongRecOn with
                | ind k9 ih249 =>
                  intro k m1 hk9 H locs ls hP hD hS hl
                  refine lv_iload hx hb d_M_flush_249 (lv_at hl 0 rfl) ?_
                  refine lv_aload_n hx hb d_M_flush_251 rfl (lv_at hl 4 rfl) ?_
                  refine gF (v := .int (nI r.seriesCount)) hx hb hown hE hK hP 0 rfl rfl layM 12 (by decide) w332 rfl d_M_flush_252 ?_
                  refine lv_icmp_ge hx hb d_M_flush_255 (tgt := 278) rfl (fun g10 => ?_) (fun g10 => ?_)
                  · have g10 := (nI_leI (a := r.seriesCount) (b := k) (by omega) (by omega)).mp g10
                    refine lv_aload_n hx hb d_M_flush_278 rfl (lv_at hl 4 rfl) ?_
                    refine jfV (rnV (As := []) (rest := []) hx hb hml hown hE hK (hN _ _ hS) hP hD (k_shown l D dA H.size h ad (MS.s_baseLasts r (mapT k (fun _ => true) r.lasts r.baseLasts)) (show r.points ≤ 12000 from by omega)) (q0 := 0) rfl rfl w460 w459 w461 w462 w328 rfl rfl ⟨⟨by decide, by decide⟩, rfl⟩ ⟨(Nat.le_of_ble_eq_true rfl), (Nat.le_of_ble_eq_true rfl)⟩ rfl hl.1 rfl (Nat.le_of_ble_eq_true rfl) d_M_flush_279 ⟨(Nat.le_of_ble_eq_true rfl), (Nat.le_of_ble_eq_true rfl)⟩) hP hD hS hA (fun u12 H locs hp9 hP hD hS => ?_)
                    have hP : va_P D vwCl (MW dA h ad (MS.s_baseHorizon (MS.s_baseHidden (MS.s_baseLasts r (mapT k (fun _ => true) r.lasts r.baseLasts)) (mapT r.points (fun _ => true) r.hidden r.baseHidden)) r.horizon)) H := hP
                    have hD : va_D A (MW dA h ad (MS.s_baseHorizon (MS.s_baseHidden (MS.s_baseLasts r (mapT k (fun _ => true) r.lasts r.baseLasts)) (mapT r.points (fun _ => true) r.hidden r.baseHidden)) r.horizon)) := hD
                    refine lv_aload_n hx hb d_M_flush_282 rfl (lv_at hl 4 rfl) ?_
                    refine lv_iconst (v := 0) hx hb d_M_flush_283 (by decide) ?_
                    refine pF (v := .int (nI 0)) hx hb hown hE hK hP hD hS 0 rfl rfl layM tyM tokM nmM 37 (by decide) w338 rfl rfl rfl (Nat.le_of_ble_eq_true rfl) d_M_flush_284 (fun H locs hP hD hS => ?_)
                    have hP : va_P D vwCl (MW dA h ad (MS.s_records (MS.s_baseHorizon (MS.s_baseHidden (MS.s_baseLasts r (mapT k (fun _ => true) r.lasts r.baseLasts)) (mapT r.points (fun _ => true) r.hidden r.baseHidden)) r.horizon) 0)) H := hP
                    have hD : va_D A (MW dA h ad (MS.s_records (MS.s_baseHorizon (MS.s_baseHidden (MS.s_baseLasts r (mapT k (fun _ => true) r.lasts r.baseLasts)) (mapT r.points (fun _ => true) r.hidden r.baseHidden)) r.horizon) 0)) := hD
                    refine lv_aload_n hx hb d_M_flush_287 rfl (lv_at hl 4 rfl) ?_
                    refine lv_iconst (v := 0) hx hb d_M_flush_288 (by decide) ?_
                    refine pF (v := .int (nI 0)) hx hb hown hE hK hP hD hS 0 rfl rfl layM tyM tokM nmM 38 (by decide) w339 rfl rfl rfl (Nat.le_of_ble_eq_true rfl) d_M_flush_289 (fun H locs hP hD hS => ?_)
                    have hP : va_P D vwCl (MW dA h ad (MS.s_kept (MS.s_records (MS.s_baseHorizon (MS.s_baseHidden (MS.s_baseLasts r (mapT k (fun _ => true) r.lasts r.baseLasts)) (mapT r.points (fun _ => true) r.hidden r.baseHidden)) r.horizon) 0) 0)) H := hP
                    have hD : va_D A (MW dA h ad (MS.s_kept (MS.s_records (MS.s_baseHorizon (MS.s_baseHidden (MS.s_baseLasts r (mapT k (fun _ => true) r.lasts r.baseLasts)) (mapT r.points (fun _ => true) r.hidden r.baseHidden)) r.horizon) 0) 0)) := hD
                    refine lv_aload_n hx hb d_M_flush_292 rfl (lv_at hl 4 rfl) ?_
                    refine lv_iconst (v := 0) hx hb d_M_flush_293 (by decide) ?_
                    refine pF (v := .int (nI 0)) hx hb hown hE hK hP hD hS 0 rfl rfl layM tyM tokM nmM 39 (by decide) w423 rfl rfl rfl (Nat.le_of_ble_eq_true rfl) d_M_flush_294 (fun H locs hP hD hS => ?_)
                    have hP : va_P D vwCl (MW dA h ad (MS.s_block (MS.s_kept (MS.s_records (MS.s_baseHorizon (MS.s_baseHidden (MS.s_baseLasts r (mapT k (fun _ => true) r.lasts r.baseLasts)) (mapT r.points (fun _ => true) r.hidden r.baseHidden)) r.horizon) 0) 0) 0)) H := hP
                    have hD : va_D A (MW dA h ad (MS.s_block (MS.s_kept (MS.s_records (MS.s_baseHorizon (MS.s_baseHidden (MS.s_baseLasts r (mapT k (fun _ => true) r.lasts r.baseLasts)) (mapT r.points (fun _ => true) r.hidden r.baseHidden)) r.horizon) 0) 0) 0)) := hD
                    refine lv_aload_n hx hb d_M_flush_297 rfl (lv_at hl 4 rfl) ?_
                    refine lv_iconst (v := 0) hx hb d_M_flush_298 (by decide) ?_
                    refine pF (v := .int (nI 0)) hx hb hown hE hK hP hD hS 0 rfl rfl layM tyM tokM nmM 40 (by decide) w424 rfl rfl rfl (Nat.le_of_ble_eq_true rfl) d_M_flush_299 (fun H locs hP hD hS => ?_)
                    have hP : va_P D vwCl (MW dA h ad (MS.s_used (MS.s_block (MS.s_kept (MS.s_records (MS.s_baseHorizon (MS.s_baseHidden (MS.s_baseLasts r (mapT k (fun _ => true) r.lasts r.baseLasts)) (mapT r.points (fun _ => true) r.hidden r.baseHidden)) r.horizon) 0) 0) 0) 0)) H := hP
                    have hD : va_D A (MW dA h ad (MS.s_used (MS.s_block (MS.s_kept (MS.s_records (MS.s_baseHorizon (MS.s_baseHidden (MS.s_baseLasts r (mapT k (fun _ => true) r.lasts r.baseLasts)) (mapT r.points (fun _ => true) r.hidden r.baseHidden)) r.horizon) 0) 0) 0) 0)) := hD
                    refine lv_aload_n hx hb d_M_flush_302 rfl (lv_at hl 4 rfl) ?_
                    refine lv_iconst (v := 0) hx hb d_M_flush_303 (by decide) ?_
                    refine pF (v := .int (bI false)) hx hb hown hE hK hP hD hS 0 rfl rfl layM tyM tokM nmM 41 (by decide) w337 rfl (bI_nar false) (bI_fit false) (Nat.le_of_ble_eq_true rfl) d_M_flush_304 (fun H locs hP hD hS => ?_)
                    have hP : va_P D vwCl (MW dA h ad (MS.s_fresh (MS.s_used (MS.s_block (MS.s_kept (MS.s_records (MS.s_baseHorizon (MS.s_baseHidden (MS.s_baseLasts r (mapT k (fun _ => true) r.lasts r.baseLasts)) (mapT r.points (fun _ => true) r.hidden r.baseHidden)) r.horizon) 0) 0) 0) 0) false)) H := hP
                    have hD : va_D A (MW dA h ad (MS.s_fresh (MS.s_used (MS.s_block (MS.s_kept (MS.s_records (MS.s_baseHorizon (MS.s_baseHidden (MS.s_baseLasts r (mapT k (fun _ => true) r.lasts r.baseLasts)) (mapT r.points (fun _ => true) r.hidden r.baseHidden)) r.horizon) 0) 0) 0) 0) false)) := hD
                    refine lv_iload_n hx hb d_M_flush_307 rfl (lv_at hl 2 rfl) ?_
                    refine lv_iload_n hx hb d_M_flush_308 rfl (lv_at hl 1 rfl) ?_
                    refine lv_iadd hx hb d_M_flush_309 (tpi (y := nI (v + x.catN)) (nI_add (v) (x.catN)) ?_)
                    refine lv_iconst (v := 1) hx hb d_M_flush_310 (by decide) ?_
                    refine lv_iadd hx hb d_M_flush_311 (tpi (y := nI (v + x.catN + 1)) (nI_add (v + x.catN) (1)) ?_)
                    exact rfI hx hb hr hlk hS (MS.s_fresh (MS.s_used (MS.s_block (MS.s_kept (MS.s_records (MS.s_baseHorizon (MS.s_baseHidden (MS.s_baseLasts r (mapT k (fun _ => true) r.lasts r.baseLasts)) (mapT r.points (fun _ => true) r.hidden r.baseHidden)) r.horizon) 0) 0) 0) 0) false) ⟨by rw [hv], by rw [show k = r.seriesCount by omega]; subst er; subst ez; subst ey; subst hpk; subst hv; rfl⟩ hP hD (Nat.le_of_ble_eq_true rfl) (Nat.le_of_ble_eq_true rfl) d_M_flush_312
                  · have g10 := mt (nI_leI (a := r.seriesCount) (b := k) (by omega) (by omega)).mpr g10
                    refine lv_aload_n hx hb d_M_flush_258 rfl (lv_at hl 4 rfl) ?_
                    refine gF (v := .ref (ad 15)) hx hb hown hE hK hP 0 rfl rfl layM 15 (by decide) w502 rfl d_M_flush_259 ?_
                    refine lv_iload hx hb d_M_flush_262 (lv_at hl 0 rfl) ?_
                    refine lv_aload_n hx hb d_M_flush_264 rfl (lv_at hl 4 rfl) ?_
                    refine gF (v := .ref (ad 13)) hx hb hown hE hK hP 0 rfl rfl layM 13 (by decide) w501 rfl d_M_flush_265 ?_
                    refine lv_iload hx hb d_M_flush_268 (lv_at hl 0 rfl) ?_
                    refine nlld (f := r.lasts) hx hb hK hP 4 2 rfl rfl (k) (by omega) (by decide) d_M_flush_270 ?_
                    refine nlst hx hb hK hP hD hS 5 2 rfl rfl (k) (by omega) (by decide) d_M_flush_271 (fun H locs hP hD hS => ?_)
                    have hP : va_P D vwCl (MW dA h ad (MS.s_baseLasts r (va_up (mapT k (fun _ => true) r.lasts r.baseLasts) k (r.lasts k)))) H := hP
                    have hD : va_D A (MW dA h ad (MS.s_baseLasts r (va_up (mapT k (fun _ => true) r.lasts r.baseLasts) k (r.lasts k)))) := hD
                    refine lv_iinc (k := 0) (v := nI (k + 1)) hx hb d_M_flush_272 hl rfl (iincN (k) 1 1 (by decide)) (by decide) rfl (fun ls hl => ?_)
                    have hl : lv_has ls 5 [(4, .int (nI (k + 1))), (3, .int (nI x.catN)), (2, .int (nI v)), (1, .int (bI pk)), (0, .ref h)] := hl
                    refine lv_goto hx hb d_M_flush_275 (tgt := 249) rfl ?_
                    have e9 : (MS.s_baseLasts r (va_up (mapT k (fun _ => true) r.lasts r.baseLasts) k (r.lasts k)) : MS) = MS.s_baseLasts r (mapT (k + 1) (fun _ => true) r.lasts r.baseLasts) := by rw [show (mapT (k + 1) (fun _ => true) r.lasts r.baseLasts) = (va_up (mapT k (fun _ => true) r.lasts r.baseLasts) k (r.lasts k)) from (by first | exact mapT_0 _ _ _ | exact mapT_t rfl rfl)] <;> rfl
                    exact ih249 _ (by omega) (k + 1) (by omega) rfl H _ ls (cvP e9 hP) (cvD e9 hD) hS (lv_sub hl [0, 1, 2, 3, 4] rfl)
              have e9 : (r : MS) = MS.s_baseLasts r (mapT 0 (fun _ => true) r.lasts r.baseLasts) := by rw [show (mapT 0 (fun _ => true) r.lasts r.baseLasts) = r.baseLasts from (by first | exact mapT_0 _ _ _ | exact mapT_t rfl rfl)] <;> rfl
              exact L249 _ 0 (Nat.zero_le _) rfl H _ ls (cvP e9 hP) (cvD e9 hD) hS (lv_sub hl [0, 1, 2, 3, 4] rfl)
            refine lv_aload_n hx hb d_M_flush_229 rfl (lv_at hl 3 rfl) ?_
            refine jfV (rnV (As := []) (rest := []) hx hb hml hown hE hK (hN _ _ hS) hP hD (k_tidy l D dA H.size h ad z (show z.points ≤ 12000 from by omega)) (q0 := 0) rfl rfl w456 w455 w457 w458 w328 rfl rfl ⟨⟨by decide, by decide⟩, rfl⟩ ⟨(Nat.le_of_ble_eq_true rfl), (Nat.le_of_ble_eq_true rfl)⟩ rfl hl.1 rfl (Nat.le_of_ble_eq_true rfl) d_M_flush_230 ⟨(Nat.le_of_ble_eq_true rfl), (Nat.le_of_ble_eq_true rfl)⟩) hP hD hS hA (fun u14 H locs hp9 hP hD hS => ?_)
            have hP : va_P D vwCl (MW dA h ad (MS.s_points (MS.s_baseHidden (MS.s_hidden (MS.s_places (MS.s_pointValues (MS.s_pointTimes (MS.s_pointSeries z (tdT z.stay z.pointSeries z.points)) (tdT z.stay z.pointTimes z.points)) (tdT z.stay z.pointValues z.points)) (tdT z.stay z.places z.points)) (tdT z.stay z.hidden z.points)) (tdT z.stay z.baseHidden z.points)) (cnt z.points z.stay))) H := hP
            have hD : va_D A (MW dA h ad (MS.s_points (MS.s_baseHidden (MS.s_hidden (MS.s_places (MS.s_pointValues (MS.s_pointTimes (MS.s_pointSeries z (tdT z.stay z.pointSeries z.points)) (tdT z.stay z.pointTimes z.points)) (tdT z.stay z.pointValues z.points)) (tdT z.stay z.places z.points)) (tdT z.stay z.hidden z.points)) (tdT z.stay z.baseHidden z.points)) (cnt z.points z.stay))) := hD
            refine lv_aload_n hx hb d_M_flush_233 rfl (lv_at hl 3 rfl) ?_
            refine lv_iload_n hx hb d_M_flush_234 rfl (lv_at hl 0 rfl) ?_
            refine pF (v := .int (nI x.catN)) hx hb hown hE hK hP hD hS 0 rfl rfl layM tyM tokM nmM 16 (by decide) w419 rfl rfl rfl (Nat.le_of_ble_eq_true rfl) d_M_flush_235 (fun H locs hP hD hS => ?_)
            have hP : va_P D vwCl (MW dA h ad (MS.s_points (MS.s_baseHidden (MS.s_hidden (MS.s_places (MS.s_pointValues (MS.s_pointTimes (MS.s_pointSeries (MS.s_catalogBlocks z x.catN) (tdT z.stay z.pointSeries z.points)) (tdT z.stay z.pointTimes z.points)) (tdT z.stay z.pointValues z.points)) (tdT z.stay z.places z.points)) (tdT z.stay z.hidden z.points)) (tdT z.stay z.baseHidden z.points)) (cnt z.points z.stay))) H := hP
            have hD : va_D A (MW dA h ad (MS.s_points (MS.s_baseHidden (MS.s_hidden (MS.s_places (MS.s_pointValues (MS.s_pointTimes (MS.s_pointSeries (MS.s_catalogBlocks z x.catN) (tdT z.stay z.pointSeries z.points)) (tdT z.stay z.pointTimes z.points)) (tdT z.stay z.pointValues z.points)) (tdT z.stay z.places z.points)) (tdT z.stay z.hidden z.points)) (tdT z.stay z.baseHidden z.points)) (cnt z.points z.stay))) := hD
            refine lv_aload_n hx hb d_M_flush_238 rfl (lv_at hl 3 rfl) ?_
            refine lv_aload_n hx hb d_M_flush_239 rfl (lv_at hl 3 rfl) ?_
            refine gF (v := .int (nI z.seriesCount)) hx hb hown hE hK hP 0 rfl rfl layM 12 (by decide) w332 rfl d_M_flush_240 ?_
            refine pF (v := .int (nI z.seriesCount)) hx hb hown hE hK hP hD hS 0 rfl rfl layM tyM tokM nmM 14 (by decide) w418 rfl rfl rfl (Nat.le_of_ble_eq_true rfl) d_M_flush_243 (fun H locs hP hD hS => ?_)
            have hP : va_P D vwCl (MW dA h ad (MS.s_points (MS.s_baseHidden (MS.s_hidden (MS.s_places (MS.s_pointValues (MS.s_pointTimes (MS.s_pointSeries (MS.s_catalogBlocks (MS.s_baseSeries z z.seriesCount) x.catN) (tdT z.stay z.pointSeries z.points)) (tdT z.stay z.pointTimes z.points)) (tdT z.stay z.pointValues z.points)) (tdT z.stay z.places z.points)) (tdT z.stay z.hidden z.points)) (tdT z.stay z.baseHidden z.points)) (cnt z.points z.stay))) H := hP
            have hD : va_D A (MW dA h ad (MS.s_points (MS.s_baseHidden (MS.s_hidden (MS.s_places (MS.s_pointValues (MS.s_pointTimes (MS.s_pointSeries (MS.s_catalogBlocks (MS.s_baseSeries z z.seriesCount) x.catN) (tdT z.stay z.pointSeries z.points)) (tdT z.stay z.pointTimes z.points)) (tdT z.stay z.pointValues z.points)) (tdT z.stay z.places z.points)) (tdT z.stay z.hidden z.points)) (tdT z.stay z.baseHidden z.points)) (cnt z.points z.stay))) := hD
            exact J246 (MS.s_points (MS.s_baseHidden (MS.s_hidden (MS.s_places (MS.s_pointValues (MS.s_pointTimes (MS.s_pointSeries (MS.s_catalogBlocks (MS.s_baseSeries z z.seriesCount) x.catN) (tdT z.stay z.pointSeries z.points)) (tdT z.stay z.pointTimes z.points)) (tdT z.stay z.pointValues z.points)) (tdT z.stay z.places z.points)) (tdT z.stay z.hidden z.points)) (tdT z.stay z.baseHidden z.points)) (cnt z.points z.stay)) rfl (Nat.le_trans (cnt_le _ _) (by omega)) z3 H _ ls hP hD hS (lv_sub hl [0, 1, 2, 3] rfl)
          refine lv_iload_n hx hb d_M_flush_182 rfl (lv_at hl 2 rfl) ?_
          refine lv_if_eq hx hb d_M_flush_183 (tgt := 229) rfl (fun _ => ?_) (fun h9 => absurd (by rw [g5]; decide) h9)
          exact J229 y (by rw [g5]; rfl) y1 y3 H _ ls hP hD hS (lv_sub hl [0, 1, 2, 3] rfl)
        refine lv_iconst (v := 0) hx hb d_M_flush_118 (by decide) ?_
        refine lv_istore hx hb d_M_flush_119 hl (by decide) rfl (fun ls hl => ?_)
        have hl : lv_has ls 5 [(4, .int 0), (3, .int (nI x.catN)), (2, .int (nI v)), (1, .int (bI pk)), (0, .ref h)] := hl
        have L121 : ∀ (k9 : Nat) (q : Nat) (i1 : q ≤ x.points) (hk9 : x.points - q = k9), ∀ (H : Heap) (locs : List Loc) (ls : Array Slot) (hP : va_P D vwCl (MW dA h ad (MS.s_places (MS.s_written (MS.s_cutLeft (MS.s_cod x 0) (cutN x.cutLeft (v + x.catN + 1))) (x.written + (v + x.catN + 1))) (mapT q x.isM1 x.flP x.places))) H) (hD : va_D A (MW dA h ad (MS.s_places (MS.s_written (MS.s_cutLeft (MS.s_cod x 0) (cutN x.cutLeft (v + x.catN + 1))) (x.written + (v + x.catN + 1))) (mapT q x.isM1 x.flP x.places)))) (hS : va_S A s.heap H locs) (hl : lv_has ls 5 [(4, .int (nI q)), (3, .int (nI x.catN)), (2, .int (nI v)), (1, .int (bI pk)), (0, .ref h)]), W p l e ({ frames := 3, cells := 0, slots := 0, locals := 63 } : Room) s m ([.ref h] : List Value).toArray below meth c H locs 0 0 (MQ below (va_Qi (fun (r9 : Int32) (u9 : MS) => r9 = nI (x.manyN + x.catN + 1) ∧ u9 = x.fluS) (fun (u9 : MS) t9 => bW D A (MW dA h ad u9) t9) A) ([.ref h] : List Value).toArray s 0 0 A) (F0 m 121 ls []) := by
          intro k9
          induction k9 using Nat.strongRecOn with
          | ind k9 ih121 =>
            intro q i1 hk9 H locs ls hP hD hS hl
            refine lv_iload hx hb d_M_flush_121 (lv_at hl 0 rfl) ?_
            refine lv_aload_n hx hb d_M_flush_123 rfl (lv_at hl 4 rfl) ?_
            refine gF (v := .int (nI x.points)) hx hb hown hE hK hP 0 rfl rfl layM 23 (by decide) w420 rfl d_M_flush_124 ?_
            refine lv_icmp_ge hx hb d_M_flush_127 (tgt := 182) rfl (fun g15 => ?_) (fun g15 => ?_)
            · have g15 := (nI_leI (a := x.points) (b := q) (by omega) (by omega)).mp g15
              exact J182 (MS.s_places (MS.s_written (MS.s_cutLeft (MS.s_cod x 0) (cutN x.cutLeft (v + x.catN + 1))) (x.written + (v + x.catN + 1))) (mapT q x.isM1 x.flP x.places)) (by rw [show q = x.points by omega]; rfl) rfl rfl rfl H _ ls hP hD hS (lv_sub hl [1, 2, 3, 4] rfl)
            · have g15 := mt (nI_leI (a := x.points) (b := q) (by omega) (by omega)).mpr g15
              refine lv_aload_n hx hb d_M_flush_130 rfl (lv_at hl 4 rfl) ?_
              refine gF (v := .ref (ad 20)) hx hb hown hE hK hP 0 rfl rfl layM 20 (by decide) w506 rfl d_M_flush_131 ?_
              refine lv_iload hx hb d_M_flush_134 (lv_at hl 0 rfl) ?_
              refine lv_aload_n hx hb d_M_flush_136 rfl (lv_at hl 4 rfl) ?_
              refine gF (v := .ref (ad 20)) hx hb hown hE hK hP 0 rfl rfl layM 20 (by decide) w506 rfl d_M_flush_137 ?_
              refine lv_iload hx hb d_M_flush_140 (lv_at hl 0 rfl) ?_
              refine nild (f := (mapT q x.isM1 x.flP x.places)) hx hb hK hP 9 1 rfl rfl (q) (by omega) (by decide) d_M_flush_142 ?_
              refine tpi (y := (x.places q)) (mapT_at _ _ _ (Nat.le_refl q)) ?_
              refine lv_iconst (v := (-1)) hx hb d_M_flush_143 (by decide) ?_
              refine lv_icmp_ne hx hb d_M_flush_144 (tgt := 168) rfl (fun g16 => ?_) (fun g16 => ?_)
              · have g16 := g16
                refine lv_aload_n hx hb d_M_flush_168 rfl (lv_at hl 4 rfl) ?_
                refine gF (v := .ref (ad 20)) hx hb hown hE hK hP 0 rfl rfl layM 20 (by decide) w506 rfl d_M_flush_169 ?_
                refine lv_iload hx hb d_M_flush_172 (lv_at hl 0 rfl) ?_
                refine nild (f := (mapT q x.isM1 x.flP x.places)) hx hb hK hP 9 1 rfl rfl (q) (by omega) (by decide) d_M_flush_174 ?_
                refine tpi (y := (x.places q)) (mapT_at _ _ _ (Nat.le_refl q)) ?_
                refine nist hx hb hK hP hD hS 9 1 rfl rfl (q) (by omega) (by decide) d_M_flush_175 (fun H locs hP hD hS => ?_)
                have hP : va_P D vwCl (MW dA h ad (MS.s_places (MS.s_written (MS.s_cutLeft (MS.s_cod x 0) (cutN x.cutLeft (v + x.catN + 1))) (x.written + (v + x.catN + 1))) (va_up (mapT q x.isM1 x.flP x.places) q (x.places q)))) H := hP
                have hD : va_D A (MW dA h ad (MS.s_places (MS.s_written (MS.s_cutLeft (MS.s_cod x 0) (cutN x.cutLeft (v + x.catN + 1))) (x.written + (v + x.catN + 1))) (va_up (mapT q x.isM1 x.flP x.places) q (x.places q)))) := hD
                refine lv_iinc (k := 0) (v := nI (q + 1)) hx hb d_M_flush_176 hl rfl (iincN (q) 1 1 (by decide)) (by decide) rfl (fun ls hl => ?_)
                have hl : lv_has ls 5 [(4, .int (nI (q + 1))), (3, .int (nI x.catN)), (2, .int (nI v)), (1, .int (bI pk)), (0, .ref h)] := hl
                refine lv_goto hx hb d_M_flush_179 (tgt := 121) rfl ?_
                have e9 : (MS.s_places (MS.s_written (MS.s_cutLeft (MS.s_cod x 0) (cutN x.cutLeft (v + x.catN + 1))) (x.written + (v + x.catN + 1))) (va_up (mapT q x.isM1 x.flP x.places) q (x.places q)) : MS) = MS.s_places (MS.s_written (MS.s_cutLeft (MS.s_cod x 0) (cutN x.cutLeft (v + x.catN + 1))) (x.written + (v + x.catN + 1))) (mapT (q + 1) x.isM1 x.flP x.places) := by rw [show (mapT (q + 1) x.isM1 x.flP x.places) = (va_up (mapT q x.isM1 x.flP x.places) q (x.places q)) from (mapT_u (by simp [MS.isM1, *]) rfl)] <;> rfl
                exact ih121 _ (by omega) (q + 1) (by omega) rfl H _ ls (cvP e9 hP) (cvD e9 hD) hS (lv_sub hl [0, 1, 2, 3, 4] rfl)
              · have g16 := g16
                refine lv_aload_n hx hb d_M_flush_147 rfl (lv_at hl 4 rfl) ?_
                refine lv_iload hx hb d_M_flush_148 (lv_at hl 0 rfl) ?_
                refine jfI (rnV (As := [.int (nI q)]) (rest := [.int (nI q), .ref (ad 20)]) hx hb hml hown hE hK (hN _ _ hS) hP hD (k_isSeen l D dA H.size h ad (MS.s_places (MS.s_written (MS.s_cutLeft (MS.s_cod x 0) (cutN x.cutLeft (v + x.catN + 1))) (x.written + (v + x.catN + 1))) (mapT q x.isM1 x.flP x.places)) q (show q < 12000 from by omega)) (q0 := 0) rfl rfl w861 w860 w862 w863 w328 rfl rfl ⟨⟨by decide, by decide⟩, rfl⟩ ⟨(Nat.le_of_ble_eq_true rfl), (Nat.le_of_ble_eq_true rfl)⟩ rfl hl.1 rfl (Nat.le_of_ble_eq_true rfl) d_M_flush_150 ⟨(Nat.le_of_ble_eq_true rfl), (Nat.le_of_ble_eq_true rfl)⟩) hP hD hS hA (fun r17 u18 H locs hp9 hP hD hS => ?_)
                have hP : va_P D vwCl (MW dA h ad (MS.s_places (MS.s_written (MS.s_cutLeft (MS.s_cod x 0) (cutN x.cutLeft (v + x.catN + 1))) (x.written + (v + x.catN + 1))) (mapT q x.isM1 x.flP x.places))) H := hP
                have hD : va_D A (MW dA h ad (MS.s_places (MS.s_written (MS.s_cutLeft (MS.s_cod x 0) (cutN x.cutLeft (v + x.catN + 1))) (x.written + (v + x.catN + 1))) (mapT q x.isM1 x.flP x.places))) := hD
                replace hp9 : bI ((MS.s_places x (mapT q x.isM1 x.flP x.places)).seen q) = r17 := Eq.symm hp9
                subst hp9
                rw [seen_mapP]
                refine lv_if_eq hx hb d_M_flush_153 (tgt := 163) rfl (fun g19 => ?_) (fun g19 => ?_)
                · have g19 := bI_0 g19
                  refine lv_bipush (v := (-2)) hx hb d_M_flush_163 (by decide) ?_
                  refine lv_goto hx hb d_M_flush_165 (tgt := 175) rfl ?_
                  refine nist hx hb hK hP hD hS 9 1 rfl rfl (q) (by omega) (by decide) d_M_flush_175 (fun H locs hP hD hS => ?_)
                  have hP : va_P D vwCl (MW dA h ad (MS.s_places (MS.s_written (MS.s_cutLeft (MS.s_cod x 0) (cutN x.cutLeft (v + x.catN + 1))) (x.written + (v + x.catN + 1))) (va_up (mapT q x.isM1 x.flP x.places) q (-2)))) H := hP
                  have hD : va_D A (MW dA h ad (MS.s_places (MS.s_written (MS.s_cutLeft (MS.s_cod x 0) (cutN x.cutLeft (v + x.catN + 1))) (x.written + (v + x.catN + 1))) (va_up (mapT q x.isM1 x.flP x.places) q (-2)))) := hD
                  refine lv_iinc (k := 0) (v := nI (q + 1)) hx hb d_M_flush_176 hl rfl (iincN (q) 1 1 (by decide)) (by decide) rfl (fun ls hl => ?_)
                  have hl : lv_has ls 5 [(4, .int (nI (q + 1))), (3, .int (nI x.catN)), (2, .int (nI v)), (1, .int (bI pk)), (0, .ref h)] := hl
                  refine lv_goto hx hb d_M_flush_179 (tgt := 121) rfl ?_
                  have e9 : (MS.s_places (MS.s_written (MS.s_cutLeft (MS.s_cod x 0) (cutN x.cutLeft (v + x.catN + 1))) (x.written + (v + x.catN + 1))) (va_up (mapT q x.isM1 x.flP x.places) q (-2)) : MS) = MS.s_places (MS.s_written (MS.s_cutLeft (MS.s_cod x 0) (cutN x.cutLeft (v + x.catN + 1))) (x.written + (v + x.catN + 1))) (mapT (q + 1) x.isM1 x.flP x.places) := by rw [show (mapT (q + 1) x.isM1 x.flP x.places) = (va_up (mapT q x.isM1 x.flP x.places) q (-2)) from (mapT_t (by simp [MS.isM1, *]) (by simp [MS.flP, *]))] <;> rfl
                  exact ih121 _ (by omega) (q + 1) (by omega) rfl H _ ls (cvP e9 hP) (cvD e9 hD) hS (lv_sub hl [0, 1, 2, 3, 4] rfl)
                · have g19 := bI_n0 g19
                  refine lv_aload_n hx hb d_M_flush_156 rfl (lv_at hl 4 rfl) ?_
                  refine gF (v := .int (nI x.parcelNumber)) hx hb hown hE hK hP 0 rfl rfl layM 29 (by decide) w929 rfl d_M_flush_157 ?_
                  refine lv_goto hx hb d_M_flush_160 (tgt := 175) rfl ?_
                  refine nist hx hb hK hP hD hS 9 1 rfl rfl (q) (by omega) (by decide) d_M_flush_175 (fun H locs hP hD hS => ?_)
                  have hP : va_P D vwCl (MW dA h ad (MS.s_places (MS.s_written (MS.s_cutLeft (MS.s_cod x 0) (cutN x.cutLeft (v + x.catN + 1))) (x.written + (v + x.catN + 1))) (va_up (mapT q x.isM1 x.flP x.places) q (nI x.parcelNumber)))) H := hP
                  have hD : va_D A (MW dA h ad (MS.s_places (MS.s_written (MS.s_cutLeft (MS.s_cod x 0) (cutN x.cutLeft (v + x.catN + 1))) (x.written + (v + x.catN + 1))) (va_up (mapT q x.isM1 x.flP x.places) q (nI x.parcelNumber)))) := hD
                  refine lv_iinc (k := 0) (v := nI (q + 1)) hx hb d_M_flush_176 hl rfl (iincN (q) 1 1 (by decide)) (by decide) rfl (fun ls hl => ?_)
                  have hl : lv_has ls 5 [(4, .int (nI (q + 1))), (3, .int (nI x.catN)), (2, .int (nI v)), (1, .int (bI pk)), (0, .ref h)] := hl
                  refine lv_goto hx hb d_M_flush_179 (tgt := 121) rfl ?_
                  have e9 : (MS.s_places (MS.s_written (MS.s_cutLeft (MS.s_cod x 0) (cutN x.cutLeft (v + x.catN + 1))) (x.written + (v + x.catN + 1))) (va_up (mapT q x.isM1 x.flP x.places) q (nI x.parcelNumber)) : MS) = MS.s_places (MS.s_written (MS.s_cutLeft (MS.s_cod x 0) (cutN x.cutLeft (v + x.catN + 1))) (x.written + (v + x.catN + 1))) (mapT (q + 1) x.isM1 x.flP x.places) := by rw [show (mapT (q + 1) x.isM1 x.flP x.places) = (va_up (mapT q x.isM1 x.flP x.places) q (nI x.parcelNumber)) from (mapT_t (by simp [MS.isM1, *]) (by simp [MS.flP, *]))] <;> rfl
                  exact ih121 _ (by omega) (q + 1) (by omega) rfl H _ ls (cvP e9 hP) (cvD e9 hD) hS (lv_sub hl [0, 1, 2, 3, 4] rfl)
        have e9 : (MS.s_written (MS.s_cutLeft (MS.s_cod x 0) (cutN x.cutLeft (v + x.catN + 1))) (x.written + (v + x.catN + 1)) : MS) = MS.s_places (MS.s_written (MS.s_cutLeft (MS.s_cod x 0) (cutN x.cutLeft (v + x.catN + 1))) (x.written + (v + x.catN + 1))) (mapT 0 x.isM1 x.flP x.places) := by rw [show (mapT 0 x.isM1 x.flP x.places) = x.places from (mapT_0 _ _ _)] <;> rfl
        exact L121 _ 0 (Nat.zero_le _) rfl H _ ls (cvP e9 hP) (cvD e9 hD) hS (lv_sub hl [0, 1, 2, 3, 4] rfl)
      · have g5 := bI_n0 g5
        refine lv_aload_n hx hb d_M_flush_73 rfl (lv_at hl 3 rfl) ?_
        refine gF (v := .int (nI x.parcelCount)) hx hb hown hE hK hP 0 rfl rfl layM 28 (by decide) w344 rfl d_M_flush_74 ?_
        refine lv_bipush (v := 32) hx hb d_M_flush_77 (by decide) ?_
        have hh5 : 0 < x.heads := of_decide_eq_true (hpk.trans g5)
        have hn5 : ¬ x.parcelCount = 32 := fun z => hn ⟨hh5, z⟩
        refine lv_icmp_eq hx hb d_M_flush_79 (tgt := 92) rfl (fun g20 => ?_) (fun g20 => ?_)
        · have g20 := (nI_eq (a := x.parcelCount) (b := 32) (by omega) (by omega)).mp g20; exfalso; omega
        have g20 := mt (nI_eq (a := x.parcelCount) (b := 32) (by omega) (by omega)).mpr g20
        refine lv_iload_n hx hb d_M_flush_82 rfl (lv_at hl 1 rfl) ?_
        refine lv_iload_n hx hb d_M_flush_83 rfl (lv_at hl 0 rfl) ?_
        refine lv_iadd hx hb d_M_flush_84 (tpi (y := nI (v + x.catN)) (nI_add (v) (x.catN)) ?_)
        refine lv_aload_n hx hb d_M_flush_85 rfl (lv_at hl 3 rfl) ?_
        refine jfI (rnV (As := []) (rest := [.int (nI (v + x.catN))]) hx hb hml hown hE hK (hN _ _ hS) hP hD (k_free l D dA H.size h ad (MS.s_cod x 0) (show x.parcelCount ≤ 40 from by omega) (show 2 + x.journal + x.catalogBlocks + sumN x.parcelCount x.parcelBlocks ≤ x.blocks from by omega) (show x.blocks ≤ 256 from by omega)) (q0 := 0) rfl rfl w447 w446 w448 w449 w328 rfl rfl ⟨⟨by decide, by decide⟩, rfl⟩ ⟨(Nat.le_of_ble_eq_true rfl), (Nat.le_of_ble_eq_true rfl)⟩ rfl hl.1 rfl (Nat.le_of_ble_eq_true rfl) d_M_flush_86 ⟨(Nat.le_of_ble_eq_true rfl), (Nat.le_of_ble_eq_true rfl)⟩) hP hD hS hA (fun r21 u22 H locs hp9 hP hD hS => ?_)
        have hP : va_P D vwCl (MW dA h ad (MS.s_cod x 0)) H := hP
        have hD : va_D A (MW dA h ad (MS.s_cod x 0)) := hD
        replace hp9 : nI x.freeN = r21 := Eq.symm hp9
        subst hp9
        have hf5 : x.freeN ≤ 256 := by unfold MS.freeN; omega
        refine lv_icmp_le hx hb d_M_flush_89 (tgt := 99) rfl (fun _ => ?_) (fun h9 => absurd ((nI_leI (a := v + x.catN) (b := x.freeN) (by omega) (by omega)).mpr (by omega)) h9)
        refine lv_aload_n hx hb d_M_flush_99 rfl (lv_at hl 3 rfl) ?_
        refine lv_iload_n hx hb d_M_flush_100 rfl (lv_at hl 1 rfl) ?_
        refine lv_iload_n hx hb d_M_flush_101 rfl (lv_at hl 0 rfl) ?_
        refine lv_iadd hx hb d_M_flush_102 (tpi (y := nI (v + x.catN)) (nI_add (v) (x.catN)) ?_)
        refine lv_iconst (v := 1) hx hb d_M_flush_103 (by decide) ?_
        refine lv_iadd hx hb d_M_flush_104 (tpi (y := nI (v + x.catN + 1)) (nI_add (v + x.catN) (1)) ?_)
        refine jfI (rnV (As := [.int (nI (v + x.catN + 1))]) (rest := []) hx hb hml hown hE hK (hN _ _ hS) hP hD (k_write_n l D dA H.size h ad (MS.s_cod x 0) (v + x.catN + 1) (show (v + x.catN + 1) < 2 ^ 31 from by omega) (by rw [← hv]; exact hz)) (q0 := 0) rfl rfl w926 w925 w927 w928 w328 rfl rfl ⟨⟨by decide, by decide⟩, rfl⟩ ⟨(Nat.le_of_ble_eq_true rfl), (Nat.le_of_ble_eq_true rfl)⟩ rfl hl.1 rfl (Nat.le_of_ble_eq_true rfl) d_M_flush_105 ⟨(Nat.le_of_ble_eq_true rfl), (Nat.le_of_ble_eq_true rfl)⟩) hP hD hS hA (fun r23 u24 H locs hp9 hP hD hS => ?_)
        have hP : va_P D vwCl (MW dA h ad (MS.s_written (MS.s_cutLeft (MS.s_cod x 0) (cutN x.cutLeft (v + x.catN + 1))) (x.written + (v + x.catN + 1)))) H := hP
        have hD : va_D A (MW dA h ad (MS.s_written (MS.s_cutLeft (MS.s_cod x 0) (cutN x.cutLeft (v + x.catN + 1))) (x.written + (v + x.catN + 1)))) := hD
        replace hp9 : bI true = r23 := Eq.symm hp9
        subst hp9
        refine lv_if_ne hx hb d_M_flush_108 (tgt := 118) rfl (fun _ => ?_) (fun h9 => absurd h9 (by decide))
        have J182 : ∀ (y : MS) (ey : y = x.fl1 (v + x.catN + 1)) (y1 : y.points = x.points) (y2 : y.parcelCount = x.parcelCount) (y3 : y.seriesCount = x.seriesCount), ∀ (H : Heap) (locs : List Loc) (ls : Array Slot) (hP : va_P D vwCl (MW dA h ad y) H) (hD : va_D A (MW dA h ad y)) (hS : va_S A s.heap H locs) (hl : lv_has ls 5 [(3, .int (nI x.catN)), (2, .int (nI v)), (1, .int (bI pk)), (0, .ref h)]), W p l e ({ frames := 3, cells := 0, slots := 0, locals := 63 } : Room) s m ([.ref h] : List Value).toArray below meth c H locs 0 0 (MQ below (va_Qi (fun (r9 : Int32) (u9 : MS) => r9 = nI (x.manyN + x.catN + 1) ∧ u9 = x.fluS) (fun (u9 : MS) t9 => bW D A (MW dA h ad u9) t9) A) ([.ref h] : List Value).toArray s 0 0 A) (F0 m 182 ls []) := by
          intro y ey y1 y2 y3 H locs ls hP hD hS hl
          have J229 : ∀ (z : MS) (ez : z = (bif pk then y.fl2 v else y)) (z1 : z.points = x.points) (z3 : z.seriesCount = x.seriesCount), ∀ (H : Heap) (locs : List Loc) (ls : Array Slot) (hP : va_P D vwCl (MW dA h ad z) H) (hD : va_D A (MW dA h ad z)) (hS : va_S A s.heap H locs) (hl : lv_has ls 5 [(3, .int (nI x.catN)), (2, .int (nI v)), (1, .int (bI pk)), (0, .ref h)]), W p l e ({ frames := 3, cells := 0, slots := 0, locals := 63 } : Room) s m ([.ref h] : List Value).toArray below meth c H locs 0 0 (MQ below (va_Qi (fun (r9 : Int32) (u9 : MS) => r9 = nI (x.manyN + x.catN + 1) ∧ u9 = x.fluS) (fun (u9 : MS) t9 => bW D A (MW dA h ad u9) t9) A) ([.ref h] : List Value).toArray s 0 0 A) (F0 m 229 ls []) := by
            intro z ez z1 z3 H locs ls hP hD hS hl
            have J246 : ∀ (r : MS) (er : r = z.fl3 x.catN) (r4 : r.points ≤ 12000) (r3 : r.seriesCount = x.seriesCount), ∀ (H : Heap) (locs : List Loc) (ls : Array Slot) (hP : va_P D vwCl (MW dA h ad r) H) (hD : va_D A (MW dA h ad r)) (hS : va_S A s.heap H locs) (hl : lv_has ls 5 [(3, .int (nI x.catN)), (2, .int (nI v)), (1, .int (bI pk)), (0, .ref h)]), W p l e ({ frames := 3, cells := 0, slots := 0, locals := 63 } : Room) s m ([.ref h] : List Value).toArray below meth c H locs 0 0 (MQ below (va_Qi (fun (r9 : Int32) (u9 : MS) => r9 = nI (x.manyN + x.catN + 1) ∧ u9 = x.fluS) (fun (u9 : MS) t9 => bW D A (MW dA h ad u9) t9) A) ([.ref h] : List Value).toArray s 0 0 A) (F0 m 246 ls []) := by
              intro r er r4 r3 H locs ls hP hD hS hl
              refine lv_iconst (v := 0) hx hb d_M_flush_246 (by decide) ?_
              refine lv_istore hx hb d_M_flush_247 hl (by decide) rfl (fun ls hl => ?_)
              have hl : lv_has ls 5 [(4, .int 0), (3, .int (nI x.catN)), (2, .int (nI v)), (1, .int (bI pk)), (0, .ref h)] := hl
              have L249 : ∀ (k9 : Nat) (k : Nat) (m1 : k ≤ r.seriesCount) (hk9 : r.seriesCount - k = k9), ∀ (H : Heap) (locs : List Loc) (ls : Array Slot) (hP : va_P D vwCl (MW dA h ad (MS.s_baseLasts r (mapT k (fun _ => true) r.lasts r.baseLasts))) H) (hD : va_D A (MW dA h ad (MS.s_baseLasts r (mapT k (fun _ => true) r.lasts r.baseLasts)))) (hS : va_S A s.heap H locs) (hl : lv_has ls 5 [(4, .int (nI k)), (3, .int (nI x.catN)), (2, .int (nI v)), (1, .int (bI pk)), (0, .ref h)]), W p l e ({ frames := 3, cells := 0, slots := 0, locals := 63 } : Room) s m ([.ref h] : List Value).toArray below meth c H locs 0 0 (MQ below (va_Qi (fun (r9 : Int32) (u9 : MS) => r9 = nI (x.manyN + x.catN + 1) ∧ u9 = x.fluS) (fun (u9 : MS) t9 => bW D A (MW dA h ad u9) t9) A) ([.ref h] : List Value).toArray s 0 0 A) (F0 m 249 ls []) := by
                intro k9
                induction k9 using Nat.strongRecOn with
                | ind k9 ih249 =>
                  intro k m1 hk9 H locs ls hP hD hS hl
                  refine lv_iload hx hb d_M_flush_249 (lv_at hl 0 rfl) ?_
                  refine lv_aload_n hx hb d_M_flush_251 rfl (lv_at hl 4 rfl) ?_
                  refine gF (v := .int (nI r.seriesCount)) hx hb hown hE hK hP 0 rfl rfl layM 12 (by decide) w332 rfl d_M_flush_252 ?_
                  refine lv_icmp_ge hx hb d_M_flush_255 (tgt := 278) rfl (fun g25 => ?_) (fun g25 => ?_)
                  · have g25 := (nI_leI (a := r.seriesCount) (b := k) (by omega) (by omega)).mp g25
                    refine lv_aload_n hx hb d_M_flush_278 rfl (lv_at hl 4 rfl) ?_
                    refine jfV (rnV (As := []) (rest := []) hx hb hml hown hE hK (hN _ _ hS) hP hD (k_shown l D dA H.size h ad (MS.s_baseLasts r (mapT k (fun _ => true) r.lasts r.baseLasts)) (show r.points ≤ 12000 from by omega)) (q0 := 0) rfl rfl w460 w459 w461 w462 w328 rfl rfl ⟨⟨by decide, by decide⟩, rfl⟩ ⟨(Nat.le_of_ble_eq_true rfl), (Nat.le_of_ble_eq_true rfl)⟩ rfl hl.1 rfl (Nat.le_of_ble_eq_true rfl) d_M_flush_279 ⟨(Nat.le_of_ble_eq_true rfl), (Nat.le_of_ble_eq_true rfl)⟩) hP hD hS hA (fun u27 H locs hp9 hP hD hS => ?_)
                    have hP : va_P D vwCl (MW dA h ad (MS.s_baseHorizon (MS.s_baseHidden (MS.s_baseLasts r (mapT k (fun _ => true) r.lasts r.baseLasts)) (mapT r.points (fun _ => true) r.hidden r.baseHidden)) r.horizon)) H := hP
                    have hD : va_D A (MW dA h ad (MS.s_baseHorizon (MS.s_baseHidden (MS.s_baseLasts r (mapT k (fun _ => true) r.lasts r.baseLasts)) (mapT r.points (fun _ => true) r.hidden r.baseHidden)) r.horizon)) := hD
                    refine lv_aload_n hx hb d_M_flush_282 rfl (lv_at hl 4 rfl) ?_
                    refine lv_iconst (v := 0) hx hb d_M_flush_283 (by decide) ?_
                    refine pF (v := .int (nI 0)) hx hb hown hE hK hP hD hS 0 rfl rfl layM tyM tokM nmM 37 (by decide) w338 rfl rfl rfl (Nat.le_of_ble_eq_true rfl) d_M_flush_284 (fun H locs hP hD hS => ?_)
                    have hP : va_P D vwCl (MW dA h ad (MS.s_records (MS.s_baseHorizon (MS.s_baseHidden (MS.s_baseLasts r (mapT k (fun _ => true) r.lasts r.baseLasts)) (mapT r.points (fun _ => true) r.hidden r.baseHidden)) r.horizon) 0)) H := hP
                    have hD : va_D A (MW dA h ad (MS.s_records (MS.s_baseHorizon (MS.s_baseHidden (MS.s_baseLasts r (mapT k (fun _ => true) r.lasts r.baseLasts)) (mapT r.points (fun _ => true) r.hidden r.baseHidden)) r.horizon) 0)) := hD
                    refine lv_aload_n hx hb d_M_flush_287 rfl (lv_at hl 4 rfl) ?_
                    refine lv_iconst (v := 0) hx hb d_M_flush_288 (by decide) ?_
                    refine pF (v := .int (nI 0)) hx hb hown hE hK hP hD hS 0 rfl rfl layM tyM tokM nmM 38 (by decide) w339 rfl rfl rfl (Nat.le_of_ble_eq_true rfl) d_M_flush_289 (fun H locs hP hD hS => ?_)
                    have hP : va_P D vwCl (MW dA h ad (MS.s_kept (MS.s_records (MS.s_baseHorizon (MS.s_baseHidden (MS.s_baseLasts r (mapT k (fun _ => true) r.lasts r.baseLasts)) (mapT r.points (fun _ => true) r.hidden r.baseHidden)) r.horizon) 0) 0)) H := hP
                    have hD : va_D A (MW dA h ad (MS.s_kept (MS.s_records (MS.s_baseHorizon (MS.s_baseHidden (MS.s_baseLasts r (mapT k (fun _ => true) r.lasts r.baseLasts)) (mapT r.points (fun _ => true) r.hidden r.baseHidden)) r.horizon) 0) 0)) := hD
                    refine lv_aload_n hx hb d_M_flush_292 rfl (lv_at hl 4 rfl) ?_
                    refine lv_iconst (v := 0) hx hb d_M_flush_293 (by decide) ?_
                    refine pF (v := .int (nI 0)) hx hb hown hE hK hP hD hS 0 rfl rfl layM tyM tokM nmM 39 (by decide) w423 rfl rfl rfl (Nat.le_of_ble_eq_true rfl) d_M_flush_294 (fun H locs hP hD hS => ?_)
                    have hP : va_P D vwCl (MW dA h ad (MS.s_block (MS.s_kept (MS.s_records (MS.s_baseHorizon (MS.s_baseHidden (MS.s_baseLasts r (mapT k (fun _ => true) r.lasts r.baseLasts)) (mapT r.points (fun _ => true) r.hidden r.baseHidden)) r.horizon) 0) 0) 0)) H := hP
                    have hD : va_D A (MW dA h ad (MS.s_block (MS.s_kept (MS.s_records (MS.s_baseHorizon (MS.s_baseHidden (MS.s_baseLasts r (mapT k (fun _ => true) r.lasts r.baseLasts)) (mapT r.points (fun _ => true) r.hidden r.baseHidden)) r.horizon) 0) 0) 0)) := hD
                    refine lv_aload_n hx hb d_M_flush_297 rfl (lv_at hl 4 rfl) ?_
                    refine lv_iconst (v := 0) hx hb d_M_flush_298 (by decide) ?_
                    refine pF (v := .int (nI 0)) hx hb hown hE hK hP hD hS 0 rfl rfl layM tyM tokM nmM 40 (by decide) w424 rfl rfl rfl (Nat.le_of_ble_eq_true rfl) d_M_flush_299 (fun H locs hP hD hS => ?_)
                    have hP : va_P D vwCl (MW dA h ad (MS.s_used (MS.s_block (MS.s_kept (MS.s_records (MS.s_baseHorizon (MS.s_baseHidden (MS.s_baseLasts r (mapT k (fun _ => true) r.lasts r.baseLasts)) (mapT r.points (fun _ => true) r.hidden r.baseHidden)) r.horizon) 0) 0) 0) 0)) H := hP
                    have hD : va_D A (MW dA h ad (MS.s_used (MS.s_block (MS.s_kept (MS.s_records (MS.s_baseHorizon (MS.s_baseHidden (MS.s_baseLasts r (mapT k (fun _ => true) r.lasts r.baseLasts)) (mapT r.points (fun _ => true) r.hidden r.baseHidden)) r.horizon) 0) 0) 0) 0)) := hD
                    refine lv_aload_n hx hb d_M_flush_302 rfl (lv_at hl 4 rfl) ?_
                    refine lv_iconst (v := 0) hx hb d_M_flush_303 (by decide) ?_
                    refine pF (v := .int (bI false)) hx hb hown hE hK hP hD hS 0 rfl rfl layM tyM tokM nmM 41 (by decide) w337 rfl (bI_nar false) (bI_fit false) (Nat.le_of_ble_eq_true rfl) d_M_flush_304 (fun H locs hP hD hS => ?_)
                    have hP : va_P D vwCl (MW dA h ad (MS.s_fresh (MS.s_used (MS.s_block (MS.s_kept (MS.s_records (MS.s_baseHorizon (MS.s_baseHidden (MS.s_baseLasts r (mapT k (fun _ => true) r.lasts r.baseLasts)) (mapT r.points (fun _ => true) r.hidden r.baseHidden)) r.horizon) 0) 0) 0) 0) false)) H := hP
                    have hD : va_D A (MW dA h ad (MS.s_fresh (MS.s_used (MS.s_block (MS.s_kept (MS.s_records (MS.s_baseHorizon (MS.s_baseHidden (MS.s_baseLasts r (mapT k (fun _ => true) r.lasts r.baseLasts)) (mapT r.points (fun _ => true) r.hidden r.baseHidden)) r.horizon) 0) 0) 0) 0) false)) := hD
                    refine lv_iload_n hx hb d_M_flush_307 rfl (lv_at hl 2 rfl) ?_
                    refine lv_iload_n hx hb d_M_flush_308 rfl (lv_at hl 1 rfl) ?_
                    refine lv_iadd hx hb d_M_flush_309 (tpi (y := nI (v + x.catN)) (nI_add (v) (x.catN)) ?_)
                    refine lv_iconst (v := 1) hx hb d_M_flush_310 (by decide) ?_
                    refine lv_iadd hx hb d_M_flush_311 (tpi (y := nI (v + x.catN + 1)) (nI_add (v + x.catN) (1)) ?_)
                    exact rfI hx hb hr hlk hS (MS.s_fresh (MS.s_used (MS.s_block (MS.s_kept (MS.s_records (MS.s_baseHorizon (MS.s_baseHidden (MS.s_baseLasts r (mapT k (fun _ => true) r.lasts r.baseLasts)) (mapT r.points (fun _ => true) r.hidden r.baseHidden)) r.horizon) 0) 0) 0) 0) false) ⟨by rw [hv], by rw [show k = r.seriesCount by omega]; subst er; subst ez; subst ey; subst hpk; subst hv; rfl⟩ hP hD (Nat.le_of_ble_eq_true rfl) (Nat.le_of_ble_eq_true rfl) d_M_flush_312
                  · have g25 := mt (nI_leI (a := r.seriesCount) (b := k) (by omega) (by omega)).mpr g25
                    refine lv_aload_n hx hb d_M_flush_258 rfl (lv_at hl 4 rfl) ?_
                    refine gF (v := .ref (ad 15)) hx hb hown hE hK hP 0 rfl rfl layM 15 (by decide) w502 rfl d_M_flush_259 ?_
                    refine lv_iload hx hb d_M_flush_262 (lv_at hl 0 rfl) ?_
                    refine lv_aload_n hx hb d_M_flush_264 rfl (lv_at hl 4 rfl) ?_
                    refine gF (v := .ref (ad 13)) hx hb hown hE hK hP 0 rfl rfl layM 13 (by decide) w501 rfl d_M_flush_265 ?_
                    refine lv_iload hx hb d_M_flush_268 (lv_at hl 0 rfl) ?_
                    refine nlld (f := r.lasts) hx hb hK hP 4 2 rfl rfl (k) (by omega) (by decide) d_M_flush_270 ?_
                    refine nlst hx hb hK hP hD hS 5 2 rfl rfl (k) (by omega) (by decide) d_M_flush_271 (fun H locs hP hD hS => ?_)
                    have hP : va_P D vwCl (MW dA h ad (MS.s_baseLasts r (va_up (mapT k (fun _ => true) r.lasts r.baseLasts) k (r.lasts k)))) H := hP
                    have hD : va_D A (MW dA h ad (MS.s_baseLasts r (va_up (mapT k (fun _ => true) r.lasts r.baseLasts) k (r.lasts k)))) := hD
                    refine lv_iinc (k := 0) (v := nI (k + 1)) hx hb d_M_flush_272 hl rfl (iincN (k) 1 1 (by decide)) (by decide) rfl (fun ls hl => ?_)
                    have hl : lv_has ls 5 [(4, .int (nI (k + 1))), (3, .int (nI x.catN)), (2, .int (nI v)), (1, .int (bI pk)), (0, .ref h)] := hl
                    refine lv_goto hx hb d_M_flush_275 (tgt := 249) rfl ?_
                    have e9 : (MS.s_baseLasts r (va_up (mapT k (fun _ => true) r.lasts r.baseLasts) k (r.lasts k)) : MS) = MS.s_baseLasts r (mapT (k + 1) (fun _ => true) r.lasts r.baseLasts) := by rw [show (mapT (k + 1) (fun _ => true) r.lasts r.baseLasts) = (va_up (mapT k (fun _ => true) r.lasts r.baseLasts) k (r.lasts k)) from (by first | exact mapT_0 _ _ _ | exact mapT_t rfl rfl)] <;> rfl
                    exact ih249 _ (by omega) (k + 1) (by omega) rfl H _ ls (cvP e9 hP) (cvD e9 hD) hS (lv_sub hl [0, 1, 2, 3, 4] rfl)
              have e9 : (r : MS) = MS.s_baseLasts r (mapT 0 (fun _ => true) r.lasts r.baseLasts) := by rw [show (mapT 0 (fun _ => true) r.lasts r.baseLasts) = r.baseLasts from (by first | exact mapT_0 _ _ _ | exact mapT_t rfl rfl)] <;> rfl
              exact L249 _ 0 (Nat.zero_le _) rfl H _ ls (cvP e9 hP) (cvD e9 hD) hS (lv_sub hl [0, 1, 2, 3, 4] rfl)
            refine lv_aload_n hx hb d_M_flush_229 rfl (lv_at hl 3 rfl) ?_
            refine jfV (rnV (As := []) (rest := []) hx hb hml hown hE hK (hN _ _ hS) hP hD (k_tidy l D dA H.size h ad z (show z.points ≤ 12000 from by omega)) (q0 := 0) rfl rfl w456 w455 w457 w458 w328 rfl rfl ⟨⟨by decide, by decide⟩, rfl⟩ ⟨(Nat.le_of_ble_eq_true rfl), (Nat.le_of_ble_eq_true rfl)⟩ rfl hl.1 rfl (Nat.le_of_ble_eq_true rfl) d_M_flush_230 ⟨(Nat.le_of_ble_eq_true rfl), (Nat.le_of_ble_eq_true rfl)⟩) hP hD hS hA (fun u29 H locs hp9 hP hD hS => ?_)
            have hP : va_P D vwCl (MW dA h ad (MS.s_points (MS.s_baseHidden (MS.s_hidden (MS.s_places (MS.s_pointValues (MS.s_pointTimes (MS.s_pointSeries z (tdT z.stay z.pointSeries z.points)) (tdT z.stay z.pointTimes z.points)) (tdT z.stay z.pointValues z.points)) (tdT z.stay z.places z.points)) (tdT z.stay z.hidden z.points)) (tdT z.stay z.baseHidden z.points)) (cnt z.points z.stay))) H := hP
            have hD : va_D A (MW dA h ad (MS.s_points (MS.s_baseHidden (MS.s_hidden (MS.s_places (MS.s_pointValues (MS.s_pointTimes (MS.s_pointSeries z (tdT z.stay z.pointSeries z.points)) (tdT z.stay z.pointTimes z.points)) (tdT z.stay z.pointValues z.points)) (tdT z.stay z.places z.points)) (tdT z.stay z.hidden z.points)) (tdT z.stay z.baseHidden z.points)) (cnt z.points z.stay))) := hD
            refine lv_aload_n hx hb d_M_flush_233 rfl (lv_at hl 3 rfl) ?_
            refine lv_iload_n hx hb d_M_flush_234 rfl (lv_at hl 0 rfl) ?_
            refine pF (v := .int (nI x.catN)) hx hb hown hE hK hP hD hS 0 rfl rfl layM tyM tokM nmM 16 (by decide) w419 rfl rfl rfl (Nat.le_of_ble_eq_true rfl) d_M_flush_235 (fun H locs hP hD hS => ?_)
            have hP : va_P D vwCl (MW dA h ad (MS.s_points (MS.s_baseHidden (MS.s_hidden (MS.s_places (MS.s_pointValues (MS.s_pointTimes (MS.s_pointSeries (MS.s_catalogBlocks z x.catN) (tdT z.stay z.pointSeries z.points)) (tdT z.stay z.pointTimes z.points)) (tdT z.stay z.pointValues z.points)) (tdT z.stay z.places z.points)) (tdT z.stay z.hidden z.points)) (tdT z.stay z.baseHidden z.points)) (cnt z.points z.stay))) H := hP
            have hD : va_D A (MW dA h ad (MS.s_points (MS.s_baseHidden (MS.s_hidden (MS.s_places (MS.s_pointValues (MS.s_pointTimes (MS.s_pointSeries (MS.s_catalogBlocks z x.catN) (tdT z.stay z.pointSeries z.points)) (tdT z.stay z.pointTimes z.points)) (tdT z.stay z.pointValues z.points)) (tdT z.stay z.places z.points)) (tdT z.stay z.hidden z.points)) (tdT z.stay z.baseHidden z.points)) (cnt z.points z.stay))) := hD
            refine lv_aload_n hx hb d_M_flush_238 rfl (lv_at hl 3 rfl) ?_
            refine lv_aload_n hx hb d_M_flush_239 rfl (lv_at hl 3 rfl) ?_
            refine gF (v := .int (nI z.seriesCount)) hx hb hown hE hK hP 0 rfl rfl layM 12 (by decide) w332 rfl d_M_flush_240 ?_
            refine pF (v := .int (nI z.seriesCount)) hx hb hown hE hK hP hD hS 0 rfl rfl layM tyM tokM nmM 14 (by decide) w418 rfl rfl rfl (Nat.le_of_ble_eq_true rfl) d_M_flush_243 (fun H locs hP hD hS => ?_)
            have hP : va_P D vwCl (MW dA h ad (MS.s_points (MS.s_baseHidden (MS.s_hidden (MS.s_places (MS.s_pointValues (MS.s_pointTimes (MS.s_pointSeries (MS.s_catalogBlocks (MS.s_baseSeries z z.seriesCount) x.catN) (tdT z.stay z.pointSeries z.points)) (tdT z.stay z.pointTimes z.points)) (tdT z.stay z.pointValues z.points)) (tdT z.stay z.places z.points)) (tdT z.stay z.hidden z.points)) (tdT z.stay z.baseHidden z.points)) (cnt z.points z.stay))) H := hP
            have hD : va_D A (MW dA h ad (MS.s_points (MS.s_baseHidden (MS.s_hidden (MS.s_places (MS.s_pointValues (MS.s_pointTimes (MS.s_pointSeries (MS.s_catalogBlocks (MS.s_baseSeries z z.seriesCount) x.catN) (tdT z.stay z.pointSeries z.points)) (tdT z.stay z.pointTimes z.points)) (tdT z.stay z.pointValues z.points)) (tdT z.stay z.places z.points)) (tdT z.stay z.hidden z.points)) (tdT z.stay z.baseHidden z.points)) (cnt z.points z.stay))) := hD
            exact J246 (MS.s_points (MS.s_baseHidden (MS.s_hidden (MS.s_places (MS.s_pointValues (MS.s_pointTimes (MS.s_pointSeries (MS.s_catalogBlocks (MS.s_baseSeries z z.seriesCount) x.catN) (tdT z.stay z.pointSeries z.points)) (tdT z.stay z.pointTimes z.points)) (tdT z.stay z.pointValues z.points)) (tdT z.stay z.places z.points)) (tdT z.stay z.hidden z.points)) (tdT z.stay z.baseHidden z.points)) (cnt z.points z.stay)) rfl (Nat.le_trans (cnt_le _ _) (by omega)) z3 H _ ls hP hD hS (lv_sub hl [0, 1, 2, 3] rfl)
          refine lv_iload_n hx hb d_M_flush_182 rfl (lv_at hl 2 rfl) ?_
          refine lv_if_eq hx hb d_M_flush_183 (tgt := 229) rfl (fun h9 => absurd h9 (by rw [g5]; decide)) (fun _ => ?_)
          refine lv_aload_n hx hb d_M_flush_186 rfl (lv_at hl 3 rfl) ?_
          refine gF (v := .ref (ad 26)) hx hb hown hE hK hP 0 rfl rfl layM 26 (by decide) w509 rfl d_M_flush_187 ?_
          refine lv_aload_n hx hb d_M_flush_190 rfl (lv_at hl 3 rfl) ?_
          refine gF (v := .int (nI y.parcelCount)) hx hb hown hE hK hP 0 rfl rfl layM 28 (by decide) w344 rfl d_M_flush_191 ?_
          refine lv_aload_n hx hb d_M_flush_194 rfl (lv_at hl 3 rfl) ?_
          refine gF (v := .int (nI y.parcelNumber)) hx hb hown hE hK hP 0 rfl rfl layM 29 (by decide) w929 rfl d_M_flush_195 ?_
          refine nistN (v := y.parcelNumber) hx hb hK hP hD hS 12 1 rfl rfl (y.parcelCount) (by omega) (by decide) d_M_flush_198 (fun H locs hP hD hS => ?_)
          have hP : va_P D vwCl (MW dA h ad (MS.s_parcels y (va_up y.parcels y.parcelCount y.parcelNumber))) H := hP
          have hD : va_D A (MW dA h ad (MS.s_parcels y (va_up y.parcels y.parcelCount y.parcelNumber))) := hD
          refine lv_aload_n hx hb d_M_flush_199 rfl (lv_at hl 3 rfl) ?_
          refine gF (v := .ref (ad 27)) hx hb hown hE hK hP 0 rfl rfl layM 27 (by decide) w510 rfl d_M_flush_200 ?_
          refine lv_aload_n hx hb d_M_flush_203 rfl (lv_at hl 3 rfl) ?_
          refine gF (v := .int (nI y.parcelCount)) hx hb hown hE hK hP 0 rfl rfl layM 28 (by decide) w344 rfl d_M_flush_204 ?_
          refine lv_iload_n hx hb d_M_flush_207 rfl (lv_at hl 1 rfl) ?_
          refine nistN (v := v) hx hb hK hP hD hS 13 1 rfl rfl (y.parcelCount) (by omega) (by decide) d_M_flush_208 (fun H locs hP hD hS => ?_)
          have hP : va_P D vwCl (MW dA h ad (MS.s_parcelBlocks (MS.s_parcels y (va_up y.parcels y.parcelCount y.parcelNumber)) (va_up y.parcelBlocks y.parcelCount v))) H := hP
          have hD : va_D A (MW dA h ad (MS.s_parcelBlocks (MS.s_parcels y (va_up y.parcels y.parcelCount y.parcelNumber)) (va_up y.parcelBlocks y.parcelCount v))) := hD
          refine lv_aload_n hx hb d_M_flush_209 rfl (lv_at hl 3 rfl) ?_
          refine lv_dup hx hb d_M_flush_210 rfl ?_
          refine gF (v := .int (nI y.parcelCount)) hx hb hown hE hK hP 0 rfl rfl layM 28 (by decide) w344 rfl d_M_flush_211 ?_
          refine lv_iconst (v := 1) hx hb d_M_flush_214 (by decide) ?_
          refine lv_iadd hx hb d_M_flush_215 (tpi (y := nI (y.parcelCount + 1)) (nI_add (y.parcelCount) (1)) ?_)
          refine pF (v := .int (nI (y.parcelCount + 1))) hx hb hown hE hK hP hD hS 0 rfl rfl layM tyM tokM nmM 28 (by decide) w344 rfl rfl rfl (Nat.le_of_ble_eq_true rfl) d_M_flush_216 (fun H locs hP hD hS => ?_)
          have hP : va_P D vwCl (MW dA h ad (MS.s_parcelCount (MS.s_parcelBlocks (MS.s_parcels y (va_up y.parcels y.parcelCount y.parcelNumber)) (va_up y.parcelBlocks y.parcelCount v)) (y.parcelCount + 1))) H := hP
          have hD : va_D A (MW dA h ad (MS.s_parcelCount (MS.s_parcelBlocks (MS.s_parcels y (va_up y.parcels y.parcelCount y.parcelNumber)) (va_up y.parcelBlocks y.parcelCount v)) (y.parcelCount + 1))) := hD
          refine lv_aload_n hx hb d_M_flush_219 rfl (lv_at hl 3 rfl) ?_
          refine lv_dup hx hb d_M_flush_220 rfl ?_
          refine gF (v := .int (nI y.parcelNumber)) hx hb hown hE hK hP 0 rfl rfl layM 29 (by decide) w929 rfl d_M_flush_221 ?_
          refine lv_iconst (v := 1) hx hb d_M_flush_224 (by decide) ?_
          refine lv_iadd hx hb d_M_flush_225 (tpi (y := nI (y.parcelNumber + 1)) (nI_add (y.parcelNumber) (1)) ?_)
          refine pF (v := .int (nI (y.parcelNumber + 1))) hx hb hown hE hK hP hD hS 0 rfl rfl layM tyM tokM nmM 29 (by decide) w929 rfl rfl rfl (Nat.le_of_ble_eq_true rfl) d_M_flush_226 (fun H locs hP hD hS => ?_)
          have hP : va_P D vwCl (MW dA h ad (MS.s_parcelNumber (MS.s_parcelCount (MS.s_parcelBlocks (MS.s_parcels y (va_up y.parcels y.parcelCount y.parcelNumber)) (va_up y.parcelBlocks y.parcelCount v)) (y.parcelCount + 1)) (y.parcelNumber + 1))) H := hP
          have hD : va_D A (MW dA h ad (MS.s_parcelNumber (MS.s_parcelCount (MS.s_parcelBlocks (MS.s_parcels y (va_up y.parcels y.parcelCount y.parcelNumber)) (va_up y.parcelBlocks y.parcelCount v)) (y.parcelCount + 1)) (y.parcelNumber + 1))) := hD
          exact J229 (MS.s_parcelNumber (MS.s_parcelCount (MS.s_parcelBlocks (MS.s_parcels y (va_up y.parcels y.parcelCount y.parcelNumber)) (va_up y.parcelBlocks y.parcelCount v)) (y.parcelCount + 1)) (y.parcelNumber + 1)) (by rw [g5]; rfl) y1 y3 H _ ls hP hD hS (lv_sub hl [0, 1, 2, 3] rfl)
        refine lv_iconst (v := 0) hx hb d_M_flush_118 (by decide) ?_
        refine lv_istore hx hb d_M_flush_119 hl (by decide) rfl (fun ls hl => ?_)
        have hl : lv_has ls 5 [(4, .int 0), (3, .int (nI x.catN)), (2, .int (nI v)), (1, .int (bI pk)), (0, .ref h)] := hl
        have L121 : ∀ (k9 : Nat) (q : Nat) (i1 : q ≤ x.points) (hk9 : x.points - q = k9), ∀ (H : Heap) (locs : List Loc) (ls : Array Slot) (hP : va_P D vwCl (MW dA h ad (MS.s_places (MS.s_written (MS.s_cutLeft (MS.s_cod x 0) (cutN x.cutLeft (v + x.catN + 1))) (x.written + (v + x.catN + 1))) (mapT q x.isM1 x.flP x.places))) H) (hD : va_D A (MW dA h ad (MS.s_places (MS.s_written (MS.s_cutLeft (MS.s_cod x 0) (cutN x.cutLeft (v + x.catN + 1))) (x.written + (v + x.catN + 1))) (mapT q x.isM1 x.flP x.places)))) (hS : va_S A s.heap H locs) (hl : lv_has ls 5 [(4, .int (nI q)), (3, .int (nI x.catN)), (2, .int (nI v)), (1, .int (bI pk)), (0, .ref h)]), W p l e ({ frames := 3, cells := 0, slots := 0, locals := 63 } : Room) s m ([.ref h] : List Value).toArray below meth c H locs 0 0 (MQ below (va_Qi (fun (r9 : Int32) (u9 : MS) => r9 = nI (x.manyN + x.catN + 1) ∧ u9 = x.fluS) (fun (u9 : MS) t9 => bW D A (MW dA h ad u9) t9) A) ([.ref h] : List Value).toArray s 0 0 A) (F0 m 121 ls []) := by
          intro k9
          induction k9 using Nat.strongRecOn with
          | ind k9 ih121 =>
            intro q i1 hk9 H locs ls hP hD hS hl
            refine lv_iload hx hb d_M_flush_121 (lv_at hl 0 rfl) ?_
            refine lv_aload_n hx hb d_M_flush_123 rfl (lv_at hl 4 rfl) ?_
            refine gF (v := .int (nI x.points)) hx hb hown hE hK hP 0 rfl rfl layM 23 (by decide) w420 rfl d_M_flush_124 ?_
            refine lv_icmp_ge hx hb d_M_flush_127 (tgt := 182) rfl (fun g30 => ?_) (fun g30 => ?_)
            · have g30 := (nI_leI (a := x.points) (b := q) (by omega) (by omega)).mp g30
              exact J182 (MS.s_places (MS.s_written (MS.s_cutLeft (MS.s_cod x 0) (cutN x.cutLeft (v + x.catN + 1))) (x.written + (v + x.catN + 1))) (mapT q x.isM1 x.flP x.places)) (by rw [show q = x.points by omega]; rfl) rfl rfl rfl H _ ls hP hD hS (lv_sub hl [1, 2, 3, 4] rfl)
            · have g30 := mt (nI_leI (a := x.points) (b := q) (by omega) (by omega)).mpr g30
              refine lv_aload_n hx hb d_M_flush_130 rfl (lv_at hl 4 rfl) ?_
              refine gF (v := .ref (ad 20)) hx hb hown hE hK hP 0 rfl rfl layM 20 (by decide) w506 rfl d_M_flush_131 ?_
              refine lv_iload hx hb d_M_flush_134 (lv_at hl 0 rfl) ?_
              refine lv_aload_n hx hb d_M_flush_136 rfl (lv_at hl 4 rfl) ?_
              refine gF (v := .ref (ad 20)) hx hb hown hE hK hP 0 rfl rfl layM 20 (by decide) w506 rfl d_M_flush_137 ?_
              refine lv_iload hx hb d_M_flush_140 (lv_at hl 0 rfl) ?_
              refine nild (f := (mapT q x.isM1 x.flP x.places)) hx hb hK hP 9 1 rfl rfl (q) (by omega) (by decide) d_M_flush_142 ?_
              refine tpi (y := (x.places q)) (mapT_at _ _ _ (Nat.le_refl q)) ?_
              refine lv_iconst (v := (-1)) hx hb d_M_flush_143 (by decide) ?_
              refine lv_icmp_ne hx hb d_M_flush_144 (tgt := 168) rfl (fun g31 => ?_) (fun g31 => ?_)
              · have g31 := g31
                refine lv_aload_n hx hb d_M_flush_168 rfl (lv_at hl 4 rfl) ?_
                refine gF (v := .ref (ad 20)) hx hb hown hE hK hP 0 rfl rfl layM 20 (by decide) w506 rfl d_M_flush_169 ?_
                refine lv_iload hx hb d_M_flush_172 (lv_at hl 0 rfl) ?_
                refine nild (f := (mapT q x.isM1 x.flP x.places)) hx hb hK hP 9 1 rfl rfl (q) (by omega) (by decide) d_M_flush_174 ?_
                refine tpi (y := (x.places q)) (mapT_at _ _ _ (Nat.le_refl q)) ?_
                refine nist hx hb hK hP hD hS 9 1 rfl rfl (q) (by omega) (by decide) d_M_flush_175 (fun H locs hP hD hS => ?_)
                have hP : va_P D vwCl (MW dA h ad (MS.s_places (MS.s_written (MS.s_cutLeft (MS.s_cod x 0) (cutN x.cutLeft (v + x.catN + 1))) (x.written + (v + x.catN + 1))) (va_up (mapT q x.isM1 x.flP x.places) q (x.places q)))) H := hP
                have hD : va_D A (MW dA h ad (MS.s_places (MS.s_written (MS.s_cutLeft (MS.s_cod x 0) (cutN x.cutLeft (v + x.catN + 1))) (x.written + (v + x.catN + 1))) (va_up (mapT q x.isM1 x.flP x.places) q (x.places q)))) := hD
                refine lv_iinc (k := 0) (v := nI (q + 1)) hx hb d_M_flush_176 hl rfl (iincN (q) 1 1 (by decide)) (by decide) rfl (fun ls hl => ?_)
                have hl : lv_has ls 5 [(4, .int (nI (q + 1))), (3, .int (nI x.catN)), (2, .int (nI v)), (1, .int (bI pk)), (0, .ref h)] := hl
                refine lv_goto hx hb d_M_flush_179 (tgt := 121) rfl ?_
                have e9 : (MS.s_places (MS.s_written (MS.s_cutLeft (MS.s_cod x 0) (cutN x.cutLeft (v + x.catN + 1))) (x.written + (v + x.catN + 1))) (va_up (mapT q x.isM1 x.flP x.places) q (x.places q)) : MS) = MS.s_places (MS.s_written (MS.s_cutLeft (MS.s_cod x 0) (cutN x.cutLeft (v + x.catN + 1))) (x.written + (v + x.catN + 1))) (mapT (q + 1) x.isM1 x.flP x.places) := by rw [show (mapT (q + 1) x.isM1 x.flP x.places) = (va_up (mapT q x.isM1 x.flP x.places) q (x.places q)) from (mapT_u (by simp [MS.isM1, *]) rfl)] <;> rfl
                exact ih121 _ (by omega) (q + 1) (by omega) rfl H _ ls (cvP e9 hP) (cvD e9 hD) hS (lv_sub hl [0, 1, 2, 3, 4] rfl)
              · have g31 := g31
                refine lv_aload_n hx hb d_M_flush_147 rfl (lv_at hl 4 rfl) ?_
                refine lv_iload hx hb d_M_flush_148 (lv_at hl 0 rfl) ?_
                refine jfI (rnV (As := [.int (nI q)]) (rest := [.int (nI q), .ref (ad 20)]) hx hb hml hown hE hK (hN _ _ hS) hP hD (k_isSeen l D dA H.size h ad (MS.s_places (MS.s_written (MS.s_cutLeft (MS.s_cod x 0) (cutN x.cutLeft (v + x.catN + 1))) (x.written + (v + x.catN + 1))) (mapT q x.isM1 x.flP x.places)) q (show q < 12000 from by omega)) (q0 := 0) rfl rfl w861 w860 w862 w863 w328 rfl rfl ⟨⟨by decide, by decide⟩, rfl⟩ ⟨(Nat.le_of_ble_eq_true rfl), (Nat.le_of_ble_eq_true rfl)⟩ rfl hl.1 rfl (Nat.le_of_ble_eq_true rfl) d_M_flush_150 ⟨(Nat.le_of_ble_eq_true rfl), (Nat.le_of_ble_eq_true rfl)⟩) hP hD hS hA (fun r32 u33 H locs hp9 hP hD hS => ?_)
                have hP : va_P D vwCl (MW dA h ad (MS.s_places (MS.s_written (MS.s_cutLeft (MS.s_cod x 0) (cutN x.cutLeft (v + x.catN + 1))) (x.written + (v + x.catN + 1))) (mapT q x.isM1 x.flP x.places))) H := hP
                have hD : va_D A (MW dA h ad (MS.s_places (MS.s_written (MS.s_cutLeft (MS.s_cod x 0) (cutN x.cutLeft (v + x.catN + 1))) (x.written + (v + x.catN + 1))) (mapT q x.isM1 x.flP x.places))) := hD
                replace hp9 : bI ((MS.s_places x (mapT q x.isM1 x.flP x.places)).seen q) = r32 := Eq.symm hp9
                subst hp9
                rw [seen_mapP]
                refine lv_if_eq hx hb d_M_flush_153 (tgt := 163) rfl (fun g34 => ?_) (fun g34 => ?_)
                · have g34 := bI_0 g34
                  refine lv_bipush (v := (-2)) hx hb d_M_flush_163 (by decide) ?_
                  refine lv_goto hx hb d_M_flush_165 (tgt := 175) rfl ?_
                  refine nist hx hb hK hP hD hS 9 1 rfl rfl (q) (by omega) (by decide) d_M_flush_175 (fun H locs hP hD hS => ?_)
                  have hP : va_P D vwCl (MW dA h ad (MS.s_places (MS.s_written (MS.s_cutLeft (MS.s_cod x 0) (cutN x.cutLeft (v + x.catN + 1))) (x.written + (v + x.catN + 1))) (va_up (mapT q x.isM1 x.flP x.places) q (-2)))) H := hP
                  have hD : va_D A (MW dA h ad (MS.s_places (MS.s_written (MS.s_cutLeft (MS.s_cod x 0) (cutN x.cutLeft (v + x.catN + 1))) (x.written + (v + x.catN + 1))) (va_up (mapT q x.isM1 x.flP x.places) q (-2)))) := hD
                  refine lv_iinc (k := 0) (v := nI (q + 1)) hx hb d_M_flush_176 hl rfl (iincN (q) 1 1 (by decide)) (by decide) rfl (fun ls hl => ?_)
                  have hl : lv_has ls 5 [(4, .int (nI (q + 1))), (3, .int (nI x.catN)), (2, .int (nI v)), (1, .int (bI pk)), (0, .ref h)] := hl
                  refine lv_goto hx hb d_M_flush_179 (tgt := 121) rfl ?_
                  have e9 : (MS.s_places (MS.s_written (MS.s_cutLeft (MS.s_cod x 0) (cutN x.cutLeft (v + x.catN + 1))) (x.written + (v + x.catN + 1))) (va_up (mapT q x.isM1 x.flP x.places) q (-2)) : MS) = MS.s_places (MS.s_written (MS.s_cutLeft (MS.s_cod x 0) (cutN x.cutLeft (v + x.catN + 1))) (x.written + (v + x.catN + 1))) (mapT (q + 1) x.isM1 x.flP x.places) := by rw [show (mapT (q + 1) x.isM1 x.flP x.places) = (va_up (mapT q x.isM1 x.flP x.places) q (-2)) from (mapT_t (by simp [MS.isM1, *]) (by simp [MS.flP, *]))] <;> rfl
                  exact ih121 _ (by omega) (q + 1) (by omega) rfl H _ ls (cvP e9 hP) (cvD e9 hD) hS (lv_sub hl [0, 1, 2, 3, 4] rfl)
                · have g34 := bI_n0 g34
                  refine lv_aload_n hx hb d_M_flush_156 rfl (lv_at hl 4 rfl) ?_
                  refine gF (v := .int (nI x.parcelNumber)) hx hb hown hE hK hP 0 rfl rfl layM 29 (by decide) w929 rfl d_M_flush_157 ?_
                  refine lv_goto hx hb d_M_flush_160 (tgt := 175) rfl ?_
                  refine nist hx hb hK hP hD hS 9 1 rfl rfl (q) (by omega) (by decide) d_M_flush_175 (fun H locs hP hD hS => ?_)
                  have hP : va_P D vwCl (MW dA h ad (MS.s_places (MS.s_written (MS.s_cutLeft (MS.s_cod x 0) (cutN x.cutLeft (v + x.catN + 1))) (x.written + (v + x.catN + 1))) (va_up (mapT q x.isM1 x.flP x.places) q (nI x.parcelNumber)))) H := hP
                  have hD : va_D A (MW dA h ad (MS.s_places (MS.s_written (MS.s_cutLeft (MS.s_cod x 0) (cutN x.cutLeft (v + x.catN + 1))) (x.written + (v + x.catN + 1))) (va_up (mapT q x.isM1 x.flP x.places) q (nI x.parcelNumber)))) := hD
                  refine lv_iinc (k := 0) (v := nI (q + 1)) hx hb d_M_flush_176 hl rfl (iincN (q) 1 1 (by decide)) (by decide) rfl (fun ls hl => ?_)
                  have hl : lv_has ls 5 [(4, .int (nI (q + 1))), (3, .int (nI x.catN)), (2, .int (nI v)), (1, .int (bI pk)), (0, .ref h)] := hl
                  refine lv_goto hx hb d_M_flush_179 (tgt := 121) rfl ?_
                  have e9 : (MS.s_places (MS.s_written (MS.s_cutLeft (MS.s_cod x 0) (cutN x.cutLeft (v + x.catN + 1))) (x.written + (v + x.catN + 1))) (va_up (mapT q x.isM1 x.flP x.places) q (nI x.parcelNumber)) : MS) = MS.s_places (MS.s_written (MS.s_cutLeft (MS.s_cod x 0) (cutN x.cutLeft (v + x.catN + 1))) (x.written + (v + x.catN + 1))) (mapT (q + 1) x.isM1 x.flP x.places) := by rw [show (mapT (q + 1) x.isM1 x.flP x.places) = (va_up (mapT q x.isM1 x.flP x.places) q (nI x.parcelNumber)) from (mapT_t (by simp [MS.isM1, *]) (by simp [MS.flP, *]))] <;> rfl
                  exact ih121 _ (by omega) (q + 1) (by omega) rfl H _ ls (cvP e9 hP) (cvD e9 hD) hS (lv_sub hl [0, 1, 2, 3, 4] rfl)
        have e9 : (MS.s_written (MS.s_cutLeft (MS.s_cod x 0) (cutN x.cutLeft (v + x.catN + 1))) (x.written + (v + x.catN + 1)) : MS) = MS.s_places (MS.s_written (MS.s_cutLeft (MS.s_cod x 0) (cutN x.cutLeft (v + x.catN + 1))) (x.written + (v + x.catN + 1))) (mapT 0 x.isM1 x.flP x.places) := by rw [show (mapT 0 x.isM1 x.flP x.places) = x.places from (mapT_0 _ _ _)] <;> rfl
        exact L121 _ 0 (Nat.zero_le _) rfl H _ ls (cvP e9 hP) (cvD e9 hD) hS (lv_sub hl [0, 1, 2, 3, 4] rfl)
    refine lv_iload_n hx hb d_M_flush_45 rfl (lv_at hl 0 rfl) ?_
    refine lv_if_eq hx hb d_M_flush_46 (tgt := 62) rfl (fun g35 => ?_) (fun g35 => ?_)
    · have g35 := bI_0 g35
      refine lv_iconst (v := 0) hx hb d_M_flush_62 (by decide) ?_
      exact J63 0 (by unfold MS.manyN; simp [g35] at hpk; simp [hpk]) H _ ls hP hD hS (lv_sub hl [0, 1] rfl)
    · have g35 := bI_n0 g35
      refine lv_aload_n hx hb d_M_flush_49 rfl (lv_at hl 1 rfl) ?_
      refine lv_iconst (v := (-1)) hx hb d_M_flush_50 (by decide) ?_
      refine lv_iconst (v := (-1)) hx hb d_M_flush_51 (by decide) ?_
      refine lv_iconst (v := 1) hx hb d_M_flush_52 (by decide) ?_
      refine jfL (rnV (As := [.int (-1), .int (-1), .int 1]) (rest := []) hx hb hml hown hE hK (hN _ _ hS) hP hD (k_bitsOf l D dA H.size h ad (MS.s_cod x 0) (-1) (-1) true (show x.points ≤ 12000 from by omega) (show x.seriesCount ≤ 256 from by omega) hs) (q0 := 0) rfl rfl w915 w914 w916 w917 w328 rfl rfl ⟨⟨by decide, by decide⟩, rfl⟩ ⟨(Nat.le_of_ble_eq_true rfl), (Nat.le_of_ble_eq_true rfl)⟩ rfl hl.1 rfl (Nat.le_of_ble_eq_true rfl) d_M_flush_53 ⟨(Nat.le_of_ble_eq_true rfl), (Nat.le_of_ble_eq_true rfl)⟩) hP hD hS hA (fun r36 u37 H locs hp9 hP hD hS => ?_)
      have hP : va_P D vwCl (MW dA h ad (MS.s_cod x 0)) H := hP
      have hD : va_D A (MW dA h ad (MS.s_cod x 0)) := hD
      replace hp9 : r36 = lN (x.bA (-1) (-1) true x.seriesCount) := hp9.trans (congrArg lN (bA_ext rfl rfl rfl rfl rfl rfl rfl))
      replace hp9 : lN (x.bA (-1) (-1) true x.seriesCount) = r36 := Eq.symm hp9
      subst hp9
      have hPc := hP.sub (ws' := []) [] rfl
      have hDc := hD.sub (ws' := []) [] (by decide) rfl
      refine jnI (rnS (As := [.long (lN (x.bA (-1) (-1) true x.seriesCount))]) (rest := []) hx hb hml hown hE hK (hN _ _ hS) hPc hDc (k_blocksOf l D dA H.size (lN (x.bA (-1) (-1) true x.seriesCount))) w923 w922 w924 w328 rfl rfl ⟨⟨by decide, by decide⟩, rfl⟩ ⟨(Nat.le_of_ble_eq_true rfl), (Nat.le_of_ble_eq_true rfl)⟩ rfl hl.1 rfl (Nat.le_of_ble_eq_true rfl) d_M_flush_56 ⟨(Nat.le_of_ble_eq_true rfl), (Nat.le_of_ble_eq_true rfl)⟩) hP hD hS hA [] [0, 1, 2, 3, 4, 5, 6, 7, 8, 9, 10, 11, 12, 13, 14, 15, 16, 17, 18, 19, 20, 21, 22, 23, 24, 25, 26, 27, 28, 29, 30, 31, 32, 33, 34, 35, 36, 37, 38] (wr := MW dA h ad (MS.s_cod x 0)) rfl rfl (by decide) (by decide) (fun r38 u9 H locs hp9 hP hD hS => ?_)
      have hP : va_P D vwCl (MW dA h ad (MS.s_cod x 0)) H := hP
      have hD : va_D A (MW dA h ad (MS.s_cod x 0)) := hD
      replace hp9 : (((lN (x.bA (-1) (-1) true x.seriesCount)) + 32255) / 32256).toInt32 = r38 := Eq.symm hp9
      subst hp9
      refine tpi (y := nI ((x.bA (-1) (-1) true x.seriesCount + 32255) / 32256)) (blkI (by have := bA_le x (-1) (-1) true h1 x.seriesCount; omega)) ?_
      refine lv_goto hx hb d_M_flush_59 (tgt := 63) rfl ?_
      exact J63 ((x.bA (-1) (-1) true x.seriesCount + 32255) / 32256) (by unfold MS.manyN; simp [g35] at hpk; simp [hpk]) H _ ls hP hD hS (lv_sub hl [0, 1] rfl)
  have hz9 := cnt_le x.points (fun q => decide (x.places q = -1) && x.seen q)
  have hz9 : x.heads ≤ x.points := hz9
  refine lv_if_le hx hb d_M_flush_36 (tgt := 43) rfl (fun g40 => ?_) (fun g40 => ?_)
  · have g40 := (nI_leI (a := x.heads) (b := 0) (by omega) (by decide)).mp g40
    refine lv_iconst (v := 0) hx hb d_M_flush_43 (by decide) ?_
    exact J44 false (by simp; omega) H _ ls hP hD hS (lv_sub hl [0] rfl)
  · have g40 := mt (nI_leI (a := x.heads) (b := 0) (by omega) (by decide)).mpr g40
    refine lv_iconst (v := 1) hx hb d_M_flush_39 (by decide) ?_
    refine lv_goto hx hb d_M_flush_40 (tgt := 44) rfl ?_
    exact J44 true (by simp; omega) H _ ls hP hD hS (lv_sub hl [0] rfl)
end
section
set_option maxHeartbeats 4000000 in
set_option maxRecDepth 100000 in
theorem k_synced (l : Launch) (D : va_G) (dA : Nat → ClassId) (sz : Nat) (h : Nat) (ad : Nat → Nat) (x : MS) (hsy : x.fresh = false ∨ ¬ x.cutLeft = 0) : Met l ⟨"SeriesVaultModel", "synced", "()Z"⟩ [Cond.code ⟨"SeriesVaultModel", "synced", "()Z"⟩ prog_14_method_12_code 1 (some FieldType.boolean)] { frames := 2, cells := 0, slots := 0, locals := 20 } (pC D dA [.ref h] (MW dA h ad x) sz) (va_Qi (fun (r9 : Int32) (u9 : Unit) => r9 = bI true) (fun (u9 : Unit) t9 => bW D (va_A (MW dA h ad x) sz) (MW dA h ad (MS.s_fresh (MS.s_kept (MS.s_written (MS.s_cutLeft x x.syCut) x.syWr) x.records) false)) t9) (va_A (MW dA h ad x) sz)) 0 0 (va_A (MW dA h ad x) sz) := by
  refine mkC (y := ⟨"SeriesVaultModel", "synced", "()Z"⟩) (cc := prog_14_method_12_code) (maxL := 1) (av := [.ref h]) (ws := MW dA h ad x) (sz := sz) (Qc := fun A => va_Qi (fun (r9 : Int32) (u9 : Unit) => r9 = bI true) (fun (u9 : Unit) t9 => bW D A (MW dA h ad (MS.s_fresh (MS.s_kept (MS.s_written (MS.s_cutLeft x x.syCut) x.syWr) x.records) false)) t9) A) (by decide) (Nat.le_of_ble_eq_true rfl) ?_
  intro A p e s m below meth c ls hsz hB
  obtain ⟨hx, hb, hr, hml, hown, hin, hlk, hE, hK, hP, hD, hS, hA, hN, hl⟩ := hB
  have hown : s.vm.findClass "SeriesVaultModel" = some m.cls := hown
  have hl : lv_has ls 1 [(0, .ref h)] := hl
  obtain ⟨H, hH⟩ : ∃ z, z = s.heap := ⟨_, rfl⟩
  have hP : va_P D vwCl (MW dA h ad x) H := by rw [hH]; exact hP
  have hS : va_S A s.heap H [] := by rw [hH]; exact hS
  rw [← hH]
  refine lv_aload_n hx hb d_M_synced_0 rfl (lv_at hl 0 rfl) ?_
  refine gF (v := .int (bI x.fresh)) hx hb hown hE hK hP 0 rfl rfl layM 41 (by decide) w337 rfl d_M_synced_1 ?_
  refine lv_if_eq hx hb d_M_synced_4 (tgt := 16) rfl (fun g1 => ?_) (fun g1 => ?_)
  · have g1 := bI_0 g1
    refine lv_aload_n hx hb d_M_synced_16 rfl (lv_at hl 0 rfl) ?_
    refine lv_iconst (v := 0) hx hb d_M_synced_17 (by decide) ?_
    refine pF (v := .int (bI false)) hx hb hown hE hK hP hD hS 0 rfl rfl layM tyM tokM nmM 41 (by decide) w337 rfl (bI_nar false) (bI_fit false) (Nat.le_of_ble_eq_true rfl) d_M_synced_18 (fun H locs hP hD hS => ?_)
    have hP : va_P D vwCl (MW dA h ad (MS.s_fresh x false)) H := hP
    have hD : va_D A (MW dA h ad (MS.s_fresh x false)) := hD
    refine lv_aload_n hx hb d_M_synced_21 rfl (lv_at hl 0 rfl) ?_
    refine lv_aload_n hx hb d_M_synced_22 rfl (lv_at hl 0 rfl) ?_
    refine gF (v := .int (nI x.records)) hx hb hown hE hK hP 0 rfl rfl layM 37 (by decide) w338 rfl d_M_synced_23 ?_
    refine pF (v := .int (nI x.records)) hx hb hown hE hK hP hD hS 0 rfl rfl layM tyM tokM nmM 38 (by decide) w339 rfl rfl rfl (Nat.le_of_ble_eq_true rfl) d_M_synced_26 (fun H locs hP hD hS => ?_)
    have hP : va_P D vwCl (MW dA h ad (MS.s_fresh (MS.s_kept x x.records) false)) H := hP
    have hD : va_D A (MW dA h ad (MS.s_fresh (MS.s_kept x x.records) false)) := hD
    refine lv_iconst (v := 1) hx hb d_M_synced_29 (by decide) ?_
    have e9 : (MS.s_fresh (MS.s_kept x x.records) false : MS) = MS.s_fresh (MS.s_kept (MS.s_written (MS.s_cutLeft x x.syCut) x.syWr) x.records) false := by rw [show x.syCut = x.cutLeft from by simp [MS.syCut, MS.syWr, *], show x.syWr = x.written from by simp [MS.syCut, MS.syWr, *]] <;> rfl
    exact rfZ hx hb hr (bI_nar true) hlk hS () rfl (cvP e9 hP) (cvD e9 hD) (Nat.le_of_ble_eq_true rfl) (Nat.le_of_ble_eq_true rfl) d_M_synced_30
  · have g1 := bI_n0 g1
    refine lv_aload_n hx hb d_M_synced_7 rfl (lv_at hl 0 rfl) ?_
    refine jfI (rnV (As := []) (rest := []) hx hb hml hown hE hK (hN _ _ hS) hP hD (k_write l D dA H.size h ad x (hsy.resolve_left (by simp [*]))) (q0 := 0) rfl rfl w452 w451 w453 w454 w328 rfl rfl ⟨⟨by decide, by decide⟩, rfl⟩ ⟨(Nat.le_of_ble_eq_true rfl), (Nat.le_of_ble_eq_true rfl)⟩ rfl hl.1 rfl (Nat.le_of_ble_eq_true rfl) d_M_synced_8 ⟨(Nat.le_of_ble_eq_true rfl), (Nat.le_of_ble_eq_true rfl)⟩) hP hD hS hA (fun r2 u3 H locs hp9 hP hD hS => ?_)
    have hP : va_P D vwCl (MW dA h ad (MS.s_written (MS.s_cutLeft x (cutF x.cutLeft)) (x.written + 1))) H := hP
    have hD : va_D A (MW dA h ad (MS.s_written (MS.s_cutLeft x (cutF x.cutLeft)) (x.written + 1))) := hD
    replace hp9 : bI true = r2 := Eq.symm hp9
    subst hp9
    refine lv_if_ne hx hb d_M_synced_11 (tgt := 16) rfl (fun _ => ?_) (fun h9 => absurd h9 (by decide))
    refine lv_aload_n hx hb d_M_synced_16 rfl (lv_at hl 0 rfl) ?_
    refine lv_iconst (v := 0) hx hb d_M_synced_17 (by decide) ?_
    refine pF (v := .int (bI false)) hx hb hown hE hK hP hD hS 0 rfl rfl layM tyM tokM nmM 41 (by decide) w337 rfl (bI_nar false) (bI_fit false) (Nat.le_of_ble_eq_true rfl) d_M_synced_18 (fun H locs hP hD hS => ?_)
    have hP : va_P D vwCl (MW dA h ad (MS.s_fresh (MS.s_written (MS.s_cutLeft x (cutF x.cutLeft)) (x.written + 1)) false)) H := hP
    have hD : va_D A (MW dA h ad (MS.s_fresh (MS.s_written (MS.s_cutLeft x (cutF x.cutLeft)) (x.written + 1)) false)) := hD
    refine lv_aload_n hx hb d_M_synced_21 rfl (lv_at hl 0 rfl) ?_
    refine lv_aload_n hx hb d_M_synced_22 rfl (lv_at hl 0 rfl) ?_
    refine gF (v := .int (nI x.records)) hx hb hown hE hK hP 0 rfl rfl layM 37 (by decide) w338 rfl d_M_synced_23 ?_
    refine pF (v := .int (nI x.records)) hx hb hown hE hK hP hD hS 0 rfl rfl layM tyM tokM nmM 38 (by decide) w339 rfl rfl rfl (Nat.le_of_ble_eq_true rfl) d_M_synced_26 (fun H locs hP hD hS => ?_)
    have hP : va_P D vwCl (MW dA h ad (MS.s_fresh (MS.s_kept (MS.s_written (MS.s_cutLeft x (cutF x.cutLeft)) (x.written + 1)) x.records) false)) H := hP
    have hD : va_D A (MW dA h ad (MS.s_fresh (MS.s_kept (MS.s_written (MS.s_cutLeft x (cutF x.cutLeft)) (x.written + 1)) x.records) false)) := hD
    refine lv_iconst (v := 1) hx hb d_M_synced_29 (by decide) ?_
    have e9 : (MS.s_fresh (MS.s_kept (MS.s_written (MS.s_cutLeft x (cutF x.cutLeft)) (x.written + 1)) x.records) false : MS) = MS.s_fresh (MS.s_kept (MS.s_written (MS.s_cutLeft x x.syCut) x.syWr) x.records) false := by rw [show x.syCut = (cutF x.cutLeft) from by simp [MS.syCut, MS.syWr, *], show x.syWr = (x.written + 1) from by simp [MS.syCut, MS.syWr, *]] <;> rfl
    exact rfZ hx hb hr (bI_nar true) hlk hS () rfl (cvP e9 hP) (cvD e9 hD) (Nat.le_of_ble_eq_true rfl) (Nat.le_of_ble_eq_true rfl) d_M_synced_30
theorem d_M_compact_8 : decode prog_14_method_45_code 8 = .ok (.iconst 1, 1) := by decide +kernel
theorem d_M_compact_9 : decode prog_14_method_45_code 9 = .ok (.goto 22, 3) := by decide +kernel
set_option maxHeartbeats 4000000 in
set_option maxRecDepth 100000 in
theorem k_compact_1 (l : Launch) (D : va_G) (dA : Nat → ClassId) (sz : Nat) (h : Nat) (ad : Nat → Nat) (x : MS) (z : Int32) (ho : x.on = false) : Met l ⟨"SeriesVaultModel", "compact", "(I)I"⟩ [Cond.code ⟨"SeriesVaultModel", "compact", "(I)I"⟩ prog_14_method_45_code 7 (some FieldType.int)] { frames := 1, cells := 0, slots := 0, locals := 0 } (pC D dA [.ref h, .int z] (MW dA h ad x) sz) (va_Qi (fun (r9 : Int32) (u9 : Unit) => r9 = 0) (fun (u9 : Unit) t9 => bW D (va_A (MW dA h ad x) sz) (MW dA h ad (MS.s_cod x 1)) t9) (va_A (MW dA h ad x) sz)) 0 0 (va_A (MW dA h ad x) sz) := by
  refine mkC (y := ⟨"SeriesVaultModel", "compact", "(I)I"⟩) (cc := prog_14_method_45_code) (maxL := 7) (av := [.ref h, .int z]) (ws := MW dA h ad x) (sz := sz) (Qc := fun A => va_Qi (fun (r9 : Int32) (u9 : Unit) => r9 = 0) (fun (u9 : Unit) t9 => bW D A (MW dA h ad (MS.s_cod x 1)) t9) A) (by decide) (Nat.le_of_ble_eq_true rfl) ?_
  intro A p e s m below meth c ls hsz hB
  obtain ⟨hx, hb, hr, hml, hown, hin, hlk, hE, hK, hP, hD, hS, hA, hN, hl⟩ := hB
  have hown : s.vm.findClass "SeriesVaultModel" = some m.cls := hown
  have hl : lv_has ls 7 [(0, .ref h), (1, .int z)] := hl
  obtain ⟨H, hH⟩ : ∃ z, z = s.heap := ⟨_, rfl⟩
  have hP : va_P D vwCl (MW dA h ad x) H := by rw [hH]; exact hP
  have hS : va_S A s.heap H [] := by rw [hH]; exact hS
  rw [← hH]
  refine lv_aload_n hx hb d_M_compact_0 rfl (lv_at hl 0 rfl) ?_
  refine lv_aload_n hx hb d_M_compact_1 rfl (lv_at hl 0 rfl) ?_
  refine gF (v := .int (bI x.on)) hx hb hown hE hK hP 0 rfl rfl layM 7 (by decide) w324 rfl d_M_compact_2 ?_
  refine lv_if_ne hx hb d_M_compact_5 (tgt := 12) rfl (fun h9 => absurd (by rw [ho]; decide) h9) (fun _ => ?_)
  refine lv_iconst (v := 1) hx hb d_M_compact_8 (by decide) ?_
  refine lv_goto hx hb d_M_compact_9 (tgt := 31) rfl ?_
  refine pF (v := .int 1) hx hb hown hE hK hP hD hS 0 rfl rfl layM tyM tokM nmM 0 (by decide) w319 rfl rfl rfl (Nat.le_of_ble_eq_true rfl) d_M_compact_31 (fun H locs hP hD hS => ?_)
  have hP : va_P D vwCl (MW dA h ad (MS.s_cod x 1)) H := hP
  have hD : va_D A (MW dA h ad (MS.s_cod x 1)) := hD
  refine lv_aload_n hx hb d_M_compact_34 rfl (lv_at hl 0 rfl) ?_
  refine gF (v := .int 1) hx hb hown hE hK hP 0 rfl rfl layM 0 (by decide) w319 rfl d_M_compact_35 ?_
  refine lv_if_le hx hb d_M_compact_38 (tgt := 43) rfl (fun h9 => absurd h9 (by decide)) (fun _ => ?_)
  refine lv_iconst (v := 0) hx hb d_M_compact_41 (by decide) ?_
  exact rfI hx hb hr hlk hS () rfl hP hD (Nat.le_of_ble_eq_true rfl) (Nat.le_of_ble_eq_true rfl) d_M_compact_42
set_option maxHeartbeats 4000000 in
set_option maxRecDepth 100000 in
theorem k_compact_2 (l : Launch) (D : va_G) (dA : Nat → ClassId) (sz : Nat) (h : Nat) (ad : Nat → Nat) (x : MS) (z : Int32) (ho : x.on = true) (h0 : z < 0 ∨ nI x.parcelCount - 1 ≤ z) : Met l ⟨"SeriesVaultModel", "compact", "(I)I"⟩ [Cond.code ⟨"SeriesVaultModel", "compact", "(I)I"⟩ prog_14_method_45_code 7 (some FieldType.int)] { frames := 1, cells := 0, slots := 0, locals := 0 } (pC D dA [.ref h, .int z] (MW dA h ad x) sz) (va_Qi (fun (r9 : Int32) (u9 : Unit) => r9 = 0) (fun (u9 : Unit) t9 => bW D (va_A (MW dA h ad x) sz) (MW dA h ad (MS.s_cod x 2)) t9) (va_A (MW dA h ad x) sz)) 0 0 (va_A (MW dA h ad x) sz) := by
  refine mkC (y := ⟨"SeriesVaultModel", "compact", "(I)I"⟩) (cc := prog_14_method_45_code) (maxL := 7) (av := [.ref h, .int z]) (ws := MW dA h ad x) (sz := sz) (Qc := fun A => va_Qi (fun (r9 : Int32) (u9 : Unit) => r9 = 0) (fun (u9 : Unit) t9 => bW D A (MW dA h ad (MS.s_cod x 2)) t9) A) (by decide) (Nat.le_of_ble_eq_true rfl) ?_
  intro A p e s m below meth c ls hsz hB
  obtain ⟨hx, hb, hr, hml, hown, hin, hlk, hE, hK, hP, hD, hS, hA, hN, hl⟩ := hB
  have hown : s.vm.findClass "SeriesVaultModel" = some m.cls := hown
  have hl : lv_has ls 7 [(0, .ref h), (1, .int z)] := hl
  obtain ⟨H, hH⟩ : ∃ z, z = s.heap := ⟨_, rfl⟩
  have hP : va_P D vwCl (MW dA h ad x) H := by rw [hH]; exact hP
  have hS : va_S A s.heap H [] := by rw [hH]; exact hS
  rw [← hH]
  refine lv_aload_n hx hb d_M_compact_0 rfl (lv_at hl 0 rfl) ?_
  refine lv_aload_n hx hb d_M_compact_1 rfl (lv_at hl 0 rfl) ?_
  refine gF (v := .int (bI x.on)) hx hb hown hE hK hP 0 rfl rfl layM 7 (by decide) w324 rfl d_M_compact_2 ?_
  refine lv_if_ne hx hb d_M_compact_5 (tgt := 12) rfl (fun _ => ?_) (fun h9 => absurd h9 (by rw [ho]; decide))
  refine lv_iload_n hx hb d_M_compact_12 rfl (lv_at hl 1 rfl) ?_
  refine lv_if_lt hx hb d_M_compact_13 (tgt := 26) rfl (fun g1 => ?_) (fun g1 => ?_)
  · have g1 := g1
    refine lv_iconst (v := 2) hx hb d_M_compact_26 (by decide) ?_
    refine lv_goto hx hb d_M_compact_27 (tgt := 31) rfl ?_
    refine pF (v := .int 2) hx hb hown hE hK hP hD hS 0 rfl rfl layM tyM tokM nmM 0 (by decide) w319 rfl rfl rfl (Nat.le_of_ble_eq_true rfl) d_M_compact_31 (fun H locs hP hD hS => ?_)
    have hP : va_P D vwCl (MW dA h ad (MS.s_cod x 2)) H := hP
    have hD : va_D A (MW dA h ad (MS.s_cod x 2)) := hD
    refine lv_aload_n hx hb d_M_compact_34 rfl (lv_at hl 0 rfl) ?_
    refine gF (v := .int 2) hx hb hown hE hK hP 0 rfl rfl layM 0 (by decide) w319 rfl d_M_compact_35 ?_
    refine lv_if_le hx hb d_M_compact_38 (tgt := 43) rfl (fun h9 => absurd h9 (by decide)) (fun _ => ?_)
    refine lv_iconst (v := 0) hx hb d_M_compact_41 (by decide) ?_
    exact rfI hx hb hr hlk hS () rfl hP hD (Nat.le_of_ble_eq_true rfl) (Nat.le_of_ble_eq_true rfl) d_M_compact_42
  · have g1 := g1
    refine lv_iload_n hx hb d_M_compact_16 rfl (lv_at hl 1 rfl) ?_
    refine lv_aload_n hx hb d_M_compact_17 rfl (lv_at hl 0 rfl) ?_
    refine gF (v := .int (nI x.parcelCount)) hx hb hown hE hK hP 0 rfl rfl layM 28 (by decide) w344 rfl d_M_compact_18 ?_
    refine lv_iconst (v := 1) hx hb d_M_compact_21 (by decide) ?_
    refine lv_isub hx hb d_M_compact_22 ?_
    refine lv_icmp_lt hx hb d_M_compact_23 (tgt := 30) rfl (fun h9 => absurd h9 (Int32.not_lt.mpr (h0.resolve_left (by assumption)))) (fun _ => ?_)
    refine lv_iconst (v := 2) hx hb d_M_compact_26 (by decide) ?_
    refine lv_goto hx hb d_M_compact_27 (tgt := 31) rfl ?_
    refine pF (v := .int 2) hx hb hown hE hK hP hD hS 0 rfl rfl layM tyM tokM nmM 0 (by decide) w319 rfl rfl rfl (Nat.le_of_ble_eq_true rfl) d_M_compact_31 (fun H locs hP hD hS => ?_)
    have hP : va_P D vwCl (MW dA h ad (MS.s_cod x 2)) H := hP
    have hD : va_D A (MW dA h ad (MS.s_cod x 2)) := hD
    refine lv_aload_n hx hb d_M_compact_34 rfl (lv_at hl 0 rfl) ?_
    refine gF (v := .int 2) hx hb hown hE hK hP 0 rfl rfl layM 0 (by decide) w319 rfl d_M_compact_35 ?_
    refine lv_if_le hx hb d_M_compact_38 (tgt := 43) rfl (fun h9 => absurd h9 (by decide)) (fun _ => ?_)
    refine lv_iconst (v := 0) hx hb d_M_compact_41 (by decide) ?_
    exact rfI hx hb hr hlk hS () rfl hP hD (Nat.le_of_ble_eq_true rfl) (Nat.le_of_ble_eq_true rfl) d_M_compact_42
theorem d_M_compact_30 : decode prog_14_method_45_code 30 = .ok (.iconst 0, 1) := by decide +kernel
theorem d_M_compact_43 : decode prog_14_method_45_code 43 = .ok (.aload_n 0, 1) := by decide +kernel
theorem d_M_compact_44 : decode prog_14_method_45_code 44 = .ok (.getfield 61, 3) := by decide +kernel
theorem d_M_compact_47 : decode prog_14_method_45_code 47 = .ok (.iload_n 1, 1) := by decide +kernel
theorem d_M_compact_48 : decode prog_14_method_45_code 48 = .ok (.iaload, 1) := by decide +kernel
theorem d_M_compact_49 : decode prog_14_method_45_code 49 = .ok (.istore_n 2, 1) := by decide +kernel
theorem d_M_compact_50 : decode prog_14_method_45_code 50 = .ok (.aload_n 0, 1) := by decide +kernel
theorem d_M_compact_51 : decode prog_14_method_45_code 51 = .ok (.getfield 61, 3) := by decide +kernel
theorem d_M_compact_54 : decode prog_14_method_45_code 54 = .ok (.iload_n 1, 1) := by decide +kernel
theorem d_M_compact_55 : decode prog_14_method_45_code 55 = .ok (.iconst 1, 1) := by decide +kernel
theorem d_M_compact_56 : decode prog_14_method_45_code 56 = .ok (.iadd, 1) := by decide +kernel
theorem d_M_compact_57 : decode prog_14_method_45_code 57 = .ok (.iaload, 1) := by decide +kernel
theorem d_M_compact_58 : decode prog_14_method_45_code 58 = .ok (.istore_n 3, 1) := by decide +kernel
theorem d_M_compact_59 : decode prog_14_method_45_code 59 = .ok (.aload_n 0, 1) := by decide +kernel
theorem d_M_compact_60 : decode prog_14_method_45_code 60 = .ok (.iload_n 2, 1) := by decide +kernel
theorem d_M_compact_61 : decode prog_14_method_45_code 61 = .ok (.iload_n 3, 1) := by decide +kernel
theorem d_M_compact_62 : decode prog_14_method_45_code 62 = .ok (.iconst 1, 1) := by decide +kernel
theorem d_M_compact_63 : decode prog_14_method_45_code 63 = .ok (.invokevirtual 315, 3) := by decide +kernel
theorem d_M_compact_66 : decode prog_14_method_45_code 66 = .ok (.invokestatic 319, 3) := by decide +kernel
theorem d_M_compact_69 : decode prog_14_method_45_code 69 = .ok (.istore 4, 2) := by decide +kernel
theorem d_M_compact_71 : decode prog_14_method_45_code 71 = .ok (.iload 4, 2) := by decide +kernel
theorem d_M_compact_73 : decode prog_14_method_45_code 73 = .ok (.aload_n 0, 1) := by decide +kernel
theorem d_M_compact_74 : decode prog_14_method_45_code 74 = .ok (.invokevirtual 325, 3) := by decide +kernel
theorem d_M_compact_77 : decode prog_14_method_45_code 77 = .ok (.if_icmp .le 10, 3) := by decide +kernel
theorem d_M_compact_80 : decode prog_14_method_45_code 80 = .ok (.aload_n 0, 1) := by decide +kernel
theorem d_M_compact_81 : decode prog_14_method_45_code 81 = .ok (.iconst 3, 1) := by decide +kernel
theorem d_M_compact_82 : decode prog_14_method_45_code 82 = .ok (.putfield 145, 3) := by decide +kernel
theorem d_M_compact_85 : decode prog_14_method_45_code 85 = .ok (.iconst 0, 1) := by decide +kernel
theorem d_M_compact_86 : decode prog_14_method_45_code 86 = .ok (.ireturn, 1) := by decide +kernel
set_option maxHeartbeats 4000000 in
set_option maxRecDepth 100000 in
theorem k_compact_3 (l : Launch) (D : va_G) (dA : Nat → ClassId) (sz : Nat) (h : Nat) (ad : Nat → Nat) (x : MS) (d : Nat) (ho : x.on = true) (hd : d < x.parcelCount - 1) (h1 : x.points ≤ 12000) (h2 : x.seriesCount ≤ 256) (hs : ∀ q : Nat, q < x.points → x.pointSeries q < 256) (f1 : x.parcelCount ≤ 40) (f2 : 2 + x.journal + x.catalogBlocks + sumN x.parcelCount x.parcelBlocks ≤ x.blocks) (f3 : x.blocks ≤ 256) (hn : x.freeN < x.cmN d) : Met l ⟨"SeriesVaultModel", "compact", "(I)I"⟩ [Cond.code ⟨"SeriesVaultModel", "compact", "(I)I"⟩ prog_14_method_45_code 7 (some FieldType.int)] { frames := 3, cells := 0, slots := 0, locals := 63 } (pC D dA [.ref h, .int (nI d)] (MW dA h ad x) sz) (va_Qi (fun (r9 : Int32) (u9 : Unit) => r9 = 0) (fun (u9 : Unit) t9 => bW D (va_A (MW dA h ad x) sz) (MW dA h ad (MS.s_cod x 3)) t9) (va_A (MW dA h ad x) sz)) 0 0 (va_A (MW dA h ad x) sz) := by
  refine mkC (y := ⟨"SeriesVaultModel", "compact", "(I)I"⟩) (cc := prog_14_method_45_code) (maxL := 7) (av := [.ref h, .int (nI d)]) (ws := MW dA h ad x) (sz := sz) (Qc := fun A => va_Qi (fun (r9 : Int32) (u9 : Unit) => r9 = 0) (fun (u9 : Unit) t9 => bW D A (MW dA h ad (MS.s_cod x 3)) t9) A) (by decide) (Nat.le_of_ble_eq_true rfl) ?_
  intro A p e s m below meth c ls hsz hB
  obtain ⟨hx, hb, hr, hml, hown, hin, hlk, hE, hK, hP, hD, hS, hA, hN, hl⟩ := hB
  have hown : s.vm.findClass "SeriesVaultModel" = some m.cls := hown
  have hl : lv_has ls 7 [(0, .ref h), (1, .int (nI d))] := hl
  obtain ⟨H, hH⟩ : ∃ z, z = s.heap := ⟨_, rfl⟩
  have hP : va_P D vwCl (MW dA h ad x) H := by rw [hH]; exact hP
  have hS : va_S A s.heap H [] := by rw [hH]; exact hS
  rw [← hH]
  refine lv_aload_n hx hb d_M_compact_0 rfl (lv_at hl 0 rfl) ?_
  refine lv_aload_n hx hb d_M_compact_1 rfl (lv_at hl 0 rfl) ?_
  refine gF (v := .int (bI x.on)) hx hb hown hE hK hP 0 rfl rfl layM 7 (by decide) w324 rfl d_M_compact_2 ?_
  refine lv_if_ne hx hb d_M_compact_5 (tgt := 12) rfl (fun _ => ?_) (fun h9 => absurd h9 (by rw [ho]; decide))
  refine lv_iload_n hx hb d_M_compact_12 rfl (lv_at hl 1 rfl) ?_
  refine lv_if_lt hx hb d_M_compact_13 (tgt := 26) rfl (fun h9 => absurd h9 (nI_pos (n := d) (by omega))) (fun _ => ?_)
  refine lv_iload_n hx hb d_M_compact_16 rfl (lv_at hl 1 rfl) ?_
  refine lv_aload_n hx hb d_M_compact_17 rfl (lv_at hl 0 rfl) ?_
  refine gF (v := .int (nI x.parcelCount)) hx hb hown hE hK hP 0 rfl rfl layM 28 (by decide) w344 rfl d_M_compact_18 ?_
  refine lv_iconst (v := 1) hx hb d_M_compact_21 (by decide) ?_
  refine lv_isub hx hb d_M_compact_22 (tpi (y := nI (x.parcelCount - 1)) (pk_sub (a := x.parcelCount) (b := 1) (by omega)) ?_)
  refine lv_icmp_lt hx hb d_M_compact_23 (tgt := 30) rfl (fun _ => ?_) (fun h9 => absurd ((nI_ltI (a := d) (b := x.parcelCount - 1) (by omega) (by omega)).mpr hd) h9)
  refine lv_iconst (v := 0) hx hb d_M_compact_30 (by decide) ?_
  refine pF (v := .int 0) hx hb hown hE hK hP hD hS 0 rfl rfl layM tyM tokM nmM 0 (by decide) w319 rfl rfl rfl (Nat.le_of_ble_eq_true rfl) d_M_compact_31 (fun H locs hP hD hS => ?_)
  have hP : va_P D vwCl (MW dA h ad (MS.s_cod x 0)) H := hP
  have hD : va_D A (MW dA h ad (MS.s_cod x 0)) := hD
  refine lv_aload_n hx hb d_M_compact_34 rfl (lv_at hl 0 rfl) ?_
  refine gF (v := .int 0) hx hb hown hE hK hP 0 rfl rfl layM 0 (by decide) w319 rfl d_M_compact_35 ?_
  refine lv_if_le hx hb d_M_compact_38 (tgt := 43) rfl (fun _ => ?_) (fun h9 => absurd (by decide) h9)
  refine lv_aload_n hx hb d_M_compact_43 rfl (lv_at hl 0 rfl) ?_
  refine gF (v := .ref (ad 26)) hx hb hown hE hK hP 0 rfl rfl layM 26 (by decide) w509 rfl d_M_compact_44 ?_
  refine lv_iload_n hx hb d_M_compact_47 rfl (lv_at hl 1 rfl) ?_
  refine nild (f := (fun z9 => nI (x.parcels z9))) hx hb hK hP 12 1 rfl rfl (d) (by omega) (by decide) d_M_compact_48 ?_
  refine lv_istore_n hx hb d_M_compact_49 rfl hl (by decide) rfl (fun ls hl => ?_)
  have hl : lv_has ls 7 [(2, .int (nI (x.parcels d))), (0, .ref h), (1, .int (nI d))] := hl
  refine lv_aload_n hx hb d_M_compact_50 rfl (lv_at hl 1 rfl) ?_
  refine gF (v := .ref (ad 26)) hx hb hown hE hK hP 0 rfl rfl layM 26 (by decide) w509 rfl d_M_compact_51 ?_
  refine lv_iload_n hx hb d_M_compact_54 rfl (lv_at hl 2 rfl) ?_
  refine lv_iconst (v := 1) hx hb d_M_compact_55 (by decide) ?_
  refine lv_iadd hx hb d_M_compact_56 (tpi (y := nI (d + 1)) (nI_add (d) (1)) ?_)
  refine nild (f := (fun z9 => nI (x.parcels z9))) hx hb hK hP 12 1 rfl rfl (d + 1) (by omega) (by decide) d_M_compact_57 ?_
  refine lv_istore_n hx hb d_M_compact_58 rfl hl (by decide) rfl (fun ls hl => ?_)
  have hl : lv_has ls 7 [(3, .int (nI (x.parcels (d + 1)))), (2, .int (nI (x.parcels d))), (0, .ref h), (1, .int (nI d))] := hl
  refine lv_aload_n hx hb d_M_compact_59 rfl (lv_at hl 2 rfl) ?_
  refine lv_iload_n hx hb d_M_compact_60 rfl (lv_at hl 1 rfl) ?_
  refine lv_iload_n hx hb d_M_compact_61 rfl (lv_at hl 0 rfl) ?_
  refine lv_iconst (v := 1) hx hb d_M_compact_62 (by decide) ?_
  refine jfL (rnV (As := [.int (nI (x.parcels d)), .int (nI (x.parcels (d + 1))), .int 1]) (rest := []) hx hb hml hown hE hK (hN _ _ hS) hP hD (k_bitsOf l D dA H.size h ad (MS.s_cod x 0) (nI (x.parcels d)) (nI (x.parcels (d + 1))) true (show x.points ≤ 12000 from by omega) (show x.seriesCount ≤ 256 from by omega) hs) (q0 := 0) rfl rfl w915 w914 w916 w917 w328 rfl rfl ⟨⟨by decide, by decide⟩, rfl⟩ ⟨(Nat.le_of_ble_eq_true rfl), (Nat.le_of_ble_eq_true rfl)⟩ rfl hl.1 rfl (Nat.le_of_ble_eq_true rfl) d_M_compact_63 ⟨(Nat.le_of_ble_eq_true rfl), (Nat.le_of_ble_eq_true rfl)⟩) hP hD hS hA (fun r1 u2 H locs hp9 hP hD hS => ?_)
  have hP : va_P D vwCl (MW dA h ad (MS.s_cod x 0)) H := hP
  have hD : va_D A (MW dA h ad (MS.s_cod x 0)) := hD
  replace hp9 : r1 = lN (x.bA (nI (x.parcels d)) (nI (x.parcels (d + 1))) true x.seriesCount) := hp9.trans (congrArg lN (bA_ext rfl rfl rfl rfl rfl rfl rfl))
  replace hp9 : lN (x.bA (nI (x.parcels d)) (nI (x.parcels (d + 1))) true x.seriesCount) = r1 := Eq.symm hp9
  subst hp9
  have hPc := hP.sub (ws' := []) [] rfl
  have hDc := hD.sub (ws' := []) [] (by decide) rfl
  refine jnI (rnS (As := [.long (lN (x.bA (nI (x.parcels d)) (nI (x.parcels (d + 1))) true x.seriesCount))]) (rest := []) hx hb hml hown hE hK (hN _ _ hS) hPc hDc (k_blocksOf l D dA H.size (lN (x.bA (nI (x.parcels d)) (nI (x.parcels (d + 1))) true x.seriesCount))) w923 w922 w924 w328 rfl rfl ⟨⟨by decide, by decide⟩, rfl⟩ ⟨(Nat.le_of_ble_eq_true rfl), (Nat.le_of_ble_eq_true rfl)⟩ rfl hl.1 rfl (Nat.le_of_ble_eq_true rfl) d_M_compact_66 ⟨(Nat.le_of_ble_eq_true rfl), (Nat.le_of_ble_eq_true rfl)⟩) hP hD hS hA [] [0, 1, 2, 3, 4, 5, 6, 7, 8, 9, 10, 11, 12, 13, 14, 15, 16, 17, 18, 19, 20, 21, 22, 23, 24, 25, 26, 27, 28, 29, 30, 31, 32, 33, 34, 35, 36, 37, 38] (wr := MW dA h ad (MS.s_cod x 0)) rfl rfl (by decide) (by decide) (fun r3 u9 H locs hp9 hP hD hS => ?_)
  have hP : va_P D vwCl (MW dA h ad (MS.s_cod x 0)) H := hP
  have hD : va_D A (MW dA h ad (MS.s_cod x 0)) := hD
  replace hp9 : (((lN (x.bA (nI (x.parcels d)) (nI (x.parcels (d + 1))) true x.seriesCount)) + 32255) / 32256).toInt32 = r3 := Eq.symm hp9
  subst hp9
  refine tpi (y := nI (x.cmN d)) (blkI (by have := bA_le x (nI (x.parcels d)) (nI (x.parcels (d + 1))) true h1 x.seriesCount; omega)) ?_
  refine lv_istore hx hb d_M_compact_69 hl (by decide) rfl (fun ls hl => ?_)
  have hl : lv_has ls 7 [(4, .int (nI (x.cmN d))), (3, .int (nI (x.parcels (d + 1)))), (2, .int (nI (x.parcels d))), (0, .ref h), (1, .int (nI d))] := hl
  have hf5 : x.freeN ≤ 256 := by unfold MS.freeN; omega
  have hc5 := cmN_le d h1 h2
  refine lv_iload hx hb d_M_compact_71 (lv_at hl 0 rfl) ?_
  refine lv_aload_n hx hb d_M_compact_73 rfl (lv_at hl 3 rfl) ?_
  refine jfI (rnV (As := []) (rest := [.int (nI (x.cmN d))]) hx hb hml hown hE hK (hN _ _ hS) hP hD (k_free l D dA H.size h ad (MS.s_cod x 0) (show x.parcelCount ≤ 40 from by omega) (show 2 + x.journal + x.catalogBlocks + sumN x.parcelCount x.parcelBlocks ≤ x.blocks from by omega) (show x.blocks ≤ 256 from by omega)) (q0 := 0) rfl rfl w447 w446 w448 w449 w328 rfl rfl ⟨⟨by decide, by decide⟩, rfl⟩ ⟨(Nat.le_of_ble_eq_true rfl), (Nat.le_of_ble_eq_true rfl)⟩ rfl hl.1 rfl (Nat.le_of_ble_eq_true rfl) d_M_compact_74 ⟨(Nat.le_of_ble_eq_true rfl), (Nat.le_of_ble_eq_true rfl)⟩) hP hD hS hA (fun r5 u6 H locs hp9 hP hD hS => ?_)
  have hP : va_P D vwCl (MW dA h ad (MS.s_cod x 0)) H := hP
  have hD : va_D A (MW dA h ad (MS.s_cod x 0)) := hD
  replace hp9 : nI x.freeN = r5 := Eq.symm hp9
  subst hp9
  refine lv_icmp_le hx hb d_M_compact_77 (tgt := 87) rfl (fun h9 => absurd h9 (mt (nI_leI (a := x.cmN d) (b := x.freeN) (by omega) (by omega)).mp (Nat.not_le.mpr hn))) (fun _ => ?_)
  refine lv_aload_n hx hb d_M_compact_80 rfl (lv_at hl 3 rfl) ?_
  refine lv_iconst (v := 3) hx hb d_M_compact_81 (by decide) ?_
  refine pF (v := .int 3) hx hb hown hE hK hP hD hS 0 rfl rfl layM tyM tokM nmM 0 (by decide) w319 rfl rfl rfl (Nat.le_of_ble_eq_true rfl) d_M_compact_82 (fun H locs hP hD hS => ?_)
  have hP : va_P D vwCl (MW dA h ad (MS.s_cod x 3)) H := hP
  have hD : va_D A (MW dA h ad (MS.s_cod x 3)) := hD
  refine lv_iconst (v := 0) hx hb d_M_compact_85 (by decide) ?_
  exact rfI hx hb hr hlk hS () rfl hP hD (Nat.le_of_ble_eq_true rfl) (Nat.le_of_ble_eq_true rfl) d_M_compact_86
theorem d_M_compact_87 : decode prog_14_method_45_code 87 = .ok (.aload_n 0, 1) := by decide +kernel
theorem d_M_compact_88 : decode prog_14_method_45_code 88 = .ok (.getfield 194, 3) := by decide +kernel
theorem d_M_compact_91 : decode prog_14_method_45_code 91 = .ok (.ifCond .eq 7, 3) := by decide +kernel
theorem d_M_compact_94 : decode prog_14_method_45_code 94 = .ok (.iconst 1, 1) := by decide +kernel
theorem d_M_compact_95 : decode prog_14_method_45_code 95 = .ok (.goto 4, 3) := by decide +kernel
theorem d_M_compact_99 : decode prog_14_method_45_code 99 = .ok (.istore 5, 2) := by decide +kernel
theorem d_M_compact_101 : decode prog_14_method_45_code 101 = .ok (.aload_n 0, 1) := by decide +kernel
theorem d_M_compact_102 : decode prog_14_method_45_code 102 = .ok (.invokevirtual 204, 3) := by decide +kernel
theorem d_M_compact_105 : decode prog_14_method_45_code 105 = .ok (.ifCond .eq 14, 3) := by decide +kernel
theorem d_M_compact_119 : decode prog_14_method_45_code 119 = .ok (.aload_n 0, 1) := by decide +kernel
theorem d_M_compact_120 : decode prog_14_method_45_code 120 = .ok (.iconst 1, 1) := by decide +kernel
theorem d_M_compact_121 : decode prog_14_method_45_code 121 = .ok (.putfield 145, 3) := by decide +kernel
theorem d_M_compact_124 : decode prog_14_method_45_code 124 = .ok (.iconst 0, 1) := by decide +kernel
theorem d_M_compact_125 : decode prog_14_method_45_code 125 = .ok (.ireturn, 1) := by decide +kernel
set_option maxHeartbeats 4000000 in
set_option maxRecDepth 100000 in
theorem k_compact_5a (l : Launch) (D : va_G) (dA : Nat → ClassId) (sz : Nat) (h : Nat) (ad : Nat → Nat) (x : MS) (d : Nat) (ho : x.on = true) (hd : d < x.parcelCount - 1) (h1 : x.points ≤ 12000) (h2 : x.seriesCount ≤ 256) (hs : ∀ q : Nat, q < x.points → x.pointSeries q < 256) (f1 : x.parcelCount ≤ 40) (f2 : 2 + x.journal + x.catalogBlocks + sumN x.parcelCount x.parcelBlocks ≤ x.blocks) (f3 : x.blocks ≤ 256) (hn : x.cmN d ≤ x.freeN) (hf : x.fresh = true) (hc : x.cutLeft = 0) : Met l ⟨"SeriesVaultModel", "compact", "(I)I"⟩ [Cond.code ⟨"SeriesVaultModel", "compact", "(I)I"⟩ prog_14_method_45_code 7 (some FieldType.int)] { frames := 3, cells := 0, slots := 0, locals := 63 } (pC D dA [.ref h, .int (nI d)] (MW dA h ad x) sz) (va_Qi (fun (r9 : Int32) (u9 : Unit) => r9 = 0) (fun (u9 : Unit) t9 => bW D (va_A (MW dA h ad x) sz) (MW dA h ad (MS.s_cutLeft (MS.s_on (MS.s_cod x 1) false) (-1))) t9) (va_A (MW dA h ad x) sz)) 0 0 (va_A (MW dA h ad x) sz) := by
  refine mkC (y := ⟨"SeriesVaultModel", "compact", "(I)I"⟩) (cc := prog_14_method_45_code) (maxL := 7) (av := [.ref h, .int (nI d)]) (ws := MW dA h ad x) (sz := sz) (Qc := fun A => va_Qi (fun (r9 : Int32) (u9 : Unit) => r9 = 0) (fun (u9 : Unit) t9 => bW D A (MW dA h ad (MS.s_cutLeft (MS.s_on (MS.s_cod x 1) false) (-1))) t9) A) (by decide) (Nat.le_of_ble_eq_true rfl) ?_
  intro A p e s m below meth c ls hsz hB
  obtain ⟨hx, hb, hr, hml, hown, hin, hlk, hE, hK, hP, hD, hS, hA, hN, hl⟩ := hB
  have hown : s.vm.findClass "SeriesVaultModel" = some m.cls := hown
  have hl : lv_has ls 7 [(0, .ref h), (1, .int (nI d))] := hl
  obtain ⟨H, hH⟩ : ∃ z, z = s.heap := ⟨_, rfl⟩
  have hP : va_P D vwCl (MW dA h ad x) H := by rw [hH]; exact hP
  have hS : va_S A s.heap H [] := by rw [hH]; exact hS
  rw [← hH]
  refine lv_aload_n hx hb d_M_compact_0 rfl (lv_at hl 0 rfl) ?_
  refine lv_aload_n hx hb d_M_compact_1 rfl (lv_at hl 0 rfl) ?_
  refine gF (v := .int (bI x.on)) hx hb hown hE hK hP 0 rfl rfl layM 7 (by decide) w324 rfl d_M_compact_2 ?_
  refine lv_if_ne hx hb d_M_compact_5 (tgt := 12) rfl (fun _ => ?_) (fun h9 => absurd h9 (by rw [ho]; decide))
  refine lv_iload_n hx hb d_M_compact_12 rfl (lv_at hl 1 rfl) ?_
  refine lv_if_lt hx hb d_M_compact_13 (tgt := 26) rfl (fun h9 => absurd h9 (nI_pos (n := d) (by omega))) (fun _ => ?_)
  refine lv_iload_n hx hb d_M_compact_16 rfl (lv_at hl 1 rfl) ?_
  refine lv_aload_n hx hb d_M_compact_17 rfl (lv_at hl 0 rfl) ?_
  refine gF (v := .int (nI x.parcelCount)) hx hb hown hE hK hP 0 rfl rfl layM 28 (by decide) w344 rfl d_M_compact_18 ?_
  refine lv_iconst (v := 1) hx hb d_M_compact_21 (by decide) ?_
  refine lv_isub hx hb d_M_compact_22 (tpi (y := nI (x.parcelCount - 1)) (pk_sub (a := x.parcelCount) (b := 1) (by omega)) ?_)
  refine lv_icmp_lt hx hb d_M_compact_23 (tgt := 30) rfl (fun _ => ?_) (fun h9 => absurd ((nI_ltI (a := d) (b := x.parcelCount - 1) (by omega) (by omega)).mpr hd) h9)
  refine lv_iconst (v := 0) hx hb d_M_compact_30 (by decide) ?_
  refine pF (v := .int 0) hx hb hown hE hK hP hD hS 0 rfl rfl layM tyM tokM nmM 0 (by decide) w319 rfl rfl rfl (Nat.le_of_ble_eq_true rfl) d_M_compact_31 (fun H locs hP hD hS => ?_)
  have hP : va_P D vwCl (MW dA h ad (MS.s_cod x 0)) H := hP
  have hD : va_D A (MW dA h ad (MS.s_cod x 0)) := hD
  refine lv_aload_n hx hb d_M_compact_34 rfl (lv_at hl 0 rfl) ?_
  refine gF (v := .int 0) hx hb hown hE hK hP 0 rfl rfl layM 0 (by decide) w319 rfl d_M_compact_35 ?_
  refine lv_if_le hx hb d_M_compact_38 (tgt := 43) rfl (fun _ => ?_) (fun h9 => absurd (by decide) h9)
  refine lv_aload_n hx hb d_M_compact_43 rfl (lv_at hl 0 rfl) ?_
  refine gF (v := .ref (ad 26)) hx hb hown hE hK hP 0 rfl rfl layM 26 (by decide) w509 rfl d_M_compact_44 ?_
  refine lv_iload_n hx hb d_M_compact_47 rfl (lv_at hl 1 rfl) ?_
  refine nild (f := (fun z9 => nI (x.parcels z9))) hx hb hK hP 12 1 rfl rfl (d) (by omega) (by decide) d_M_compact_48 ?_
  refine lv_istore_n hx hb d_M_compact_49 rfl hl (by decide) rfl (fun ls hl => ?_)
  have hl : lv_has ls 7 [(2, .int (nI (x.parcels d))), (0, .ref h), (1, .int (nI d))] := hl
  refine lv_aload_n hx hb d_M_compact_50 rfl (lv_at hl 1 rfl) ?_
  refine gF (v := .ref (ad 26)) hx hb hown hE hK hP 0 rfl rfl layM 26 (by decide) w509 rfl d_M_compact_51 ?_
  refine lv_iload_n hx hb d_M_compact_54 rfl (lv_at hl 2 rfl) ?_
  refine lv_iconst (v := 1) hx hb d_M_compact_55 (by decide) ?_
  refine lv_iadd hx hb d_M_compact_56 (tpi (y := nI (d + 1)) (nI_add (d) (1)) ?_)
  refine nild (f := (fun z9 => nI (x.parcels z9))) hx hb hK hP 12 1 rfl rfl (d + 1) (by omega) (by decide) d_M_compact_57 ?_
  refine lv_istore_n hx hb d_M_compact_58 rfl hl (by decide) rfl (fun ls hl => ?_)
  have hl : lv_has ls 7 [(3, .int (nI (x.parcels (d + 1)))), (2, .int (nI (x.parcels d))), (0, .ref h), (1, .int (nI d))] := hl
  refine lv_aload_n hx hb d_M_compact_59 rfl (lv_at hl 2 rfl) ?_
  refine lv_iload_n hx hb d_M_compact_60 rfl (lv_at hl 1 rfl) ?_
  refine lv_iload_n hx hb d_M_compact_61 rfl (lv_at hl 0 rfl) ?_
  refine lv_iconst (v := 1) hx hb d_M_compact_62 (by decide) ?_
  refine jfL (rnV (As := [.int (nI (x.parcels d)), .int (nI (x.parcels (d + 1))), .int 1]) (rest := []) hx hb hml hown hE hK (hN _ _ hS) hP hD (k_bitsOf l D dA H.size h ad (MS.s_cod x 0) (nI (x.parcels d)) (nI (x.parcels (d + 1))) true (show x.points ≤ 12000 from by omega) (show x.seriesCount ≤ 256 from by omega) hs) (q0 := 0) rfl rfl w915 w914 w916 w917 w328 rfl rfl ⟨⟨by decide, by decide⟩, rfl⟩ ⟨(Nat.le_of_ble_eq_true rfl), (Nat.le_of_ble_eq_true rfl)⟩ rfl hl.1 rfl (Nat.le_of_ble_eq_true rfl) d_M_compact_63 ⟨(Nat.le_of_ble_eq_true rfl), (Nat.le_of_ble_eq_true rfl)⟩) hP hD hS hA (fun r1 u2 H locs hp9 hP hD hS => ?_)
  have hP : va_P D vwCl (MW dA h ad (MS.s_cod x 0)) H := hP
  have hD : va_D A (MW dA h ad (MS.s_cod x 0)) := hD
  replace hp9 : r1 = lN (x.bA (nI (x.parcels d)) (nI (x.parcels (d + 1))) true x.seriesCount) := hp9.trans (congrArg lN (bA_ext rfl rfl rfl rfl rfl rfl rfl))
  replace hp9 : lN (x.bA (nI (x.parcels d)) (nI (x.parcels (d + 1))) true x.seriesCount) = r1 := Eq.symm hp9
  subst hp9
  have hPc := hP.sub (ws' := []) [] rfl
  have hDc := hD.sub (ws' := []) [] (by decide) rfl
  refine jnI (rnS (As := [.long (lN (x.bA (nI (x.parcels d)) (nI (x.parcels (d + 1))) true x.seriesCount))]) (rest := []) hx hb hml hown hE hK (hN _ _ hS) hPc hDc (k_blocksOf l D dA H.size (lN (x.bA (nI (x.parcels d)) (nI (x.parcels (d + 1))) true x.seriesCount))) w923 w922 w924 w328 rfl rfl ⟨⟨by decide, by decide⟩, rfl⟩ ⟨(Nat.le_of_ble_eq_true rfl), (Nat.le_of_ble_eq_true rfl)⟩ rfl hl.1 rfl (Nat.le_of_ble_eq_true rfl) d_M_compact_66 ⟨(Nat.le_of_ble_eq_true rfl), (Nat.le_of_ble_eq_true rfl)⟩) hP hD hS hA [] [0, 1, 2, 3, 4, 5, 6, 7, 8, 9, 10, 11, 12, 13, 14, 15, 16, 17, 18, 19, 20, 21, 22, 23, 24, 25, 26, 27, 28, 29, 30, 31, 32, 33, 34, 35, 36, 37, 38] (wr := MW dA h ad (MS.s_cod x 0)) rfl rfl (by decide) (by decide) (fun r3 u9 H locs hp9 hP hD hS => ?_)
  have hP : va_P D vwCl (MW dA h ad (MS.s_cod x 0)) H := hP
  have hD : va_D A (MW dA h ad (MS.s_cod x 0)) := hD
  replace hp9 : (((lN (x.bA (nI (x.parcels d)) (nI (x.parcels (d + 1))) true x.seriesCount)) + 32255) / 32256).toInt32 = r3 := Eq.symm hp9
  subst hp9
  refine tpi (y := nI (x.cmN d)) (blkI (by have := bA_le x (nI (x.parcels d)) (nI (x.parcels (d + 1))) true h1 x.seriesCount; omega)) ?_
  refine lv_istore hx hb d_M_compact_69 hl (by decide) rfl (fun ls hl => ?_)
  have hl : lv_has ls 7 [(4, .int (nI (x.cmN d))), (3, .int (nI (x.parcels (d + 1)))), (2, .int (nI (x.parcels d))), (0, .ref h), (1, .int (nI d))] := hl
  have hf5 : x.freeN ≤ 256 := by unfold MS.freeN; omega
  have hc5 := cmN_le d h1 h2
  refine lv_iload hx hb d_M_compact_71 (lv_at hl 0 rfl) ?_
  refine lv_aload_n hx hb d_M_compact_73 rfl (lv_at hl 3 rfl) ?_
  refine jfI (rnV (As := []) (rest := [.int (nI (x.cmN d))]) hx hb hml hown hE hK (hN _ _ hS) hP hD (k_free l D dA H.size h ad (MS.s_cod x 0) (show x.parcelCount ≤ 40 from by omega) (show 2 + x.journal + x.catalogBlocks + sumN x.parcelCount x.parcelBlocks ≤ x.blocks from by omega) (show x.blocks ≤ 256 from by omega)) (q0 := 0) rfl rfl w447 w446 w448 w449 w328 rfl rfl ⟨⟨by decide, by decide⟩, rfl⟩ ⟨(Nat.le_of_ble_eq_true rfl), (Nat.le_of_ble_eq_true rfl)⟩ rfl hl.1 rfl (Nat.le_of_ble_eq_true rfl) d_M_compact_74 ⟨(Nat.le_of_ble_eq_true rfl), (Nat.le_of_ble_eq_true rfl)⟩) hP hD hS hA (fun r5 u6 H locs hp9 hP hD hS => ?_)
  have hP : va_P D vwCl (MW dA h ad (MS.s_cod x 0)) H := hP
  have hD : va_D A (MW dA h ad (MS.s_cod x 0)) := hD
  replace hp9 : nI x.freeN = r5 := Eq.symm hp9
  subst hp9
  refine lv_icmp_le hx hb d_M_compact_77 (tgt := 87) rfl (fun _ => ?_) (fun h9 => absurd ((nI_leI (a := x.cmN d) (b := x.freeN) (by omega) (by omega)).mpr hn) h9)
  refine lv_aload_n hx hb d_M_compact_87 rfl (lv_at hl 3 rfl) ?_
  refine gF (v := .int (bI x.fresh)) hx hb hown hE hK hP 0 rfl rfl layM 41 (by decide) w337 rfl d_M_compact_88 ?_
  refine lv_if_eq hx hb d_M_compact_91 (tgt := 98) rfl (fun h9 => absurd h9 (by rw [hf]; decide)) (fun _ => ?_)
  refine lv_iconst (v := 1) hx hb d_M_compact_94 (by decide) ?_
  refine lv_goto hx hb d_M_compact_95 (tgt := 99) rfl ?_
  refine lv_istore hx hb d_M_compact_99 hl (by decide) rfl (fun ls hl => ?_)
  have hl : lv_has ls 7 [(5, .int 1), (4, .int (nI (x.cmN d))), (3, .int (nI (x.parcels (d + 1)))), (2, .int (nI (x.parcels d))), (0, .ref h), (1, .int (nI d))] := hl
  refine lv_aload_n hx hb d_M_compact_101 rfl (lv_at hl 4 rfl) ?_
  refine jfI (rnV (As := []) (rest := []) hx hb hml hown hE hK (hN _ _ hS) hP hD (k_synced_x l D dA H.size h ad (MS.s_cod x 0) hf hc) (q0 := 0) rfl rfl w341 w340 w342 w343 w328 rfl rfl ⟨⟨by decide, by decide⟩, rfl⟩ ⟨(Nat.le_of_ble_eq_true rfl), (Nat.le_of_ble_eq_true rfl)⟩ rfl hl.1 rfl (Nat.le_of_ble_eq_true rfl) d_M_compact_102 ⟨(Nat.le_of_ble_eq_true rfl), (Nat.le_of_ble_eq_true rfl)⟩) hP hD hS hA (fun r7 u8 H locs hp9 hP hD hS => ?_)
  have hP : va_P D vwCl (MW dA h ad (MS.s_cutLeft (MS.s_on (MS.s_cod x 0) false) (-1))) H := hP
  have hD : va_D A (MW dA h ad (MS.s_cutLeft (MS.s_on (MS.s_cod x 0) false) (-1))) := hD
  replace hp9 : bI false = r7 := Eq.symm hp9
  subst hp9
  refine lv_if_eq hx hb d_M_compact_105 (tgt := 119) rfl (fun _ => ?_) (fun h9 => absurd (by decide) h9)
  refine lv_aload_n hx hb d_M_compact_119 rfl (lv_at hl 4 rfl) ?_
  refine lv_iconst (v := 1) hx hb d_M_compact_120 (by decide) ?_
  refine pF (v := .int 1) hx hb hown hE hK hP hD hS 0 rfl rfl layM tyM tokM nmM 0 (by decide) w319 rfl rfl rfl (Nat.le_of_ble_eq_true rfl) d_M_compact_121 (fun H locs hP hD hS => ?_)
  have hP : va_P D vwCl (MW dA h ad (MS.s_cutLeft (MS.s_on (MS.s_cod x 1) false) (-1))) H := hP
  have hD : va_D A (MW dA h ad (MS.s_cutLeft (MS.s_on (MS.s_cod x 1) false) (-1))) := hD
  refine lv_iconst (v := 0) hx hb d_M_compact_124 (by decide) ?_
  exact rfI hx hb hr hlk hS () rfl hP hD (Nat.le_of_ble_eq_true rfl) (Nat.le_of_ble_eq_true rfl) d_M_compact_125
theorem d_M_compact_108 : decode prog_14_method_45_code 108 = .ok (.aload_n 0, 1) := by decide +kernel
theorem d_M_compact_109 : decode prog_14_method_45_code 109 = .ok (.iload 4, 2) := by decide +kernel
theorem d_M_compact_111 : decode prog_14_method_45_code 111 = .ok (.iconst 1, 1) := by decide +kernel
theorem d_M_compact_112 : decode prog_14_method_45_code 112 = .ok (.iadd, 1) := by decide +kernel
theorem d_M_compact_113 : decode prog_14_method_45_code 113 = .ok (.invokevirtual 328, 3) := by decide +kernel
theorem d_M_compact_116 : decode prog_14_method_45_code 116 = .ok (.ifCond .ne 10, 3) := by decide +kernel
theorem d_M_compact_98 : decode prog_14_method_45_code 98 = .ok (.iconst 0, 1) := by decide +kernel
set_option maxHeartbeats 4000000 in
set_option maxRecDepth 100000 in
theorem k_compact_5b (l : Launch) (D : va_G) (dA : Nat → ClassId) (sz : Nat) (h : Nat) (ad : Nat → Nat) (x : MS) (d : Nat) (j : Nat) (ho : x.on = true) (hd : d < x.parcelCount - 1) (h1 : x.points ≤ 12000) (h2 : x.seriesCount ≤ 256) (hs : ∀ q : Nat, q < x.points → x.pointSeries q < 256) (f1 : x.parcelCount ≤ 40) (f2 : 2 + x.journal + x.catalogBlocks + sumN x.parcelCount x.parcelBlocks ≤ x.blocks) (f3 : x.blocks ≤ 256) (hn : x.cmN d ≤ x.freeN) (hsy : x.fresh = false ∨ ¬ x.cutLeft = 0) (hj : j < x.cmN d + 1) (hc0 : cutN x.syCut j = 0) (hz : ∀ i : Nat, i < j → ¬ cutN x.syCut i = 0) : Met l ⟨"SeriesVaultModel", "compact", "(I)I"⟩ [Cond.code ⟨"SeriesVaultModel", "compact", "(I)I"⟩ prog_14_method_45_code 7 (some FieldType.int)] { frames := 3, cells := 0, slots := 0, locals := 63 } (pC D dA [.ref h, .int (nI d)] (MW dA h ad x) sz) (va_Qi (fun (r9 : Int32) (u9 : Unit) => r9 = 0) (fun (u9 : Unit) t9 => bW D (va_A (MW dA h ad x) sz) (MW dA h ad (MS.s_fresh (MS.s_kept (MS.s_written (MS.s_cutLeft (MS.s_on (MS.s_cod x 1) false) (-1)) (x.syWr + j)) x.records) false)) t9) (va_A (MW dA h ad x) sz)) 0 0 (va_A (MW dA h ad x) sz) := by
  refine mkC (y := ⟨"SeriesVaultModel", "compact", "(I)I"⟩) (cc := prog_14_method_45_code) (maxL := 7) (av := [.ref h, .int (nI d)]) (ws := MW dA h ad x) (sz := sz) (Qc := fun A => va_Qi (fun (r9 : Int32) (u9 : Unit) => r9 = 0) (fun (u9 : Unit) t9 => bW D A (MW dA h ad (MS.s_fresh (MS.s_kept (MS.s_written (MS.s_cutLeft (MS.s_on (MS.s_cod x 1) false) (-1)) (x.syWr + j)) x.records) false)) t9) A) (by decide) (Nat.le_of_ble_eq_true rfl) ?_
  intro A p e s m below meth c ls hsz hB
  obtain ⟨hx, hb, hr, hml, hown, hin, hlk, hE, hK, hP, hD, hS, hA, hN, hl⟩ := hB
  have hown : s.vm.findClass "SeriesVaultModel" = some m.cls := hown
  have hl : lv_has ls 7 [(0, .ref h), (1, .int (nI d))] := hl
  obtain ⟨H, hH⟩ : ∃ z, z = s.heap := ⟨_, rfl⟩
  have hP : va_P D vwCl (MW dA h ad x) H := by rw [hH]; exact hP
  have hS : va_S A s.heap H [] := by rw [hH]; exact hS
  rw [← hH]
  refine lv_aload_n hx hb d_M_compact_0 rfl (lv_at hl 0 rfl) ?_
  refine lv_aload_n hx hb d_M_compact_1 rfl (lv_at hl 0 rfl) ?_
  refine gF (v := .int (bI x.on)) hx hb hown hE hK hP 0 rfl rfl layM 7 (by decide) w324 rfl d_M_compact_2 ?_
  refine lv_if_ne hx hb d_M_compact_5 (tgt := 12) rfl (fun _ => ?_) (fun h9 => absurd h9 (by rw [ho]; decide))
  refine lv_iload_n hx hb d_M_compact_12 rfl (lv_at hl 1 rfl) ?_
  refine lv_if_lt hx hb d_M_compact_13 (tgt := 26) rfl (fun h9 => absurd h9 (nI_pos (n := d) (by omega))) (fun _ => ?_)
  refine lv_iload_n hx hb d_M_compact_16 rfl (lv_at hl 1 rfl) ?_
  refine lv_aload_n hx hb d_M_compact_17 rfl (lv_at hl 0 rfl) ?_
  refine gF (v := .int (nI x.parcelCount)) hx hb hown hE hK hP 0 rfl rfl layM 28 (by decide) w344 rfl d_M_compact_18 ?_
  refine lv_iconst (v := 1) hx hb d_M_compact_21 (by decide) ?_
  refine lv_isub hx hb d_M_compact_22 (tpi (y := nI (x.parcelCount - 1)) (pk_sub (a := x.parcelCount) (b := 1) (by omega)) ?_)
  refine lv_icmp_lt hx hb d_M_compact_23 (tgt := 30) rfl (fun _ => ?_) (fun h9 => absurd ((nI_ltI (a := d) (b := x.parcelCount - 1) (by omega) (by omega)).mpr hd) h9)
  refine lv_iconst (v := 0) hx hb d_M_compact_30 (by decide) ?_
  refine pF (v := .int 0) hx hb hown hE hK hP hD hS 0 rfl rfl layM tyM tokM nmM 0 (by decide) w319 rfl rfl rfl (Nat.le_of_ble_eq_true rfl) d_M_compact_31 (fun H locs hP hD hS => ?_)
  have hP : va_P D vwCl (MW dA h ad (MS.s_cod x 0)) H := hP
  have hD : va_D A (MW dA h ad (MS.s_cod x 0)) := hD
  refine lv_aload_n hx hb d_M_compact_34 rfl (lv_at hl 0 rfl) ?_
  refine gF (v := .int 0) hx hb hown hE hK hP 0 rfl rfl layM 0 (by decide) w319 rfl d_M_compact_35 ?_
  refine lv_if_le hx hb d_M_compact_38 (tgt := 43) rfl (fun _ => ?_) (fun h9 => absurd (by decide) h9)
  refine lv_aload_n hx hb d_M_compact_43 rfl (lv_at hl 0 rfl) ?_
  refine gF (v := .ref (ad 26)) hx hb hown hE hK hP 0 rfl rfl layM 26 (by decide) w509 rfl d_M_compact_44 ?_
  refine lv_iload_n hx hb d_M_compact_47 rfl (lv_at hl 1 rfl) ?_
  refine nild (f := (fun z9 => nI (x.parcels z9))) hx hb hK hP 12 1 rfl rfl (d) (by omega) (by decide) d_M_compact_48 ?_
  refine lv_istore_n hx hb d_M_compact_49 rfl hl (by decide) rfl (fun ls hl => ?_)
  have hl : lv_has ls 7 [(2, .int (nI (x.parcels d))), (0, .ref h), (1, .int (nI d))] := hl
  refine lv_aload_n hx hb d_M_compact_50 rfl (lv_at hl 1 rfl) ?_
  refine gF (v := .ref (ad 26)) hx hb hown hE hK hP 0 rfl rfl layM 26 (by decide) w509 rfl d_M_compact_51 ?_
  refine lv_iload_n hx hb d_M_compact_54 rfl (lv_at hl 2 rfl) ?_
  refine lv_iconst (v := 1) hx hb d_M_compact_55 (by decide) ?_
  refine lv_iadd hx hb d_M_compact_56 (tpi (y := nI (d + 1)) (nI_add (d) (1)) ?_)
  refine nild (f := (fun z9 => nI (x.parcels z9))) hx hb hK hP 12 1 rfl rfl (d + 1) (by omega) (by decide) d_M_compact_57 ?_
  refine lv_istore_n hx hb d_M_compact_58 rfl hl (by decide) rfl (fun ls hl => ?_)
  have hl : lv_has ls 7 [(3, .int (nI (x.parcels (d + 1)))), (2, .int (nI (x.parcels d))), (0, .ref h), (1, .int (nI d))] := hl
  refine lv_aload_n hx hb d_M_compact_59 rfl (lv_at hl 2 rfl) ?_
  refine lv_iload_n hx hb d_M_compact_60 rfl (lv_at hl 1 rfl) ?_
  refine lv_iload_n hx hb d_M_compact_61 rfl (lv_at hl 0 rfl) ?_
  refine lv_iconst (v := 1) hx hb d_M_compact_62 (by decide) ?_
  refine jfL (rnV (As := [.int (nI (x.parcels d)), .int (nI (x.parcels (d + 1))), .int 1]) (rest := []) hx hb hml hown hE hK (hN _ _ hS) hP hD (k_bitsOf l D dA H.size h ad (MS.s_cod x 0) (nI (x.parcels d)) (nI (x.parcels (d + 1))) true (show x.points ≤ 12000 from by omega) (show x.seriesCount ≤ 256 from by omega) hs) (q0 := 0) rfl rfl w915 w914 w916 w917 w328 rfl rfl ⟨⟨by decide, by decide⟩, rfl⟩ ⟨(Nat.le_of_ble_eq_true rfl), (Nat.le_of_ble_eq_true rfl)⟩ rfl hl.1 rfl (Nat.le_of_ble_eq_true rfl) d_M_compact_63 ⟨(Nat.le_of_ble_eq_true rfl), (Nat.le_of_ble_eq_true rfl)⟩) hP hD hS hA (fun r1 u2 H locs hp9 hP hD hS => ?_)
  have hP : va_P D vwCl (MW dA h ad (MS.s_cod x 0)) H := hP
  have hD : va_D A (MW dA h ad (MS.s_cod x 0)) := hD
  replace hp9 : r1 = lN (x.bA (nI (x.parcels d)) (nI (x.parcels (d + 1))) true x.seriesCount) := hp9.trans (congrArg lN (bA_ext rfl rfl rfl rfl rfl rfl rfl))
  replace hp9 : lN (x.bA (nI (x.parcels d)) (nI (x.parcels (d + 1))) true x.seriesCount) = r1 := Eq.symm hp9
  subst hp9
  have hPc := hP.sub (ws' := []) [] rfl
  have hDc := hD.sub (ws' := []) [] (by decide) rfl
  refine jnI (rnS (As := [.long (lN (x.bA (nI (x.parcels d)) (nI (x.parcels (d + 1))) true x.seriesCount))]) (rest := []) hx hb hml hown hE hK (hN _ _ hS) hPc hDc (k_blocksOf l D dA H.size (lN (x.bA (nI (x.parcels d)) (nI (x.parcels (d + 1))) true x.seriesCount))) w923 w922 w924 w328 rfl rfl ⟨⟨by decide, by decide⟩, rfl⟩ ⟨(Nat.le_of_ble_eq_true rfl), (Nat.le_of_ble_eq_true rfl)⟩ rfl hl.1 rfl (Nat.le_of_ble_eq_true rfl) d_M_compact_66 ⟨(Nat.le_of_ble_eq_true rfl), (Nat.le_of_ble_eq_true rfl)⟩) hP hD hS hA [] [0, 1, 2, 3, 4, 5, 6, 7, 8, 9, 10, 11, 12, 13, 14, 15, 16, 17, 18, 19, 20, 21, 22, 23, 24, 25, 26, 27, 28, 29, 30, 31, 32, 33, 34, 35, 36, 37, 38] (wr := MW dA h ad (MS.s_cod x 0)) rfl rfl (by decide) (by decide) (fun r3 u9 H locs hp9 hP hD hS => ?_)
  have hP : va_P D vwCl (MW dA h ad (MS.s_cod x 0)) H := hP
  have hD : va_D A (MW dA h ad (MS.s_cod x 0)) := hD
  replace hp9 : (((lN (x.bA (nI (x.parcels d)) (nI (x.parcels (d + 1))) true x.seriesCount)) + 32255) / 32256).toInt32 = r3 := Eq.symm hp9
  subst hp9
  refine tpi (y := nI (x.cmN d)) (blkI (by have := bA_le x (nI (x.parcels d)) (nI (x.parcels (d + 1))) true h1 x.seriesCount; omega)) ?_
  refine lv_istore hx hb d_M_compact_69 hl (by decide) rfl (fun ls hl => ?_)
  have hl : lv_has ls 7 [(4, .int (nI (x.cmN d))), (3, .int (nI (x.parcels (d + 1)))), (2, .int (nI (x.parcels d))), (0, .ref h), (1, .int (nI d))] := hl
  have hf5 : x.freeN ≤ 256 := by unfold MS.freeN; omega
  have hc5 := cmN_le d h1 h2
  refine lv_iload hx hb d_M_compact_71 (lv_at hl 0 rfl) ?_
  refine lv_aload_n hx hb d_M_compact_73 rfl (lv_at hl 3 rfl) ?_
  refine jfI (rnV (As := []) (rest := [.int (nI (x.cmN d))]) hx hb hml hown hE hK (hN _ _ hS) hP hD (k_free l D dA H.size h ad (MS.s_cod x 0) (show x.parcelCount ≤ 40 from by omega) (show 2 + x.journal + x.catalogBlocks + sumN x.parcelCount x.parcelBlocks ≤ x.blocks from by omega) (show x.blocks ≤ 256 from by omega)) (q0 := 0) rfl rfl w447 w446 w448 w449 w328 rfl rfl ⟨⟨by decide, by decide⟩, rfl⟩ ⟨(Nat.le_of_ble_eq_true rfl), (Nat.le_of_ble_eq_true rfl)⟩ rfl hl.1 rfl (Nat.le_of_ble_eq_true rfl) d_M_compact_74 ⟨(Nat.le_of_ble_eq_true rfl), (Nat.le_of_ble_eq_true rfl)⟩) hP hD hS hA (fun r5 u6 H locs hp9 hP hD hS => ?_)
  have hP : va_P D vwCl (MW dA h ad (MS.s_cod x 0)) H := hP
  have hD : va_D A (MW dA h ad (MS.s_cod x 0)) := hD
  replace hp9 : nI x.freeN = r5 := Eq.symm hp9
  subst hp9
  refine lv_icmp_le hx hb d_M_compact_77 (tgt := 87) rfl (fun _ => ?_) (fun h9 => absurd ((nI_leI (a := x.cmN d) (b := x.freeN) (by omega) (by omega)).mpr hn) h9)
  have J99 : ∀ (f : Nat) (hf9 : (if x.fresh = true then 1 else 0) = f), ∀ (H : Heap) (locs : List Loc) (ls : Array Slot) (hP : va_P D vwCl (MW dA h ad (MS.s_cod x 0)) H) (hD : va_D A (MW dA h ad (MS.s_cod x 0))) (hS : va_S A s.heap H locs) (hl : lv_has ls 7 [(4, .int (nI (x.cmN d))), (3, .int (nI (x.parcels (d + 1)))), (2, .int (nI (x.parcels d))), (1, .int (nI d)), (0, .ref h)]), W p l e ({ frames := 3, cells := 0, slots := 0, locals := 63 } : Room) s m ([.ref h, .int (nI d)] : List Value).toArray below meth c H locs 0 0 (MQ below (va_Qi (fun (r9 : Int32) (u9 : Unit) => r9 = 0) (fun (u9 : Unit) t9 => bW D A (MW dA h ad (MS.s_fresh (MS.s_kept (MS.s_written (MS.s_cutLeft (MS.s_on (MS.s_cod x 1) false) (-1)) (x.syWr + j)) x.records) false)) t9) A) ([.ref h, .int (nI d)] : List Value).toArray s 0 0 A) (F0 m 99 ls [.int (nI f)]) := by
    intro f hf9 H locs ls hP hD hS hl
    have hc5 := cmN_le d h1 h2
    refine lv_istore hx hb d_M_compact_99 hl (by decide) rfl (fun ls hl => ?_)
    have hl : lv_has ls 7 [(5, .int (nI f)), (4, .int (nI (x.cmN d))), (3, .int (nI (x.parcels (d + 1)))), (2, .int (nI (x.parcels d))), (1, .int (nI d)), (0, .ref h)] := hl
    refine lv_aload_n hx hb d_M_compact_101 rfl (lv_at hl 5 rfl) ?_
    refine jfI (rnV (As := []) (rest := []) hx hb hml hown hE hK (hN _ _ hS) hP hD (k_synced l D dA H.size h ad (MS.s_cod x 0) hsy) (q0 := 0) rfl rfl w341 w340 w342 w343 w328 rfl rfl ⟨⟨by decide, by decide⟩, rfl⟩ ⟨(Nat.le_of_ble_eq_true rfl), (Nat.le_of_ble_eq_true rfl)⟩ rfl hl.1 rfl (Nat.le_of_ble_eq_true rfl) d_M_compact_102 ⟨(Nat.le_of_ble_eq_true rfl), (Nat.le_of_ble_eq_true rfl)⟩) hP hD hS hA (fun r7 u8 H locs hp9 hP hD hS => ?_)
    have hP : va_P D vwCl (MW dA h ad (MS.s_fresh (MS.s_kept (MS.s_written (MS.s_cutLeft (MS.s_cod x 0) x.syCut) x.syWr) x.records) false)) H := hP
    have hD : va_D A (MW dA h ad (MS.s_fresh (MS.s_kept (MS.s_written (MS.s_cutLeft (MS.s_cod x 0) x.syCut) x.syWr) x.records) false)) := hD
    replace hp9 : bI true = r7 := Eq.symm hp9
    subst hp9
    refine lv_if_eq hx hb d_M_compact_105 (tgt := 119) rfl (fun h9 => absurd h9 (by decide)) (fun _ => ?_)
    refine lv_aload_n hx hb d_M_compact_108 rfl (lv_at hl 5 rfl) ?_
    refine lv_iload hx hb d_M_compact_109 (lv_at hl 1 rfl) ?_
    refine lv_iconst (v := 1) hx hb d_M_compact_111 (by decide) ?_
    refine lv_iadd hx hb d_M_compact_112 (tpi (y := nI (x.cmN d + 1)) (nI_add (x.cmN d) (1)) ?_)
    refine jfI (rnV (As := [.int (nI (x.cmN d + 1))]) (rest := []) hx hb hml hown hE hK (hN _ _ hS) hP hD (k_write_nx l D dA H.size h ad (MS.s_fresh (MS.s_kept (MS.s_written (MS.s_cutLeft (MS.s_cod x 0) x.syCut) x.syWr) x.records) false) (x.cmN d + 1) j (show (x.cmN d + 1) < 2 ^ 31 from by omega) (show j < (x.cmN d + 1) from by omega) hc0 hz) (q0 := 0) rfl rfl w926 w925 w927 w928 w328 rfl rfl ⟨⟨by decide, by decide⟩, rfl⟩ ⟨(Nat.le_of_ble_eq_true rfl), (Nat.le_of_ble_eq_true rfl)⟩ rfl hl.1 rfl (Nat.le_of_ble_eq_true rfl) d_M_compact_113 ⟨(Nat.le_of_ble_eq_true rfl), (Nat.le_of_ble_eq_true rfl)⟩) hP hD hS hA (fun r9 u10 H locs hp9 hP hD hS => ?_)
    have hP : va_P D vwCl (MW dA h ad (MS.s_fresh (MS.s_kept (MS.s_written (MS.s_cutLeft (MS.s_on (MS.s_cod x 0) false) (-1)) (x.syWr + j)) x.records) false)) H := hP
    have hD : va_D A (MW dA h ad (MS.s_fresh (MS.s_kept (MS.s_written (MS.s_cutLeft (MS.s_on (MS.s_cod x 0) false) (-1)) (x.syWr + j)) x.records) false)) := hD
    replace hp9 : bI false = r9 := Eq.symm hp9
    subst hp9
    refine lv_if_ne hx hb d_M_compact_116 (tgt := 126) rfl (fun h9 => absurd (by decide) h9) (fun _ => ?_)
    refine lv_aload_n hx hb d_M_compact_119 rfl (lv_at hl 5 rfl) ?_
    refine lv_iconst (v := 1) hx hb d_M_compact_120 (by decide) ?_
    refine pF (v := .int 1) hx hb hown hE hK hP hD hS 0 rfl rfl layM tyM tokM nmM 0 (by decide) w319 rfl rfl rfl (Nat.le_of_ble_eq_true rfl) d_M_compact_121 (fun H locs hP hD hS => ?_)
    have hP : va_P D vwCl (MW dA h ad (MS.s_fresh (MS.s_kept (MS.s_written (MS.s_cutLeft (MS.s_on (MS.s_cod x 1) false) (-1)) (x.syWr + j)) x.records) false)) H := hP
    have hD : va_D A (MW dA h ad (MS.s_fresh (MS.s_kept (MS.s_written (MS.s_cutLeft (MS.s_on (MS.s_cod x 1) false) (-1)) (x.syWr + j)) x.records) false)) := hD
    refine lv_iconst (v := 0) hx hb d_M_compact_124 (by decide) ?_
    exact rfI hx hb hr hlk hS () rfl hP hD (Nat.le_of_ble_eq_true rfl) (Nat.le_of_ble_eq_true rfl) d_M_compact_125
  refine lv_aload_n hx hb d_M_compact_87 rfl (lv_at hl 3 rfl) ?_
  refine gF (v := .int (bI x.fresh)) hx hb hown hE hK hP 0 rfl rfl layM 41 (by decide) w337 rfl d_M_compact_88 ?_
  refine lv_if_eq hx hb d_M_compact_91 (tgt := 98) rfl (fun g11 => ?_) (fun g11 => ?_)
  · have g11 := bI_0 g11
    refine lv_iconst (v := 0) hx hb d_M_compact_98 (by decide) ?_
    exact J99 0 (by simp [*]) H _ ls hP hD hS (lv_sub hl [0, 1, 2, 4, 3] rfl)
  · have g11 := bI_n0 g11
    refine lv_iconst (v := 1) hx hb d_M_compact_94 (by decide) ?_
    refine lv_goto hx hb d_M_compact_95 (tgt := 99) rfl ?_
    exact J99 1 (by simp [*]) H _ ls hP hD hS (lv_sub hl [0, 1, 2, 4, 3] rfl)
def MS.cm1 (x : MS) (d : Nat) : MS := MS.s_fresh (MS.s_kept (MS.s_places (MS.s_written (MS.s_cutLeft (MS.s_cod x 0) (cutN x.syCut (x.cmN d + 1))) (x.syWr + (x.cmN d + 1))) (mapT x.points (x.is12 d) x.flP x.places)) x.records) false
def MS.rmS (x : MS) (k : Nat) : MS := MS.s_parcelCount (MS.s_parcelBlocks (MS.s_parcels x (rmT k x.parcels (x.parcelCount - 1))) (rmT k x.parcelBlocks (x.parcelCount - 1))) (x.parcelCount - 1)
def MS.cm2 (x : MS) (d v : Nat) : MS := MS.s_parcelNumber (MS.s_parcelBlocks (MS.s_parcels x (va_up x.parcels d x.parcelNumber)) (va_up x.parcelBlocks d v)) (x.parcelNumber + 1)
def MS.cmS (x : MS) (d : Nat) : MS := ((bif decide (x.cmN d = 0) then (((x.cm1 d).cm2 d (x.cmN d)).rmS (d + 1)).rmS d else ((x.cm1 d).cm2 d (x.cmN d)).rmS (d + 1)).tidS).shoS
theorem d_M_compact_246 : decode prog_14_method_45_code 246 = .ok (.aload_n 0, 1) := by decide +kernel
theorem d_M_compact_247 : decode prog_14_method_45_code 247 = .ok (.invokevirtual 333, 3) := by decide +kernel
theorem d_M_compact_250 : decode prog_14_method_45_code 250 = .ok (.aload_n 0, 1) := by decide +kernel
theorem d_M_compact_251 : decode prog_14_method_45_code 251 = .ok (.invokevirtual 336, 3) := by decide +kernel
theorem d_M_compact_254 : decode prog_14_method_45_code 254 = .ok (.iload 5, 2) := by decide +kernel
theorem d_M_compact_256 : decode prog_14_method_45_code 256 = .ok (.iload 4, 2) := by decide +kernel
theorem d_M_compact_258 : decode prog_14_method_45_code 258 = .ok (.iadd, 1) := by decide +kernel
theorem d_M_compact_259 : decode prog_14_method_45_code 259 = .ok (.iconst 1, 1) := by decide +kernel
theorem d_M_compact_260 : decode prog_14_method_45_code 260 = .ok (.iadd, 1) := by decide +kernel
theorem d_M_compact_261 : decode prog_14_method_45_code 261 = .ok (.ireturn, 1) := by decide +kernel
theorem d_M_compact_201 : decode prog_14_method_45_code 201 = .ok (.aload_n 0, 1) := by decide +kernel
theorem d_M_compact_202 : decode prog_14_method_45_code 202 = .ok (.getfield 61, 3) := by decide +kernel
theorem d_M_compact_205 : decode prog_14_method_45_code 205 = .ok (.iload_n 1, 1) := by decide +kernel
theorem d_M_compact_206 : decode prog_14_method_45_code 206 = .ok (.aload_n 0, 1) := by decide +kernel
theorem d_M_compact_207 : decode prog_14_method_45_code 207 = .ok (.getfield 330, 3) := by decide +kernel
theorem d_M_compact_210 : decode prog_14_method_45_code 210 = .ok (.iastore, 1) := by decide +kernel
theorem d_M_compact_211 : decode prog_14_method_45_code 211 = .ok (.aload_n 0, 1) := by decide +kernel
theorem d_M_compact_212 : decode prog_14_method_45_code 212 = .ok (.getfield 64, 3) := by decide +kernel
theorem d_M_compact_215 : decode prog_14_method_45_code 215 = .ok (.iload_n 1, 1) := by decide +kernel
theorem d_M_compact_216 : decode prog_14_method_45_code 216 = .ok (.iload 4, 2) := by decide +kernel
theorem d_M_compact_218 : decode prog_14_method_45_code 218 = .ok (.iastore, 1) := by decide +kernel
theorem d_M_compact_219 : decode prog_14_method_45_code 219 = .ok (.aload_n 0, 1) := by decide +kernel
theorem d_M_compact_220 : decode prog_14_method_45_code 220 = .ok (.dup, 1) := by decide +kernel
theorem d_M_compact_221 : decode prog_14_method_45_code 221 = .ok (.getfield 330, 3) := by decide +kernel
theorem d_M_compact_224 : decode prog_14_method_45_code 224 = .ok (.iconst 1, 1) := by decide +kernel
theorem d_M_compact_225 : decode prog_14_method_45_code 225 = .ok (.iadd, 1) := by decide +kernel
theorem d_M_compact_226 : decode prog_14_method_45_code 226 = .ok (.putfield 330, 3) := by decide +kernel
theorem d_M_compact_229 : decode prog_14_method_45_code 229 = .ok (.aload_n 0, 1) := by decide +kernel
theorem d_M_compact_230 : decode prog_14_method_45_code 230 = .ok (.iload_n 1, 1) := by decide +kernel
theorem d_M_compact_231 : decode prog_14_method_45_code 231 = .ok (.iconst 1, 1) := by decide +kernel
theorem d_M_compact_232 : decode prog_14_method_45_code 232 = .ok (.iadd, 1) := by decide +kernel
theorem d_M_compact_233 : decode prog_14_method_45_code 233 = .ok (.invokevirtual 338, 3) := by decide +kernel
theorem d_M_compact_236 : decode prog_14_method_45_code 236 = .ok (.iload 4, 2) := by decide +kernel
theorem d_M_compact_238 : decode prog_14_method_45_code 238 = .ok (.ifCond .ne 8, 3) := by decide +kernel
theorem d_M_compact_241 : decode prog_14_method_45_code 241 = .ok (.aload_n 0, 1) := by decide +kernel
theorem d_M_compact_242 : decode prog_14_method_45_code 242 = .ok (.iload_n 1, 1) := by decide +kernel
theorem d_M_compact_243 : decode prog_14_method_45_code 243 = .ok (.invokevirtual 338, 3) := by decide +kernel
theorem d_M_compact_126 : decode prog_14_method_45_code 126 = .ok (.iconst 0, 1) := by decide +kernel
theorem d_M_compact_127 : decode prog_14_method_45_code 127 = .ok (.istore 6, 2) := by decide +kernel
theorem d_M_compact_129 : decode prog_14_method_45_code 129 = .ok (.iload 6, 2) := by decide +kernel
theorem d_M_compact_131 : decode prog_14_method_45_code 131 = .ok (.aload_n 0, 1) := by decide +kernel
theorem d_M_compact_132 : decode prog_14_method_45_code 132 = .ok (.getfield 169, 3) := by decide +kernel
theorem d_M_compact_135 : decode prog_14_method_45_code 135 = .ok (.if_icmp .ge 66, 3) := by decide +kernel
theorem d_M_compact_138 : decode prog_14_method_45_code 138 = .ok (.aload_n 0, 1) := by decide +kernel
theorem d_M_compact_139 : decode prog_14_method_45_code 139 = .ok (.getfield 52, 3) := by decide +kernel
theorem d_M_compact_142 : decode prog_14_method_45_code 142 = .ok (.iload 6, 2) := by decide +kernel
theorem d_M_compact_144 : decode prog_14_method_45_code 144 = .ok (.aload_n 0, 1) := by decide +kernel
theorem d_M_compact_145 : decode prog_14_method_45_code 145 = .ok (.getfield 52, 3) := by decide +kernel
theorem d_M_compact_148 : decode prog_14_method_45_code 148 = .ok (.iload 6, 2) := by decide +kernel
theorem d_M_compact_150 : decode prog_14_method_45_code 150 = .ok (.iaload, 1) := by decide +kernel
theorem d_M_compact_151 : decode prog_14_method_45_code 151 = .ok (.iload_n 2, 1) := by decide +kernel
theorem d_M_compact_152 : decode prog_14_method_45_code 152 = .ok (.if_icmp .eq 14, 3) := by decide +kernel
theorem d_M_compact_166 : decode prog_14_method_45_code 166 = .ok (.aload_n 0, 1) := by decide +kernel
theorem d_M_compact_167 : decode prog_14_method_45_code 167 = .ok (.iload 6, 2) := by decide +kernel
theorem d_M_compact_169 : decode prog_14_method_45_code 169 = .ok (.invokevirtual 207, 3) := by decide +kernel
theorem d_M_compact_172 : decode prog_14_method_45_code 172 = .ok (.ifCond .eq 10, 3) := by decide +kernel
theorem d_M_compact_182 : decode prog_14_method_45_code 182 = .ok (.bipush (-2), 2) := by decide +kernel
theorem d_M_compact_184 : decode prog_14_method_45_code 184 = .ok (.goto 10, 3) := by decide +kernel
theorem d_M_compact_194 : decode prog_14_method_45_code 194 = .ok (.iastore, 1) := by decide +kernel
theorem d_M_compact_195 : decode prog_14_method_45_code 195 = .ok (.iinc 6 1, 3) := by decide +kernel
theorem d_M_compact_198 : decode prog_14_method_45_code 198 = .ok (.goto (-69), 3) := by decide +kernel
theorem d_M_compact_175 : decode prog_14_method_45_code 175 = .ok (.aload_n 0, 1) := by decide +kernel
theorem d_M_compact_176 : decode prog_14_method_45_code 176 = .ok (.getfield 330, 3) := by decide +kernel
theorem d_M_compact_179 : decode prog_14_method_45_code 179 = .ok (.goto 15, 3) := by decide +kernel
theorem d_M_compact_155 : decode prog_14_method_45_code 155 = .ok (.aload_n 0, 1) := by decide +kernel
theorem d_M_compact_156 : decode prog_14_method_45_code 156 = .ok (.getfield 52, 3) := by decide +kernel
theorem d_M_compact_159 : decode prog_14_method_45_code 159 = .ok (.iload 6, 2) := by decide +kernel
theorem d_M_compact_161 : decode prog_14_method_45_code 161 = .ok (.iaload, 1) := by decide +kernel
theorem d_M_compact_162 : decode prog_14_method_45_code 162 = .ok (.iload_n 3, 1) := by decide +kernel
theorem d_M_compact_163 : decode prog_14_method_45_code 163 = .ok (.if_icmp .ne 24, 3) := by decide +kernel
theorem d_M_compact_187 : decode prog_14_method_45_code 187 = .ok (.aload_n 0, 1) := by decide +kernel
theorem d_M_compact_188 : decode prog_14_method_45_code 188 = .ok (.getfield 52, 3) := by decide +kernel
theorem d_M_compact_191 : decode prog_14_method_45_code 191 = .ok (.iload 6, 2) := by decide +kernel
theorem d_M_compact_193 : decode prog_14_method_45_code 193 = .ok (.iaload, 1) := by decide +kernel
theorem w930 : Cond.methodLink "SeriesVaultModel" 338 ⟨"SeriesVaultModel", "remove", "(I)V"⟩ ∈ aW := aw_of (tb_10 (List.mem_of_getElem? (i := 117) rfl)) rfl
theorem w931 : Cond.code ⟨"SeriesVaultModel", "remove", "(I)V"⟩ prog_14_method_46_code 3 none ∈ aW := aw_of (tb_10 (List.mem_of_getElem? (i := 120) rfl)) rfl
theorem w932 : Cond.instanceMethod ⟨"SeriesVaultModel", "remove", "(I)V"⟩ ∈ aW := aw_of (tb_10 (List.mem_of_getElem? (i := 119) rfl)) rfl
theorem w933 : Cond.selects "SeriesVaultModel" ⟨"SeriesVaultModel", "remove", "(I)V"⟩ ⟨"SeriesVaultModel", "remove", "(I)V"⟩ ∈ aW := aw_pr (List.mem_map.mpr ⟨_, pv_6 (List.mem_of_getElem? (i := 13) rfl), rfl⟩) rfl
set_option maxHeartbeats 4000000 in
set_option maxRecDepth 100000 in
theorem k_compact_0 (l : Launch) (D : va_G) (dA : Nat → ClassId) (sz : Nat) (h : Nat) (ad : Nat → Nat) (x : MS) (d : Nat) (ho : x.on = true) (hd : d < x.parcelCount - 1) (h1 : x.points ≤ 12000) (h2 : x.seriesCount ≤ 256) (hs : ∀ q : Nat, q < x.points → x.pointSeries q < 256) (f1 : x.parcelCount ≤ 40) (f2 : 2 + x.journal + x.catalogBlocks + sumN x.parcelCount x.parcelBlocks ≤ x.blocks) (f3 : x.blocks ≤ 256) (hn : x.cmN d ≤ x.freeN) (hsy : x.fresh = false ∨ ¬ x.cutLeft = 0) (hz : ∀ i : Nat, i < x.cmN d + 1 → ¬ cutN x.syCut i = 0) : Met l ⟨"SeriesVaultModel", "compact", "(I)I"⟩ [Cond.code ⟨"SeriesVaultModel", "compact", "(I)I"⟩ prog_14_method_45_code 7 (some FieldType.int)] { frames := 3, cells := 0, slots := 0, locals := 63 } (pC D dA [.ref h, .int (nI d)] (MW dA h ad x) sz) (va_Qi (fun (r9 : Int32) (u9 : MS) => r9 = nI ((if x.fresh = true then 1 else 0) + x.cmN d + 1) ∧ u9 = x.cmS d) (fun (u9 : MS) t9 => bW D (va_A (MW dA h ad x) sz) (MW dA h ad u9) t9) (va_A (MW dA h ad x) sz)) 0 0 (va_A (MW dA h ad x) sz) := by
  refine mkC (y := ⟨"SeriesVaultModel", "compact", "(I)I"⟩) (cc := prog_14_method_45_code) (maxL := 7) (av := [.ref h, .int (nI d)]) (ws := MW dA h ad x) (sz := sz) (Qc := fun A => va_Qi (fun (r9 : Int32) (u9 : MS) => r9 = nI ((if x.fresh = true then 1 else 0) + x.cmN d + 1) ∧ u9 = x.cmS d) (fun (u9 : MS) t9 => bW D A (MW dA h ad u9) t9) A) (by decide) (Nat.le_of_ble_eq_true rfl) ?_
  intro A p e s m below meth c ls hsz hB
  obtain ⟨hx, hb, hr, hml, hown, hin, hlk, hE, hK, hP, hD, hS, hA, hN, hl⟩ := hB
  have hown : s.vm.findClass "SeriesVaultModel" = some m.cls := hown
  have hl : lv_has ls 7 [(0, .ref h), (1, .int (nI d))] := hl
  obtain ⟨H, hH⟩ : ∃ z, z = s.heap := ⟨_, rfl⟩
  have hP : va_P D vwCl (MW dA h ad x) H := by rw [hH]; exact hP
  have hS : va_S A s.heap H [] := by rw [hH]; exact hS
  rw [← hH]
  refine lv_aload_n hx hb d_M_compact_0 rfl (lv_at hl 0 rfl) ?_
  refine lv_aload_n hx hb d_M_compact_1 rfl (lv_at hl 0 rfl) ?_
  refine gF (v := .int (bI x.on)) hx hb hown hE hK hP 0 rfl rfl layM 7 (by decide) w324 rfl d_M_compact_2 ?_
  refine lv_if_ne hx hb d_M_compact_5 (tgt := 12) rfl (fun _ => ?_) (fun h9 => absurd h9 (by rw [ho]; decide))
  refine lv_iload_n hx hb d_M_compact_12 rfl (lv_at hl 1 rfl) ?_
  refine lv_if_lt hx hb d_M_compact_13 (tgt := 26) rfl (fun h9 => absurd h9 (nI_pos (n := d) (by omega))) (fun _ => ?_)
  refine lv_iload_n hx hb d_M_compact_16 rfl (lv_at hl 1 rfl) ?_
  refine lv_aload_n hx hb d_M_compact_17 rfl (lv_at hl 0 rfl) ?_
  refine gF (v := .int (nI x.parcelCount)) hx hb hown hE hK hP 0 rfl rfl layM 28 (by decide) w344 rfl d_M_compact_18 ?_
  refine lv_iconst (v := 1) hx hb d_M_compact_21 (by decide) ?_
  refine lv_isub hx hb d_M_compact_22 (tpi (y := nI (x.parcelCount - 1)) (pk_sub (a := x.parcelCount) (b := 1) (by omega)) ?_)
  refine lv_icmp_lt hx hb d_M_compact_23 (tgt := 30) rfl (fun _ => ?_) (fun h9 => absurd ((nI_ltI (a := d) (b := x.parcelCount - 1) (by omega) (by omega)).mpr hd) h9)
  refine lv_iconst (v := 0) hx hb d_M_compact_30 (by decide) ?_
  refine pF (v := .int 0) hx hb hown hE hK hP hD hS 0 rfl rfl layM tyM tokM nmM 0 (by decide) w319 rfl rfl rfl (Nat.le_of_ble_eq_true rfl) d_M_compact_31 (fun H locs hP hD hS => ?_)
  have hP : va_P D vwCl (MW dA h ad (MS.s_cod x 0)) H := hP
  have hD : va_D A (MW dA h ad (MS.s_cod x 0)) := hD
  refine lv_aload_n hx hb d_M_compact_34 rfl (lv_at hl 0 rfl) ?_
  refine gF (v := .int 0) hx hb hown hE hK hP 0 rfl rfl layM 0 (by decide) w319 rfl d_M_compact_35 ?_
  refine lv_if_le hx hb d_M_compact_38 (tgt := 43) rfl (fun _ => ?_) (fun h9 => absurd (by decide) h9)
  refine lv_aload_n hx hb d_M_compact_43 rfl (lv_at hl 0 rfl) ?_
  refine gF (v := .ref (ad 26)) hx hb hown hE hK hP 0 rfl rfl layM 26 (by decide) w509 rfl d_M_compact_44 ?_
  refine lv_iload_n hx hb d_M_compact_47 rfl (lv_at hl 1 rfl) ?_
  refine nild (f := (fun z9 => nI (x.parcels z9))) hx hb hK hP 12 1 rfl rfl (d) (by omega) (by decide) d_M_compact_48 ?_
  refine lv_istore_n hx hb d_M_compact_49 rfl hl (by decide) rfl (fun ls hl => ?_)
  have hl : lv_has ls 7 [(2, .int (nI (x.parcels d))), (0, .ref h), (1, .int (nI d))] := hl
  refine lv_aload_n hx hb d_M_compact_50 rfl (lv_at hl 1 rfl) ?_
  refine gF (v := .ref (ad 26)) hx hb hown hE hK hP 0 rfl rfl layM 26 (by decide) w509 rfl d_M_compact_51 ?_
  refine lv_iload_n hx hb d_M_compact_54 rfl (lv_at hl 2 rfl) ?_
  refine lv_iconst (v := 1) hx hb d_M_compact_55 (by decide) ?_
  refine lv_iadd hx hb d_M_compact_56 (tpi (y := nI (d + 1)) (nI_add (d) (1)) ?_)
  refine nild (f := (fun z9 => nI (x.parcels z9))) hx hb hK hP 12 1 rfl rfl (d + 1) (by omega) (by decide) d_M_compact_57 ?_
  refine lv_istore_n hx hb d_M_compact_58 rfl hl (by decide) rfl (fun ls hl => ?_)
  have hl : lv_has ls 7 [(3, .int (nI (x.parcels (d + 1)))), (2, .int (nI (x.parcels d))), (0, .ref h), (1, .int (nI d))] := hl
  refine lv_aload_n hx hb d_M_compact_59 rfl (lv_at hl 2 rfl) ?_
  refine lv_iload_n hx hb d_M_compact_60 rfl (lv_at hl 1 rfl) ?_
  refine lv_iload_n hx hb d_M_compact_61 rfl (lv_at hl 0 rfl) ?_
  refine lv_iconst (v := 1) hx hb d_M_compact_62 (by decide) ?_
  refine jfL (rnV (As := [.int (nI (x.parcels d)), .int (nI (x.parcels (d + 1))), .int 1]) (rest := []) hx hb hml hown hE hK (hN _ _ hS) hP hD (k_bitsOf l D dA H.size h ad (MS.s_cod x 0) (nI (x.parcels d)) (nI (x.parcels (d + 1))) true (show x.points ≤ 12000 from by omega) (show x.seriesCount ≤ 256 from by omega) hs) (q0 := 0) rfl rfl w915 w914 w916 w917 w328 rfl rfl ⟨⟨by decide, by decide⟩, rfl⟩ ⟨(Nat.le_of_ble_eq_true rfl), (Nat.le_of_ble_eq_true rfl)⟩ rfl hl.1 rfl (Nat.le_of_ble_eq_true rfl) d_M_compact_63 ⟨(Nat.le_of_ble_eq_true rfl), (Nat.le_of_ble_eq_true rfl)⟩) hP hD hS hA (fun r1 u2 H locs hp9 hP hD hS => ?_)
  have hP : va_P D vwCl (MW dA h ad (MS.s_cod x 0)) H := hP
  have hD : va_D A (MW dA h ad (MS.s_cod x 0)) := hD
  replace hp9 : r1 = lN (x.bA (nI (x.parcels d)) (nI (x.parcels (d + 1))) true x.seriesCount) := hp9.trans (congrArg lN (bA_ext rfl rfl rfl rfl rfl rfl rfl))
  replace hp9 : lN (x.bA (nI (x.parcels d)) (nI (x.parcels (d + 1))) true x.seriesCount) = r1 := Eq.symm hp9
  subst hp9
  have hPc := hP.sub (ws' := []) [] rfl
  have hDc := hD.sub (ws' := []) [] (by decide) rfl
  refine jnI (rnS (As := [.long (lN (x.bA (nI (x.parcels d)) (nI (x.parcels (d + 1))) true x.seriesCount))]) (rest := []) hx hb hml hown hE hK (hN _ _ hS) hPc hDc (k_blocksOf l D dA H.size (lN (x.bA (nI (x.parcels d)) (nI (x.parcels (d + 1))) true x.seriesCount))) w923 w922 w924 w328 rfl rfl ⟨⟨by decide, by decide⟩, rfl⟩ ⟨(Nat.le_of_ble_eq_true rfl), (Nat.le_of_ble_eq_true rfl)⟩ rfl hl.1 rfl (Nat.le_of_ble_eq_true rfl) d_M_compact_66 ⟨(Nat.le_of_ble_eq_true rfl), (Nat.le_of_ble_eq_true rfl)⟩) hP hD hS hA [] [0, 1, 2, 3, 4, 5, 6, 7, 8, 9, 10, 11, 12, 13, 14, 15, 16, 17, 18, 19, 20, 21, 22, 23, 24, 25, 26, 27, 28, 29, 30, 31, 32, 33, 34, 35, 36, 37, 38] (wr := MW dA h ad (MS.s_cod x 0)) rfl rfl (by decide) (by decide) (fun r3 u9 H locs hp9 hP hD hS => ?_)
  have hP : va_P D vwCl (MW dA h ad (MS.s_cod x 0)) H := hP
  have hD : va_D A (MW dA h ad (MS.s_cod x 0)) := hD
  replace hp9 : (((lN (x.bA (nI (x.parcels d)) (nI (x.parcels (d + 1))) true x.seriesCount)) + 32255) / 32256).toInt32 = r3 := Eq.symm hp9
  subst hp9
  refine tpi (y := nI (x.cmN d)) (blkI (by have := bA_le x (nI (x.parcels d)) (nI (x.parcels (d + 1))) true h1 x.seriesCount; omega)) ?_
  refine lv_istore hx hb d_M_compact_69 hl (by decide) rfl (fun ls hl => ?_)
  have hl : lv_has ls 7 [(4, .int (nI (x.cmN d))), (3, .int (nI (x.parcels (d + 1)))), (2, .int (nI (x.parcels d))), (0, .ref h), (1, .int (nI d))] := hl
  have hf5 : x.freeN ≤ 256 := by unfold MS.freeN; omega
  have hc5 := cmN_le d h1 h2
  refine lv_iload hx hb d_M_compact_71 (lv_at hl 0 rfl) ?_
  refine lv_aload_n hx hb d_M_compact_73 rfl (lv_at hl 3 rfl) ?_
  refine jfI (rnV (As := []) (rest := [.int (nI (x.cmN d))]) hx hb hml hown hE hK (hN _ _ hS) hP hD (k_free l D dA H.size h ad (MS.s_cod x 0) (show x.parcelCount ≤ 40 from by omega) (show 2 + x.journal + x.catalogBlocks + sumN x.parcelCount x.parcelBlocks ≤ x.blocks from by omega) (show x.blocks ≤ 256 from by omega)) (q0 := 0) rfl rfl w447 w446 w448 w449 w328 rfl rfl ⟨⟨by decide, by decide⟩, rfl⟩ ⟨(Nat.le_of_ble_eq_true rfl), (Nat.le_of_ble_eq_true rfl)⟩ rfl hl.1 rfl (Nat.le_of_ble_eq_true rfl) d_M_compact_74 ⟨(Nat.le_of_ble_eq_true rfl), (Nat.le_of_ble_eq_true rfl)⟩) hP hD hS hA (fun r5 u6 H locs hp9 hP hD hS => ?_)
  have hP : va_P D vwCl (MW dA h ad (MS.s_cod x 0)) H := hP
  have hD : va_D A (MW dA h ad (MS.s_cod x 0)) := hD
  replace hp9 : nI x.freeN = r5 := Eq.symm hp9
  subst hp9
  refine lv_icmp_le hx hb d_M_compact_77 (tgt := 87) rfl (fun _ => ?_) (fun h9 => absurd ((nI_leI (a := x.cmN d) (b := x.freeN) (by omega) (by omega)).mpr hn) h9)
  have J99 : ∀ (f : Nat) (hf9 : (if x.fresh = true then 1 else 0) = f), ∀ (H : Heap) (locs : List Loc) (ls : Array Slot) (hP : va_P D vwCl (MW dA h ad (MS.s_cod x 0)) H) (hD : va_D A (MW dA h ad (MS.s_cod x 0))) (hS : va_S A s.heap H locs) (hl : lv_has ls 7 [(4, .int (nI (x.cmN d))), (3, .int (nI (x.parcels (d + 1)))), (2, .int (nI (x.parcels d))), (1, .int (nI d)), (0, .ref h)]), W p l e ({ frames := 3, cells := 0, slots := 0, locals := 63 } : Room) s m ([.ref h, .int (nI d)] : List Value).toArray below meth c H locs 0 0 (MQ below (va_Qi (fun (r9 : Int32) (u9 : MS) => r9 = nI ((if x.fresh = true then 1 else 0) + x.cmN d + 1) ∧ u9 = x.cmS d) (fun (u9 : MS) t9 => bW D A (MW dA h ad u9) t9) A) ([.ref h, .int (nI d)] : List Value).toArray s 0 0 A) (F0 m 99 ls [.int (nI f)]) := by
    intro f hf9 H locs ls hP hD hS hl
    have hc5 := cmN_le d h1 h2
    refine lv_istore hx hb d_M_compact_99 hl (by decide) rfl (fun ls hl => ?_)
    have hl : lv_has ls 7 [(5, .int (nI f)), (4, .int (nI (x.cmN d))), (3, .int (nI (x.parcels (d + 1)))), (2, .int (nI (x.parcels d))), (1, .int (nI d)), (0, .ref h)] := hl
    refine lv_aload_n hx hb d_M_compact_101 rfl (lv_at hl 5 rfl) ?_
    refine jfI (rnV (As := []) (rest := []) hx hb hml hown hE hK (hN _ _ hS) hP hD (k_synced l D dA H.size h ad (MS.s_cod x 0) hsy) (q0 := 0) rfl rfl w341 w340 w342 w343 w328 rfl rfl ⟨⟨by decide, by decide⟩, rfl⟩ ⟨(Nat.le_of_ble_eq_true rfl), (Nat.le_of_ble_eq_true rfl)⟩ rfl hl.1 rfl (Nat.le_of_ble_eq_true rfl) d_M_compact_102 ⟨(Nat.le_of_ble_eq_true rfl), (Nat.le_of_ble_eq_true rfl)⟩) hP hD hS hA (fun r7 u8 H locs hp9 hP hD hS => ?_)
    have hP : va_P D vwCl (MW dA h ad (MS.s_fresh (MS.s_kept (MS.s_written (MS.s_cutLeft (MS.s_cod x 0) x.syCut) x.syWr) x.records) false)) H := hP
    have hD : va_D A (MW dA h ad (MS.s_fresh (MS.s_kept (MS.s_written (MS.s_cutLeft (MS.s_cod x 0) x.syCut) x.syWr) x.records) false)) := hD
    replace hp9 : bI true = r7 := Eq.symm hp9
    subst hp9
    refine lv_if_eq hx hb d_M_compact_105 (tgt := 119) rfl (fun h9 => absurd h9 (by decide)) (fun _ => ?_)
    refine lv_aload_n hx hb d_M_compact_108 rfl (lv_at hl 5 rfl) ?_
    refine lv_iload hx hb d_M_compact_109 (lv_at hl 1 rfl) ?_
    refine lv_iconst (v := 1) hx hb d_M_compact_111 (by decide) ?_
    refine lv_iadd hx hb d_M_compact_112 (tpi (y := nI (x.cmN d + 1)) (nI_add (x.cmN d) (1)) ?_)
    refine jfI (rnV (As := [.int (nI (x.cmN d + 1))]) (rest := []) hx hb hml hown hE hK (hN _ _ hS) hP hD (k_write_n l D dA H.size h ad (MS.s_fresh (MS.s_kept (MS.s_written (MS.s_cutLeft (MS.s_cod x 0) x.syCut) x.syWr) x.records) false) (x.cmN d + 1) (show (x.cmN d + 1) < 2 ^ 31 from by omega) hz) (q0 := 0) rfl rfl w926 w925 w927 w928 w328 rfl rfl ⟨⟨by decide, by decide⟩, rfl⟩ ⟨(Nat.le_of_ble_eq_true rfl), (Nat.le_of_ble_eq_true rfl)⟩ rfl hl.1 rfl (Nat.le_of_ble_eq_true rfl) d_M_compact_113 ⟨(Nat.le_of_ble_eq_true rfl), (Nat.le_of_ble_eq_true rfl)⟩) hP hD hS hA (fun r9 u10 H locs hp9 hP hD hS => ?_)
    have hP : va_P D vwCl (MW dA h ad (MS.s_fresh (MS.s_kept (MS.s_written (MS.s_cutLeft (MS.s_cod x 0) (cutN x.syCut (x.cmN d + 1))) (x.syWr + (x.cmN d + 1))) x.records) false)) H := hP
    have hD : va_D A (MW dA h ad (MS.s_fresh (MS.s_kept (MS.s_written (MS.s_cutLeft (MS.s_cod x 0) (cutN x.syCut (x.cmN d + 1))) (x.syWr + (x.cmN d + 1))) x.records) false)) := hD
    replace hp9 : bI true = r9 := Eq.symm hp9
    subst hp9
    refine lv_if_ne hx hb d_M_compact_116 (tgt := 126) rfl (fun _ => ?_) (fun h9 => absurd h9 (by decide))
    have J201 : ∀ (y : MS) (ey : y = x.cm1 d) (y1 : y.points = x.points) (y2 : y.parcelCount = x.parcelCount), ∀ (H : Heap) (locs : List Loc) (ls : Array Slot) (hP : va_P D vwCl (MW dA h ad y) H) (hD : va_D A (MW dA h ad y)) (hS : va_S A s.heap H locs) (hl : lv_has ls 7 [(5, .int (nI f)), (4, .int (nI (x.cmN d))), (3, .int (nI (x.parcels (d + 1)))), (2, .int (nI (x.parcels d))), (1, .int (nI d)), (0, .ref h)]), W p l e ({ frames := 3, cells := 0, slots := 0, locals := 63 } : Room) s m ([.ref h, .int (nI d)] : List Value).toArray below meth c H locs 0 0 (MQ below (va_Qi (fun (r9 : Int32) (u9 : MS) => r9 = nI ((if x.fresh = true then 1 else 0) + x.cmN d + 1) ∧ u9 = x.cmS d) (fun (u9 : MS) t9 => bW D A (MW dA h ad u9) t9) A) ([.ref h, .int (nI d)] : List Value).toArray s 0 0 A) (F0 m 201 ls []) := by
      intro y ey y1 y2 H locs ls hP hD hS hl
      have J246 : ∀ (z : MS) (ez : z = (bif decide (x.cmN d = 0) then ((y.cm2 d (x.cmN d)).rmS (d + 1)).rmS d else (y.cm2 d (x.cmN d)).rmS (d + 1))) (z1 : z.points = x.points), ∀ (H : Heap) (locs : List Loc) (ls : Array Slot) (hP : va_P D vwCl (MW dA h ad z) H) (hD : va_D A (MW dA h ad z)) (hS : va_S A s.heap H locs) (hl : lv_has ls 7 [(5, .int (nI f)), (4, .int (nI (x.cmN d))), (3, .int (nI (x.parcels (d + 1)))), (2, .int (nI (x.parcels d))), (1, .int (nI d)), (0, .ref h)]), W p l e ({ frames := 3, cells := 0, slots := 0, locals := 63 } : Room) s m ([.ref h, .int (nI d)] : List Value).toArray below meth c H locs 0 0 (MQ below (va_Qi (fun (r9 : Int32) (u9 : MS) => r9 = nI ((if x.fresh = true then 1 else 0) + x.cmN d + 1) ∧ u9 = x.cmS d) (fun (u9 : MS) t9 => bW D A (MW dA h ad u9) t9) A) ([.ref h, .int (nI d)] : List Value).toArray s 0 0 A) (F0 m 246 ls []) := by
        intro z ez z1 H locs ls hP hD hS hl
        refine lv_aload_n hx hb d_M_compact_246 rfl (lv_at hl 5 rfl) ?_
        have z4 := cnt_le z.points z.stay
        refine jfV (rnV (As := []) (rest := []) hx hb hml hown hE hK (hN _ _ hS) hP hD (k_tidy l D dA H.size h ad z (show z.points ≤ 12000 from by omega)) (q0 := 0) rfl rfl w456 w455 w457 w458 w328 rfl rfl ⟨⟨by decide, by decide⟩, rfl⟩ ⟨(Nat.le_of_ble_eq_true rfl), (Nat.le_of_ble_eq_true rfl)⟩ rfl hl.1 rfl (Nat.le_of_ble_eq_true rfl) d_M_compact_247 ⟨(Nat.le_of_ble_eq_true rfl), (Nat.le_of_ble_eq_true rfl)⟩) hP hD hS hA (fun u12 H locs hp9 hP hD hS => ?_)
        have hP : va_P D vwCl (MW dA h ad (MS.s_points (MS.s_baseHidden (MS.s_hidden (MS.s_places (MS.s_pointValues (MS.s_pointTimes (MS.s_pointSeries z (tdT z.stay z.pointSeries z.points)) (tdT z.stay z.pointTimes z.points)) (tdT z.stay z.pointValues z.points)) (tdT z.stay z.places z.points)) (tdT z.stay z.hidden z.points)) (tdT z.stay z.baseHidden z.points)) (cnt z.points z.stay))) H := hP
        have hD : va_D A (MW dA h ad (MS.s_points (MS.s_baseHidden (MS.s_hidden (MS.s_places (MS.s_pointValues (MS.s_pointTimes (MS.s_pointSeries z (tdT z.stay z.pointSeries z.points)) (tdT z.stay z.pointTimes z.points)) (tdT z.stay z.pointValues z.points)) (tdT z.stay z.places z.points)) (tdT z.stay z.hidden z.points)) (tdT z.stay z.baseHidden z.points)) (cnt z.points z.stay))) := hD
        refine lv_aload_n hx hb d_M_compact_250 rfl (lv_at hl 5 rfl) ?_
        refine jfV (rnV (As := []) (rest := []) hx hb hml hown hE hK (hN _ _ hS) hP hD (k_shown l D dA H.size h ad (MS.s_points (MS.s_baseHidden (MS.s_hidden (MS.s_places (MS.s_pointValues (MS.s_pointTimes (MS.s_pointSeries z (tdT z.stay z.pointSeries z.points)) (tdT z.stay z.pointTimes z.points)) (tdT z.stay z.pointValues z.points)) (tdT z.stay z.places z.points)) (tdT z.stay z.hidden z.points)) (tdT z.stay z.baseHidden z.points)) (cnt z.points z.stay)) (show (cnt z.points z.stay) ≤ 12000 from by omega)) (q0 := 0) rfl rfl w460 w459 w461 w462 w328 rfl rfl ⟨⟨by decide, by decide⟩, rfl⟩ ⟨(Nat.le_of_ble_eq_true rfl), (Nat.le_of_ble_eq_true rfl)⟩ rfl hl.1 rfl (Nat.le_of_ble_eq_true rfl) d_M_compact_251 ⟨(Nat.le_of_ble_eq_true rfl), (Nat.le_of_ble_eq_true rfl)⟩) hP hD hS hA (fun u14 H locs hp9 hP hD hS => ?_)
        have hP : va_P D vwCl (MW dA h ad (MS.s_baseHorizon (MS.s_points (MS.s_baseHidden (MS.s_hidden (MS.s_places (MS.s_pointValues (MS.s_pointTimes (MS.s_pointSeries z (tdT z.stay z.pointSeries z.points)) (tdT z.stay z.pointTimes z.points)) (tdT z.stay z.pointValues z.points)) (tdT z.stay z.places z.points)) (tdT z.stay z.hidden z.points)) (mapT (cnt z.points z.stay) (fun _ => true) (tdT z.stay z.hidden z.points) (tdT z.stay z.baseHidden z.points))) (cnt z.points z.stay)) z.horizon)) H := hP
        have hD : va_D A (MW dA h ad (MS.s_baseHorizon (MS.s_points (MS.s_baseHidden (MS.s_hidden (MS.s_places (MS.s_pointValues (MS.s_pointTimes (MS.s_pointSeries z (tdT z.stay z.pointSeries z.points)) (tdT z.stay z.pointTimes z.points)) (tdT z.stay z.pointValues z.points)) (tdT z.stay z.places z.points)) (tdT z.stay z.hidden z.points)) (mapT (cnt z.points z.stay) (fun _ => true) (tdT z.stay z.hidden z.points) (tdT z.stay z.baseHidden z.points))) (cnt z.points z.stay)) z.horizon)) := hD
        refine lv_iload hx hb d_M_compact_254 (lv_at hl 0 rfl) ?_
        refine lv_iload hx hb d_M_compact_256 (lv_at hl 1 rfl) ?_
        refine lv_iadd hx hb d_M_compact_258 (tpi (y := nI (f + (x.cmN d))) (nI_add (f) (x.cmN d)) ?_)
        refine lv_iconst (v := 1) hx hb d_M_compact_259 (by decide) ?_
        refine lv_iadd hx hb d_M_compact_260 (tpi (y := nI ((f + (x.cmN d)) + 1)) (nI_add (f + (x.cmN d)) (1)) ?_)
        exact rfI hx hb hr hlk hS (MS.s_baseHorizon (MS.s_points (MS.s_baseHidden (MS.s_hidden (MS.s_places (MS.s_pointValues (MS.s_pointTimes (MS.s_pointSeries z (tdT z.stay z.pointSeries z.points)) (tdT z.stay z.pointTimes z.points)) (tdT z.stay z.pointValues z.points)) (tdT z.stay z.places z.points)) (tdT z.stay z.hidden z.points)) (mapT (cnt z.points z.stay) (fun _ => true) (tdT z.stay z.hidden z.points) (tdT z.stay z.baseHidden z.points))) (cnt z.points z.stay)) z.horizon) ⟨by rw [hf9], by subst ez; subst ey; rfl⟩ hP hD (Nat.le_of_ble_eq_true rfl) (Nat.le_of_ble_eq_true rfl) d_M_compact_261
      refine lv_aload_n hx hb d_M_compact_201 rfl (lv_at hl 5 rfl) ?_
      refine gF (v := .ref (ad 26)) hx hb hown hE hK hP 0 rfl rfl layM 26 (by decide) w509 rfl d_M_compact_202 ?_
      refine lv_iload_n hx hb d_M_compact_205 rfl (lv_at hl 4 rfl) ?_
      refine lv_aload_n hx hb d_M_compact_206 rfl (lv_at hl 5 rfl) ?_
      refine gF (v := .int (nI y.parcelNumber)) hx hb hown hE hK hP 0 rfl rfl layM 29 (by decide) w929 rfl d_M_compact_207 ?_
      refine nistN (v := y.parcelNumber) hx hb hK hP hD hS 12 1 rfl rfl (d) (by omega) (by decide) d_M_compact_210 (fun H locs hP hD hS => ?_)
      have hP : va_P D vwCl (MW dA h ad (MS.s_parcels y (va_up y.parcels d y.parcelNumber))) H := hP
      have hD : va_D A (MW dA h ad (MS.s_parcels y (va_up y.parcels d y.parcelNumber))) := hD
      refine lv_aload_n hx hb d_M_compact_211 rfl (lv_at hl 5 rfl) ?_
      refine gF (v := .ref (ad 27)) hx hb hown hE hK hP 0 rfl rfl layM 27 (by decide) w510 rfl d_M_compact_212 ?_
      refine lv_iload_n hx hb d_M_compact_215 rfl (lv_at hl 4 rfl) ?_
      refine lv_iload hx hb d_M_compact_216 (lv_at hl 1 rfl) ?_
      refine nistN (v := x.cmN d) hx hb hK hP hD hS 13 1 rfl rfl (d) (by omega) (by decide) d_M_compact_218 (fun H locs hP hD hS => ?_)
      have hP : va_P D vwCl (MW dA h ad (MS.s_parcelBlocks (MS.s_parcels y (va_up y.parcels d y.parcelNumber)) (va_up y.parcelBlocks d (x.cmN d)))) H := hP
      have hD : va_D A (MW dA h ad (MS.s_parcelBlocks (MS.s_parcels y (va_up y.parcels d y.parcelNumber)) (va_up y.parcelBlocks d (x.cmN d)))) := hD
      refine lv_aload_n hx hb d_M_compact_219 rfl (lv_at hl 5 rfl) ?_
      refine lv_dup hx hb d_M_compact_220 rfl ?_
      refine gF (v := .int (nI y.parcelNumber)) hx hb hown hE hK hP 0 rfl rfl layM 29 (by decide) w929 rfl d_M_compact_221 ?_
      refine lv_iconst (v := 1) hx hb d_M_compact_224 (by decide) ?_
      refine lv_iadd hx hb d_M_compact_225 (tpi (y := nI (y.parcelNumber + 1)) (nI_add (y.parcelNumber) (1)) ?_)
      refine pF (v := .int (nI (y.parcelNumber + 1))) hx hb hown hE hK hP hD hS 0 rfl rfl layM tyM tokM nmM 29 (by decide) w929 rfl rfl rfl (Nat.le_of_ble_eq_true rfl) d_M_compact_226 (fun H locs hP hD hS => ?_)
      have hP : va_P D vwCl (MW dA h ad (MS.s_parcelNumber (MS.s_parcelBlocks (MS.s_parcels y (va_up y.parcels d y.parcelNumber)) (va_up y.parcelBlocks d (x.cmN d))) (y.parcelNumber + 1))) H := hP
      have hD : va_D A (MW dA h ad (MS.s_parcelNumber (MS.s_parcelBlocks (MS.s_parcels y (va_up y.parcels d y.parcelNumber)) (va_up y.parcelBlocks d (x.cmN d))) (y.parcelNumber + 1))) := hD
      refine lv_aload_n hx hb d_M_compact_229 rfl (lv_at hl 5 rfl) ?_
      refine lv_iload_n hx hb d_M_compact_230 rfl (lv_at hl 4 rfl) ?_
      refine lv_iconst (v := 1) hx hb d_M_compact_231 (by decide) ?_
      refine lv_iadd hx hb d_M_compact_232 (tpi (y := nI (d + 1)) (nI_add (d) (1)) ?_)
      refine jfV (rnV (As := [.int (nI (d + 1))]) (rest := []) hx hb hml hown hE hK (hN _ _ hS) hP hD (k_remove l D dA H.size h ad (MS.s_parcelNumber (MS.s_parcelBlocks (MS.s_parcels y (va_up y.parcels d y.parcelNumber)) (va_up y.parcelBlocks d (x.cmN d))) (y.parcelNumber + 1)) (d + 1) (show (d + 1) < y.parcelCount from by omega) (show y.parcelCount ≤ 40 from by omega)) (q0 := 0) rfl rfl w931 w930 w932 w933 w328 rfl rfl ⟨⟨by decide, by decide⟩, rfl⟩ ⟨(Nat.le_of_ble_eq_true rfl), (Nat.le_of_ble_eq_true rfl)⟩ rfl hl.1 rfl (Nat.le_of_ble_eq_true rfl) d_M_compact_233 ⟨(Nat.le_of_ble_eq_true rfl), (Nat.le_of_ble_eq_true rfl)⟩) hP hD hS hA (fun u16 H locs hp9 hP hD hS => ?_)
      have hP : va_P D vwCl (MW dA h ad (MS.s_parcelNumber (MS.s_parcelCount (MS.s_parcelBlocks (MS.s_parcels y (rmT (d + 1) (va_up y.parcels d y.parcelNumber) (y.parcelCount - 1))) (rmT (d + 1) (va_up y.parcelBlocks d (x.cmN d)) (y.parcelCount - 1))) (y.parcelCount - 1)) (y.parcelNumber + 1))) H := hP
      have hD : va_D A (MW dA h ad (MS.s_parcelNumber (MS.s_parcelCount (MS.s_parcelBlocks (MS.s_parcels y (rmT (d + 1) (va_up y.parcels d y.parcelNumber) (y.parcelCount - 1))) (rmT (d + 1) (va_up y.parcelBlocks d (x.cmN d)) (y.parcelCount - 1))) (y.parcelCount - 1)) (y.parcelNumber + 1))) := hD
      refine lv_iload hx hb d_M_compact_236 (lv_at hl 1 rfl) ?_
      refine lv_if_ne hx hb d_M_compact_238 (tgt := 246) rfl (fun g17 => ?_) (fun g17 => ?_)
      · have g17 := mt (nI_eq (a := x.cmN d) (b := 0) (by omega) (by decide)).mpr g17
        exact J246 (MS.s_parcelNumber (MS.s_parcelCount (MS.s_parcelBlocks (MS.s_parcels y (rmT (d + 1) (va_up y.parcels d y.parcelNumber) (y.parcelCount - 1))) (rmT (d + 1) (va_up y.parcelBlocks d (x.cmN d)) (y.parcelCount - 1))) (y.parcelCount - 1)) (y.parcelNumber + 1)) (by rw [decide_eq_false g17]; rfl) y1 H _ ls hP hD hS (lv_sub hl [0, 1, 2, 3, 4, 5] rfl)
      · have g17 := (nI_eq (a := x.cmN d) (b := 0) (by omega) (by decide)).mp g17
        refine lv_aload_n hx hb d_M_compact_241 rfl (lv_at hl 5 rfl) ?_
        refine lv_iload_n hx hb d_M_compact_242 rfl (lv_at hl 4 rfl) ?_
        refine jfV (rnV (As := [.int (nI d)]) (rest := []) hx hb hml hown hE hK (hN _ _ hS) hP hD (k_remove l D dA H.size h ad (MS.s_parcelNumber (MS.s_parcelCount (MS.s_parcelBlocks (MS.s_parcels y (rmT (d + 1) (va_up y.parcels d y.parcelNumber) (y.parcelCount - 1))) (rmT (d + 1) (va_up y.parcelBlocks d (x.cmN d)) (y.parcelCount - 1))) (y.parcelCount - 1)) (y.parcelNumber + 1)) d (show d < (y.parcelCount - 1) from by omega) (show (y.parcelCount - 1) ≤ 40 from by omega)) (q0 := 0) rfl rfl w931 w930 w932 w933 w328 rfl rfl ⟨⟨by decide, by decide⟩, rfl⟩ ⟨(Nat.le_of_ble_eq_true rfl), (Nat.le_of_ble_eq_true rfl)⟩ rfl hl.1 rfl (Nat.le_of_ble_eq_true rfl) d_M_compact_243 ⟨(Nat.le_of_ble_eq_true rfl), (Nat.le_of_ble_eq_true rfl)⟩) hP hD hS hA (fun u19 H locs hp9 hP hD hS => ?_)
        have hP : va_P D vwCl (MW dA h ad (MS.s_parcelNumber (MS.s_parcelCount (MS.s_parcelBlocks (MS.s_parcels y (rmT d (rmT (d + 1) (va_up y.parcels d y.parcelNumber) (y.parcelCount - 1)) ((y.parcelCount - 1) - 1))) (rmT d (rmT (d + 1) (va_up y.parcelBlocks d (x.cmN d)) (y.parcelCount - 1)) ((y.parcelCount - 1) - 1))) ((y.parcelCount - 1) - 1)) (y.parcelNumber + 1))) H := hP
        have hD : va_D A (MW dA h ad (MS.s_parcelNumber (MS.s_parcelCount (MS.s_parcelBlocks (MS.s_parcels y (rmT d (rmT (d + 1) (va_up y.parcels d y.parcelNumber) (y.parcelCount - 1)) ((y.parcelCount - 1) - 1))) (rmT d (rmT (d + 1) (va_up y.parcelBlocks d (x.cmN d)) (y.parcelCount - 1)) ((y.parcelCount - 1) - 1))) ((y.parcelCount - 1) - 1)) (y.parcelNumber + 1))) := hD
        exact J246 (MS.s_parcelNumber (MS.s_parcelCount (MS.s_parcelBlocks (MS.s_parcels y (rmT d (rmT (d + 1) (va_up y.parcels d y.parcelNumber) (y.parcelCount - 1)) ((y.parcelCount - 1) - 1))) (rmT d (rmT (d + 1) (va_up y.parcelBlocks d (x.cmN d)) (y.parcelCount - 1)) ((y.parcelCount - 1) - 1))) ((y.parcelCount - 1) - 1)) (y.parcelNumber + 1)) (by rw [decide_eq_true g17]; rfl) y1 H _ ls hP hD hS (lv_sub hl [0, 1, 2, 3, 4, 5] rfl)
    refine lv_iconst (v := 0) hx hb d_M_compact_126 (by decide) ?_
    refine lv_istore hx hb d_M_compact_127 hl (by decide) rfl (fun ls hl => ?_)
    have hl : lv_has ls 7 [(6, .int 0), (5, .int (nI f)), (4, .int (nI (x.cmN d))), (3, .int (nI (x.parcels (d + 1)))), (2, .int (nI (x.parcels d))), (1, .int (nI d)), (0, .ref h)] := hl
    have L129 : ∀ (k9 : Nat) (q : Nat) (i1 : q ≤ x.points) (hk9 : x.points - q = k9), ∀ (H : Heap) (locs : List Loc) (ls : Array Slot) (hP : va_P D vwCl (MW dA h ad (MS.s_fresh (MS.s_kept (MS.s_places (MS.s_written (MS.s_cutLeft (MS.s_cod x 0) (cutN x.syCut (x.cmN d + 1))) (x.syWr + (x.cmN d + 1))) (mapT q (x.is12 d) x.flP x.places)) x.records) false)) H) (hD : va_D A (MW dA h ad (MS.s_fresh (MS.s_kept (MS.s_places (MS.s_written (MS.s_cutLeft (MS.s_cod x 0) (cutN x.syCut (x.cmN d + 1))) (x.syWr + (x.cmN d + 1))) (mapT q (x.is12 d) x.flP x.places)) x.records) false))) (hS : va_S A s.heap H locs) (hl : lv_has ls 7 [(6, .int (nI q)), (5, .int (nI f)), (4, .int (nI (x.cmN d))), (3, .int (nI (x.parcels (d + 1)))), (2, .int (nI (x.parcels d))), (1, .int (nI d)), (0, .ref h)]), W p l e ({ frames := 3, cells := 0, slots := 0, locals := 63 } : Room) s m ([.ref h, .int (nI d)] : List Value).toArray below meth c H locs 0 0 (MQ below (va_Qi (fun (r9 : Int32) (u9 : MS) => r9 = nI ((if x.fresh = true then 1 else 0) + x.cmN d + 1) ∧ u9 = x.cmS d) (fun (u9 : MS) t9 => bW D A (MW dA h ad u9) t9) A) ([.ref h, .int (nI d)] : List Value).toArray s 0 0 A) (F0 m 129 ls []) := by
      intro k9
      induction k9 using Nat.strongRecOn with
      | ind k9 ih129 =>
        intro q i1 hk9 H locs ls hP hD hS hl
        refine lv_iload hx hb d_M_compact_129 (lv_at hl 0 rfl) ?_
        refine lv_aload_n hx hb d_M_compact_131 rfl (lv_at hl 6 rfl) ?_
        refine gF (v := .int (nI x.points)) hx hb hown hE hK hP 0 rfl rfl layM 23 (by decide) w420 rfl d_M_compact_132 ?_
        refine lv_icmp_ge hx hb d_M_compact_135 (tgt := 201) rfl (fun g20 => ?_) (fun g20 => ?_)
        · have g20 := (nI_leI (a := x.points) (b := q) (by omega) (by omega)).mp g20
          exact J201 (MS.s_fresh (MS.s_kept (MS.s_places (MS.s_written (MS.s_cutLeft (MS.s_cod x 0) (cutN x.syCut (x.cmN d + 1))) (x.syWr + (x.cmN d + 1))) (mapT q (x.is12 d) x.flP x.places)) x.records) false) (by rw [show q = x.points by omega]; rfl) rfl rfl H _ ls hP hD hS (lv_sub hl [1, 2, 3, 4, 5, 6] rfl)
        · have g20 := mt (nI_leI (a := x.points) (b := q) (by omega) (by omega)).mpr g20
          refine lv_aload_n hx hb d_M_compact_138 rfl (lv_at hl 6 rfl) ?_
          refine gF (v := .ref (ad 20)) hx hb hown hE hK hP 0 rfl rfl layM 20 (by decide) w506 rfl d_M_compact_139 ?_
          refine lv_iload hx hb d_M_compact_142 (lv_at hl 0 rfl) ?_
          refine lv_aload_n hx hb d_M_compact_144 rfl (lv_at hl 6 rfl) ?_
          refine gF (v := .ref (ad 20)) hx hb hown hE hK hP 0 rfl rfl layM 20 (by decide) w506 rfl d_M_compact_145 ?_
          refine lv_iload hx hb d_M_compact_148 (lv_at hl 0 rfl) ?_
          refine nild (f := (mapT q (x.is12 d) x.flP x.places)) hx hb hK hP 9 1 rfl rfl (q) (by omega) (by decide) d_M_compact_150 ?_
          refine tpi (y := (x.places q)) (mapT_at _ _ _ (Nat.le_refl q)) ?_
          refine lv_iload_n hx hb d_M_compact_151 rfl (lv_at hl 4 rfl) ?_
          refine lv_icmp_eq hx hb d_M_compact_152 (tgt := 166) rfl (fun g21 => ?_) (fun g21 => ?_)
          · have g21 := g21
            refine lv_aload_n hx hb d_M_compact_166 rfl (lv_at hl 6 rfl) ?_
            refine lv_iload hx hb d_M_compact_167 (lv_at hl 0 rfl) ?_
            refine jfI (rnV (As := [.int (nI q)]) (rest := [.int (nI q), .ref (ad 20)]) hx hb hml hown hE hK (hN _ _ hS) hP hD (k_isSeen l D dA H.size h ad (MS.s_fresh (MS.s_kept (MS.s_places (MS.s_written (MS.s_cutLeft (MS.s_cod x 0) (cutN x.syCut (x.cmN d + 1))) (x.syWr + (x.cmN d + 1))) (mapT q (x.is12 d) x.flP x.places)) x.records) false) q (show q < 12000 from by omega)) (q0 := 0) rfl rfl w861 w860 w862 w863 w328 rfl rfl ⟨⟨by decide, by decide⟩, rfl⟩ ⟨(Nat.le_of_ble_eq_true rfl), (Nat.le_of_ble_eq_true rfl)⟩ rfl hl.1 rfl (Nat.le_of_ble_eq_true rfl) d_M_compact_169 ⟨(Nat.le_of_ble_eq_true rfl), (Nat.le_of_ble_eq_true rfl)⟩) hP hD hS hA (fun r22 u23 H locs hp9 hP hD hS => ?_)
            have hP : va_P D vwCl (MW dA h ad (MS.s_fresh (MS.s_kept (MS.s_places (MS.s_written (MS.s_cutLeft (MS.s_cod x 0) (cutN x.syCut (x.cmN d + 1))) (x.syWr + (x.cmN d + 1))) (mapT q (x.is12 d) x.flP x.places)) x.records) false)) H := hP
            have hD : va_D A (MW dA h ad (MS.s_fresh (MS.s_kept (MS.s_places (MS.s_written (MS.s_cutLeft (MS.s_cod x 0) (cutN x.syCut (x.cmN d + 1))) (x.syWr + (x.cmN d + 1))) (mapT q (x.is12 d) x.flP x.places)) x.records) false)) := hD
            replace hp9 : bI ((MS.s_places x (mapT q (x.is12 d) x.flP x.places)).seen q) = r22 := Eq.symm hp9
            subst hp9
            rw [seen_mapP]
            refine lv_if_eq hx hb d_M_compact_172 (tgt := 182) rfl (fun g24 => ?_) (fun g24 => ?_)
            · have g24 := bI_0 g24
              refine lv_bipush (v := (-2)) hx hb d_M_compact_182 (by decide) ?_
              refine lv_goto hx hb d_M_compact_184 (tgt := 194) rfl ?_
              refine nist hx hb hK hP hD hS 9 1 rfl rfl (q) (by omega) (by decide) d_M_compact_194 (fun H locs hP hD hS => ?_)
              have hP : va_P D vwCl (MW dA h ad (MS.s_fresh (MS.s_kept (MS.s_places (MS.s_written (MS.s_cutLeft (MS.s_cod x 0) (cutN x.syCut (x.cmN d + 1))) (x.syWr + (x.cmN d + 1))) (va_up (mapT q (x.is12 d) x.flP x.places) q (-2))) x.records) false)) H := hP
              have hD : va_D A (MW dA h ad (MS.s_fresh (MS.s_kept (MS.s_places (MS.s_written (MS.s_cutLeft (MS.s_cod x 0) (cutN x.syCut (x.cmN d + 1))) (x.syWr + (x.cmN d + 1))) (va_up (mapT q (x.is12 d) x.flP x.places) q (-2))) x.records) false)) := hD
              refine lv_iinc (k := 0) (v := nI (q + 1)) hx hb d_M_compact_195 hl rfl (iincN (q) 1 1 (by decide)) (by decide) rfl (fun ls hl => ?_)
              have hl : lv_has ls 7 [(6, .int (nI (q + 1))), (5, .int (nI f)), (4, .int (nI (x.cmN d))), (3, .int (nI (x.parcels (d + 1)))), (2, .int (nI (x.parcels d))), (1, .int (nI d)), (0, .ref h)] := hl
              refine lv_goto hx hb d_M_compact_198 (tgt := 129) rfl ?_
              have e9 : (MS.s_fresh (MS.s_kept (MS.s_places (MS.s_written (MS.s_cutLeft (MS.s_cod x 0) (cutN x.syCut (x.cmN d + 1))) (x.syWr + (x.cmN d + 1))) (va_up (mapT q (x.is12 d) x.flP x.places) q (-2))) x.records) false : MS) = MS.s_fresh (MS.s_kept (MS.s_places (MS.s_written (MS.s_cutLeft (MS.s_cod x 0) (cutN x.syCut (x.cmN d + 1))) (x.syWr + (x.cmN d + 1))) (mapT (q + 1) (x.is12 d) x.flP x.places)) x.records) false := by rw [show (mapT (q + 1) (x.is12 d) x.flP x.places) = (va_up (mapT q (x.is12 d) x.flP x.places) q (-2)) from (mapT_t (by simp [MS.is12, *]) (by simp [MS.flP, *]))] <;> rfl
              exact ih129 _ (by omega) (q + 1) (by omega) rfl H _ ls (cvP e9 hP) (cvD e9 hD) hS (lv_sub hl [0, 1, 2, 3, 4, 5, 6] rfl)
            · have g24 := bI_n0 g24
              refine lv_aload_n hx hb d_M_compact_175 rfl (lv_at hl 6 rfl) ?_
              refine gF (v := .int (nI x.parcelNumber)) hx hb hown hE hK hP 0 rfl rfl layM 29 (by decide) w929 rfl d_M_compact_176 ?_
              refine lv_goto hx hb d_M_compact_179 (tgt := 194) rfl ?_
              refine nist hx hb hK hP hD hS 9 1 rfl rfl (q) (by omega) (by decide) d_M_compact_194 (fun H locs hP hD hS => ?_)
              have hP : va_P D vwCl (MW dA h ad (MS.s_fresh (MS.s_kept (MS.s_places (MS.s_written (MS.s_cutLeft (MS.s_cod x 0) (cutN x.syCut (x.cmN d + 1))) (x.syWr + (x.cmN d + 1))) (va_up (mapT q (x.is12 d) x.flP x.places) q (nI x.parcelNumber))) x.records) false)) H := hP
              have hD : va_D A (MW dA h ad (MS.s_fresh (MS.s_kept (MS.s_places (MS.s_written (MS.s_cutLeft (MS.s_cod x 0) (cutN x.syCut (x.cmN d + 1))) (x.syWr + (x.cmN d + 1))) (va_up (mapT q (x.is12 d) x.flP x.places) q (nI x.parcelNumber))) x.records) false)) := hD
              refine lv_iinc (k := 0) (v := nI (q + 1)) hx hb d_M_compact_195 hl rfl (iincN (q) 1 1 (by decide)) (by decide) rfl (fun ls hl => ?_)
              have hl : lv_has ls 7 [(6, .int (nI (q + 1))), (5, .int (nI f)), (4, .int (nI (x.cmN d))), (3, .int (nI (x.parcels (d + 1)))), (2, .int (nI (x.parcels d))), (1, .int (nI d)), (0, .ref h)] := hl
              refine lv_goto hx hb d_M_compact_198 (tgt := 129) rfl ?_
              have e9 : (MS.s_fresh (MS.s_kept (MS.s_places (MS.s_written (MS.s_cutLeft (MS.s_cod x 0) (cutN x.syCut (x.cmN d + 1))) (x.syWr + (x.cmN d + 1))) (va_up (mapT q (x.is12 d) x.flP x.places) q (nI x.parcelNumber))) x.records) false : MS) = MS.s_fresh (MS.s_kept (MS.s_places (MS.s_written (MS.s_cutLeft (MS.s_cod x 0) (cutN x.syCut (x.cmN d + 1))) (x.syWr + (x.cmN d + 1))) (mapT (q + 1) (x.is12 d) x.flP x.places)) x.records) false := by rw [show (mapT (q + 1) (x.is12 d) x.flP x.places) = (va_up (mapT q (x.is12 d) x.flP x.places) q (nI x.parcelNumber)) from (mapT_t (by simp [MS.is12, *]) (by simp [MS.flP, *]))] <;> rfl
              exact ih129 _ (by omega) (q + 1) (by omega) rfl H _ ls (cvP e9 hP) (cvD e9 hD) hS (lv_sub hl [0, 1, 2, 3, 4, 5, 6] rfl)
          · have g21 := g21
            refine lv_aload_n hx hb d_M_compact_155 rfl (lv_at hl 6 rfl) ?_
            refine gF (v := .ref (ad 20)) hx hb hown hE hK hP 0 rfl rfl layM 20 (by decide) w506 rfl d_M_compact_156 ?_
            refine lv_iload hx hb d_M_compact_159 (lv_at hl 0 rfl) ?_
            refine nild (f := (mapT q (x.is12 d) x.flP x.places)) hx hb hK hP 9 1 rfl rfl (q) (by omega) (by decide) d_M_compact_161 ?_
            refine tpi (y := (x.places q)) (mapT_at _ _ _ (Nat.le_refl q)) ?_
            refine lv_iload_n hx hb d_M_compact_162 rfl (lv_at hl 3 rfl) ?_
            refine lv_icmp_ne hx hb d_M_compact_163 (tgt := 187) rfl (fun g25 => ?_) (fun g25 => ?_)
            · have g25 := g25
              refine lv_aload_n hx hb d_M_compact_187 rfl (lv_at hl 6 rfl) ?_
              refine gF (v := .ref (ad 20)) hx hb hown hE hK hP 0 rfl rfl layM 20 (by decide) w506 rfl d_M_compact_188 ?_
              refine lv_iload hx hb d_M_compact_191 (lv_at hl 0 rfl) ?_
              refine nild (f := (mapT q (x.is12 d) x.flP x.places)) hx hb hK hP 9 1 rfl rfl (q) (by omega) (by decide) d_M_compact_193 ?_
              refine tpi (y := (x.places q)) (mapT_at _ _ _ (Nat.le_refl q)) ?_
              refine nist hx hb hK hP hD hS 9 1 rfl rfl (q) (by omega) (by decide) d_M_compact_194 (fun H locs hP hD hS => ?_)
              have hP : va_P D vwCl (MW dA h ad (MS.s_fresh (MS.s_kept (MS.s_places (MS.s_written (MS.s_cutLeft (MS.s_cod x 0) (cutN x.syCut (x.cmN d + 1))) (x.syWr + (x.cmN d + 1))) (va_up (mapT q (x.is12 d) x.flP x.places) q (x.places q))) x.records) false)) H := hP
              have hD : va_D A (MW dA h ad (MS.s_fresh (MS.s_kept (MS.s_places (MS.s_written (MS.s_cutLeft (MS.s_cod x 0) (cutN x.syCut (x.cmN d + 1))) (x.syWr + (x.cmN d + 1))) (va_up (mapT q (x.is12 d) x.flP x.places) q (x.places q))) x.records) false)) := hD
              refine lv_iinc (k := 0) (v := nI (q + 1)) hx hb d_M_compact_195 hl rfl (iincN (q) 1 1 (by decide)) (by decide) rfl (fun ls hl => ?_)
              have hl : lv_has ls 7 [(6, .int (nI (q + 1))), (5, .int (nI f)), (4, .int (nI (x.cmN d))), (3, .int (nI (x.parcels (d + 1)))), (2, .int (nI (x.parcels d))), (1, .int (nI d)), (0, .ref h)] := hl
              refine lv_goto hx hb d_M_compact_198 (tgt := 129) rfl ?_
              have e9 : (MS.s_fresh (MS.s_kept (MS.s_places (MS.s_written (MS.s_cutLeft (MS.s_cod x 0) (cutN x.syCut (x.cmN d + 1))) (x.syWr + (x.cmN d + 1))) (va_up (mapT q (x.is12 d) x.flP x.places) q (x.places q))) x.records) false : MS) = MS.s_fresh (MS.s_kept (MS.s_places (MS.s_written (MS.s_cutLeft (MS.s_cod x 0) (cutN x.syCut (x.cmN d + 1))) (x.syWr + (x.cmN d + 1))) (mapT (q + 1) (x.is12 d) x.flP x.places)) x.records) false := by rw [show (mapT (q + 1) (x.is12 d) x.flP x.places) = (va_up (mapT q (x.is12 d) x.flP x.places) q (x.places q)) from (mapT_u (by simp [MS.is12, *]) rfl)] <;> rfl
              exact ih129 _ (by omega) (q + 1) (by omega) rfl H _ ls (cvP e9 hP) (cvD e9 hD) hS (lv_sub hl [0, 1, 2, 3, 4, 5, 6] rfl)
            · have g25 := g25
              refine lv_aload_n hx hb d_M_compact_166 rfl (lv_at hl 6 rfl) ?_
              refine lv_iload hx hb d_M_compact_167 (lv_at hl 0 rfl) ?_
              refine jfI (rnV (As := [.int (nI q)]) (rest := [.int (nI q), .ref (ad 20)]) hx hb hml hown hE hK (hN _ _ hS) hP hD (k_isSeen l D dA H.size h ad (MS.s_fresh (MS.s_kept (MS.s_places (MS.s_written (MS.s_cutLeft (MS.s_cod x 0) (cutN x.syCut (x.cmN d + 1))) (x.syWr + (x.cmN d + 1))) (mapT q (x.is12 d) x.flP x.places)) x.records) false) q (show q < 12000 from by omega)) (q0 := 0) rfl rfl w861 w860 w862 w863 w328 rfl rfl ⟨⟨by decide, by decide⟩, rfl⟩ ⟨(Nat.le_of_ble_eq_true rfl), (Nat.le_of_ble_eq_true rfl)⟩ rfl hl.1 rfl (Nat.le_of_ble_eq_true rfl) d_M_compact_169 ⟨(Nat.le_of_ble_eq_true rfl), (Nat.le_of_ble_eq_true rfl)⟩) hP hD hS hA (fun r26 u27 H locs hp9 hP hD hS => ?_)
              have hP : va_P D vwCl (MW dA h ad (MS.s_fresh (MS.s_kept (MS.s_places (MS.s_written (MS.s_cutLeft (MS.s_cod x 0) (cutN x.syCut (x.cmN d + 1))) (x.syWr + (x.cmN d + 1))) (mapT q (x.is12 d) x.flP x.places)) x.records) false)) H := hP
              have hD : va_D A (MW dA h ad (MS.s_fresh (MS.s_kept (MS.s_places (MS.s_written (MS.s_cutLeft (MS.s_cod x 0) (cutN x.syCut (x.cmN d + 1))) (x.syWr + (x.cmN d + 1))) (mapT q (x.is12 d) x.flP x.places)) x.records) false)) := hD
              replace hp9 : bI ((MS.s_places x (mapT q (x.is12 d) x.flP x.places)).seen q) = r26 := Eq.symm hp9
              subst hp9
              rw [seen_mapP]
              refine lv_if_eq hx hb d_M_compact_172 (tgt := 182) rfl (fun g28 => ?_) (fun g28 => ?_)
              · have g28 := bI_0 g28
                refine lv_bipush (v := (-2)) hx hb d_M_compact_182 (by decide) ?_
                refine lv_goto hx hb d_M_compact_184 (tgt := 194) rfl ?_
                refine nist hx hb hK hP hD hS 9 1 rfl rfl (q) (by omega) (by decide) d_M_compact_194 (fun H locs hP hD hS => ?_)
                have hP : va_P D vwCl (MW dA h ad (MS.s_fresh (MS.s_kept (MS.s_places (MS.s_written (MS.s_cutLeft (MS.s_cod x 0) (cutN x.syCut (x.cmN d + 1))) (x.syWr + (x.cmN d + 1))) (va_up (mapT q (x.is12 d) x.flP x.places) q (-2))) x.records) false)) H := hP
                have hD : va_D A (MW dA h ad (MS.s_fresh (MS.s_kept (MS.s_places (MS.s_written (MS.s_cutLeft (MS.s_cod x 0) (cutN x.syCut (x.cmN d + 1))) (x.syWr + (x.cmN d + 1))) (va_up (mapT q (x.is12 d) x.flP x.places) q (-2))) x.records) false)) := hD
                refine lv_iinc (k := 0) (v := nI (q + 1)) hx hb d_M_compact_195 hl rfl (iincN (q) 1 1 (by decide)) (by decide) rfl (fun ls hl => ?_)
                have hl : lv_has ls 7 [(6, .int (nI (q + 1))), (5, .int (nI f)), (4, .int (nI (x.cmN d))), (3, .int (nI (x.parcels (d + 1)))), (2, .int (nI (x.parcels d))), (1, .int (nI d)), (0, .ref h)] := hl
                refine lv_goto hx hb d_M_compact_198 (tgt := 129) rfl ?_
                have e9 : (MS.s_fresh (MS.s_kept (MS.s_places (MS.s_written (MS.s_cutLeft (MS.s_cod x 0) (cutN x.syCut (x.cmN d + 1))) (x.syWr + (x.cmN d + 1))) (va_up (mapT q (x.is12 d) x.flP x.places) q (-2))) x.records) false : MS) = MS.s_fresh (MS.s_kept (MS.s_places (MS.s_written (MS.s_cutLeft (MS.s_cod x 0) (cutN x.syCut (x.cmN d + 1))) (x.syWr + (x.cmN d + 1))) (mapT (q + 1) (x.is12 d) x.flP x.places)) x.records) false := by rw [show (mapT (q + 1) (x.is12 d) x.flP x.places) = (va_up (mapT q (x.is12 d) x.flP x.places) q (-2)) from (mapT_t (by simp [MS.is12, *]) (by simp [MS.flP, *]))] <;> rfl
                exact ih129 _ (by omega) (q + 1) (by omega) rfl H _ ls (cvP e9 hP) (cvD e9 hD) hS (lv_sub hl [0, 1, 2, 3, 4, 5, 6] rfl)
              · have g28 := bI_n0 g28
                refine lv_aload_n hx hb d_M_compact_175 rfl (lv_at hl 6 rfl) ?_
                refine gF (v := .int (nI x.parcelNumber)) hx hb hown hE hK hP 0 rfl rfl layM 29 (by decide) w929 rfl d_M_compact_176 ?_
                refine lv_goto hx hb d_M_compact_179 (tgt := 194) rfl ?_
                refine nist hx hb hK hP hD hS 9 1 rfl rfl (q) (by omega) (by decide) d_M_compact_194 (fun H locs hP hD hS => ?_)
                have hP : va_P D vwCl (MW dA h ad (MS.s_fresh (MS.s_kept (MS.s_places (MS.s_written (MS.s_cutLeft (MS.s_cod x 0) (cutN x.syCut (x.cmN d + 1))) (x.syWr + (x.cmN d + 1))) (va_up (mapT q (x.is12 d) x.flP x.places) q (nI x.parcelNumber))) x.records) false)) H := hP
                have hD : va_D A (MW dA h ad (MS.s_fresh (MS.s_kept (MS.s_places (MS.s_written (MS.s_cutLeft (MS.s_cod x 0) (cutN x.syCut (x.cmN d + 1))) (x.syWr + (x.cmN d + 1))) (va_up (mapT q (x.is12 d) x.flP x.places) q (nI x.parcelNumber))) x.records) false)) := hD
                refine lv_iinc (k := 0) (v := nI (q + 1)) hx hb d_M_compact_195 hl rfl (iincN (q) 1 1 (by decide)) (by decide) rfl (fun ls hl => ?_)
                have hl : lv_has ls 7 [(6, .int (nI (q + 1))), (5, .int (nI f)), (4, .int (nI (x.cmN d))), (3, .int (nI (x.parcels (d + 1)))), (2, .int (nI (x.parcels d))), (1, .int (nI d)), (0, .ref h)] := hl
                refine lv_goto hx hb d_M_compact_198 (tgt := 129) rfl ?_
                have e9 : (MS.s_fresh (MS.s_kept (MS.s_places (MS.s_written (MS.s_cutLeft (MS.s_cod x 0) (cutN x.syCut (x.cmN d + 1))) (x.syWr + (x.cmN d + 1))) (va_up (mapT q (x.is12 d) x.flP x.places) q (nI x.parcelNumber))) x.records) false : MS) = MS.s_fresh (MS.s_kept (MS.s_places (MS.s_written (MS.s_cutLeft (MS.s_cod x 0) (cutN x.syCut (x.cmN d + 1))) (x.syWr + (x.cmN d + 1))) (mapT (q + 1) (x.is12 d) x.flP x.places)) x.records) false := by rw [show (mapT (q + 1) (x.is12 d) x.flP x.places) = (va_up (mapT q (x.is12 d) x.flP x.places) q (nI x.parcelNumber)) from (mapT_t (by simp [MS.is12, *]) (by simp [MS.flP, *]))] <;> rfl
                exact ih129 _ (by omega) (q + 1) (by omega) rfl H _ ls (cvP e9 hP) (cvD e9 hD) hS (lv_sub hl [0, 1, 2, 3, 4, 5, 6] rfl)
    have e9 : (MS.s_fresh (MS.s_kept (MS.s_written (MS.s_cutLeft (MS.s_cod x 0) (cutN x.syCut (x.cmN d + 1))) (x.syWr + (x.cmN d + 1))) x.records) false : MS) = MS.s_fresh (MS.s_kept (MS.s_places (MS.s_written (MS.s_cutLeft (MS.s_cod x 0) (cutN x.syCut (x.cmN d + 1))) (x.syWr + (x.cmN d + 1))) (mapT 0 (x.is12 d) x.flP x.places)) x.records) false := by rw [show (mapT 0 (x.is12 d) x.flP x.places) = x.places from (mapT_0 _ _ _)] <;> rfl
    exact L129 _ 0 (Nat.zero_le _) rfl H _ ls (cvP e9 hP) (cvD e9 hD) hS (lv_sub hl [0, 1, 2, 3, 4, 5, 6] rfl)
  refine lv_aload_n hx hb d_M_compact_87 rfl (lv_at hl 3 rfl) ?_
  refine gF (v := .int (bI x.fresh)) hx hb hown hE hK hP 0 rfl rfl layM 41 (by decide) w337 rfl d_M_compact_88 ?_
  refine lv_if_eq hx hb d_M_compact_91 (tgt := 98) rfl (fun g29 => ?_) (fun g29 => ?_)
  · have g29 := bI_0 g29
    refine lv_iconst (v := 0) hx hb d_M_compact_98 (by decide) ?_
    exact J99 0 (by simp [*]) H _ ls hP hD hS (lv_sub hl [0, 1, 2, 4, 3] rfl)
  · have g29 := bI_n0 g29
    refine lv_iconst (v := 1) hx hb d_M_compact_94 (by decide) ?_
    refine lv_goto hx hb d_M_compact_95 (tgt := 99) rfl ?_
    exact J99 1 (by simp [*]) H _ ls hP hD hS (lv_sub hl [0, 1, 2, 4, 3] rfl)
end
