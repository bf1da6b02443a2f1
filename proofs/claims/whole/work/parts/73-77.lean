section
/-- k places from b on filled -/
def filG {α : Type} (f : Nat → α) (b : Nat) (v : α) : Nat → Nat → α
  | 0 => f
  | k + 1 => va_up (filG f b v k) (b + k) v
def cA (t r : Nat) : Nat := (t * 256 + r) * 64
/-- k places from b on turned -/
def ngW (f : Nat → Int64) (b : Nat) : Nat → Nat → Int64
  | 0 => f
  | k + 1 => va_up (ngW f b k) (b + k) (-(ngW f b k (b + k)))
def ngR (f : Nat → Int64) (t n : Nat) : Nat → Nat → Int64
  | 0 => f
  | r + 1 => ngW (ngR f t n r) (cA t r) n
theorem d_M_number_566_0 : decode prog_14_method_72_code 0 = .ok (.aload_n 0, 1) := by decide +kernel
theorem d_M_number_566_1 : decode prog_14_method_72_code 1 = .ok (.getfield 88, 3) := by decide +kernel
theorem d_M_number_566_4 : decode prog_14_method_72_code 4 = .ok (.aload_n 0, 1) := by decide +kernel
theorem d_M_number_566_5 : decode prog_14_method_72_code 5 = .ok (.getfield 400, 3) := by decide +kernel
theorem d_M_number_566_8 : decode prog_14_method_72_code 8 = .ok (.iconst 0, 1) := by decide +kernel
theorem d_M_number_566_9 : decode prog_14_method_72_code 9 = .ok (.iastore, 1) := by decide +kernel
theorem d_M_number_566_10 : decode prog_14_method_72_code 10 = .ok (.aload_n 0, 1) := by decide +kernel
theorem d_M_number_566_11 : decode prog_14_method_72_code 11 = .ok (.getfield 97, 3) := by decide +kernel
theorem d_M_number_566_14 : decode prog_14_method_72_code 14 = .ok (.aload_n 0, 1) := by decide +kernel
theorem d_M_number_566_15 : decode prog_14_method_72_code 15 = .ok (.getfield 400, 3) := by decide +kernel
theorem d_M_number_566_18 : decode prog_14_method_72_code 18 = .ok (.iconst 1, 1) := by decide +kernel
theorem d_M_number_566_19 : decode prog_14_method_72_code 19 = .ok (.iastore, 1) := by decide +kernel
theorem d_M_number_566_20 : decode prog_14_method_72_code 20 = .ok (.aload_n 0, 1) := by decide +kernel
theorem d_M_number_566_21 : decode prog_14_method_72_code 21 = .ok (.getfield 100, 3) := by decide +kernel
theorem d_M_number_566_24 : decode prog_14_method_72_code 24 = .ok (.sipush 256, 3) := by decide +kernel
theorem d_M_number_566_27 : decode prog_14_method_72_code 27 = .ok (.aload_n 0, 1) := by decide +kernel
theorem d_M_number_566_28 : decode prog_14_method_72_code 28 = .ok (.getfield 400, 3) := by decide +kernel
theorem d_M_number_566_31 : decode prog_14_method_72_code 31 = .ok (.imul, 1) := by decide +kernel
theorem d_M_number_566_32 : decode prog_14_method_72_code 32 = .ok (.iconst 0, 1) := by decide +kernel
theorem d_M_number_566_33 : decode prog_14_method_72_code 33 = .ok (.iastore, 1) := by decide +kernel
theorem d_M_number_566_34 : decode prog_14_method_72_code 34 = .ok (.iconst 0, 1) := by decide +kernel
theorem d_M_number_566_35 : decode prog_14_method_72_code 35 = .ok (.istore_n 1, 1) := by decide +kernel
theorem d_M_number_566_36 : decode prog_14_method_72_code 36 = .ok (.iload_n 1, 1) := by decide +kernel
theorem d_M_number_566_37 : decode prog_14_method_72_code 37 = .ok (.aload_n 0, 1) := by decide +kernel
theorem d_M_number_566_38 : decode prog_14_method_72_code 38 = .ok (.getfield 412, 3) := by decide +kernel
theorem d_M_number_566_41 : decode prog_14_method_72_code 41 = .ok (.if_icmp .ge 42, 3) := by decide +kernel
theorem d_M_number_566_83 : decode prog_14_method_72_code 83 = .ok (.aload_n 0, 1) := by decide +kernel
theorem d_M_number_566_84 : decode prog_14_method_72_code 84 = .ok (.dup, 1) := by decide +kernel
theorem d_M_number_566_85 : decode prog_14_method_72_code 85 = .ok (.getfield 400, 3) := by decide +kernel
theorem d_M_number_566_88 : decode prog_14_method_72_code 88 = .ok (.iconst 1, 1) := by decide +kernel
theorem d_M_number_566_89 : decode prog_14_method_72_code 89 = .ok (.iadd, 1) := by decide +kernel
theorem d_M_number_566_90 : decode prog_14_method_72_code 90 = .ok (.putfield 400, 3) := by decide +kernel
theorem d_M_number_566_93 : decode prog_14_method_72_code 93 = .ok (.return_, 1) := by decide +kernel
theorem d_M_number_566_44 : decode prog_14_method_72_code 44 = .ok (.aload_n 0, 1) := by decide +kernel
theorem d_M_number_566_45 : decode prog_14_method_72_code 45 = .ok (.getfield 107, 3) := by decide +kernel
theorem d_M_number_566_48 : decode prog_14_method_72_code 48 = .ok (.aload_n 0, 1) := by decide +kernel
theorem d_M_number_566_49 : decode prog_14_method_72_code 49 = .ok (.getfield 400, 3) := by decide +kernel
theorem d_M_number_566_52 : decode prog_14_method_72_code 52 = .ok (.iconst 0, 1) := by decide +kernel
theorem d_M_number_566_53 : decode prog_14_method_72_code 53 = .ok (.iload_n 1, 1) := by decide +kernel
theorem d_M_number_566_54 : decode prog_14_method_72_code 54 = .ok (.invokestatic 397, 3) := by decide +kernel
theorem d_M_number_566_57 : decode prog_14_method_72_code 57 = .ok (.iconst 1, 1) := by decide +kernel
theorem d_M_number_566_58 : decode prog_14_method_72_code 58 = .ok (.bastore, 1) := by decide +kernel
theorem d_M_number_566_59 : decode prog_14_method_72_code 59 = .ok (.aload_n 0, 1) := by decide +kernel
theorem d_M_number_566_60 : decode prog_14_method_72_code 60 = .ok (.getfield 104, 3) := by decide +kernel
theorem d_M_number_566_63 : decode prog_14_method_72_code 63 = .ok (.aload_n 0, 1) := by decide +kernel
theorem d_M_number_566_64 : decode prog_14_method_72_code 64 = .ok (.getfield 400, 3) := by decide +kernel
theorem d_M_number_566_67 : decode prog_14_method_72_code 67 = .ok (.iconst 0, 1) := by decide +kernel
theorem d_M_number_566_68 : decode prog_14_method_72_code 68 = .ok (.iload_n 1, 1) := by decide +kernel
theorem d_M_number_566_69 : decode prog_14_method_72_code 69 = .ok (.invokestatic 397, 3) := by decide +kernel
theorem d_M_number_566_72 : decode prog_14_method_72_code 72 = .ok (.aload_n 0, 1) := by decide +kernel
theorem d_M_number_566_73 : decode prog_14_method_72_code 73 = .ok (.getfield 366, 3) := by decide +kernel
theorem d_M_number_566_76 : decode prog_14_method_72_code 76 = .ok (.lastore, 1) := by decide +kernel
theorem d_M_number_566_77 : decode prog_14_method_72_code 77 = .ok (.iinc 1 1, 3) := by decide +kernel
theorem d_M_number_566_80 : decode prog_14_method_72_code 80 = .ok (.goto (-44), 3) := by decide +kernel
theorem w970 : Cond.methodLink "SeriesVaultModel" 397 ⟨"SeriesVaultModel", "cellAt", "(III)I"⟩ ∈ aW := aw_of (tb_11 (List.mem_of_getElem? (i := 1) rfl)) rfl
theorem w971 : Cond.code ⟨"SeriesVaultModel", "cellAt", "(III)I"⟩ prog_14_method_64_code 3 (some FieldType.int) ∈ aW := aw_of (tb_11 (List.mem_of_getElem? (i := 3) rfl)) rfl
theorem w972 : Cond.static ⟨"SeriesVaultModel", "cellAt", "(III)I"⟩ ∈ aW := aw_of (tb_11 (List.mem_of_getElem? (i := 2) rfl)) rfl
set_option maxHeartbeats 4000000 in
set_option maxRecDepth 100000 in
theorem k_number_v (l : Launch) (D : va_G) (dA : Nat → ClassId) (sz : Nat) (h : Nat) (ad : Nat → Nat) (x : MS) (h1 : x.pile < 20) (h2 : x.windows ≤ 64) : Met l ⟨"SeriesVaultModel", "number", "()V"⟩ [Cond.code ⟨"SeriesVaultModel", "number", "()V"⟩ prog_14_method_72_code 2 none] { frames := 2, cells := 0, slots := 0, locals := 22 } (pC D dA [.ref h] (MW dA h ad x) sz) (va_Qv (fun (u9 : Unit) => True) (fun (u9 : Unit) t9 => bW D (va_A (MW dA h ad x) sz) (MW dA h ad (MS.s_pile (MS.s_isCell (MS.s_cells (MS.s_rowSeries (MS.s_tableRows (MS.s_tableNames x (va_up x.tableNames x.pile 0)) (va_up x.tableRows x.pile 1)) (va_up x.rowSeries (256 * x.pile) 0)) (filG x.cells (cA x.pile 0) x.amount x.windows)) (filG x.isCell (cA x.pile 0) true x.windows)) (x.pile + 1))) t9) (va_A (MW dA h ad x) sz)) 0 0 (va_A (MW dA h ad x) sz) := by
  refine mkC (y := ⟨"SeriesVaultModel", "number", "()V"⟩) (cc := prog_14_method_72_code) (maxL := 2) (av := [.ref h]) (ws := MW dA h ad x) (sz := sz) (Qc := fun A => va_Qv (fun (u9 : Unit) => True) (fun (u9 : Unit) t9 => bW D A (MW dA h ad (MS.s_pile (MS.s_isCell (MS.s_cells (MS.s_rowSeries (MS.s_tableRows (MS.s_tableNames x (va_up x.tableNames x.pile 0)) (va_up x.tableRows x.pile 1)) (va_up x.rowSeries (256 * x.pile) 0)) (filG x.cells (cA x.pile 0) x.amount x.windows)) (filG x.isCell (cA x.pile 0) true x.windows)) (x.pile + 1))) t9) A) (by decide) (Nat.le_of_ble_eq_true rfl) ?_
  intro A p e s m below meth c ls hsz hB
  obtain ⟨hx, hb, hr, hml, hown, hin, hlk, hE, hK, hP, hD, hS, hA, hN, hl⟩ := hB
  have hown : s.vm.findClass "SeriesVaultModel" = some m.cls := hown
  have hl : lv_has ls 2 [(0, .ref h)] := hl
  obtain ⟨H, hH⟩ : ∃ z, z = s.heap := ⟨_, rfl⟩
  have hP : va_P D vwCl (MW dA h ad x) H := by rw [hH]; exact hP
  have hS : va_S A s.heap H [] := by rw [hH]; exact hS
  rw [← hH]
  refine lv_aload_n hx hb d_M_number_566_0 rfl (lv_at hl 0 rfl) ?_
  refine gF (v := .ref (ad 48)) hx hb hown hE hK hP 0 rfl rfl layM 48 (by decide) w518 rfl d_M_number_566_1 ?_
  refine lv_aload_n hx hb d_M_number_566_4 rfl (lv_at hl 0 rfl) ?_
  refine gF (v := .int (nI x.pile)) hx hb hown hE hK hP 0 rfl rfl layM 55 (by decide) w476 rfl d_M_number_566_5 ?_
  refine lv_iconst (v := 0) hx hb d_M_number_566_8 (by decide) ?_
  refine nistN (v := 0) hx hb hK hP hD hS 21 1 rfl rfl (x.pile) (by omega) (by decide) d_M_number_566_9 (fun H locs hP hD hS => ?_)
  have hP : va_P D vwCl (MW dA h ad (MS.s_tableNames x (va_up x.tableNames x.pile 0))) H := hP
  have hD : va_D A (MW dA h ad (MS.s_tableNames x (va_up x.tableNames x.pile 0))) := hD
  refine lv_aload_n hx hb d_M_number_566_10 rfl (lv_at hl 0 rfl) ?_
  refine gF (v := .ref (ad 51)) hx hb hown hE hK hP 0 rfl rfl layM 51 (by decide) w521 rfl d_M_number_566_11 ?_
  refine lv_aload_n hx hb d_M_number_566_14 rfl (lv_at hl 0 rfl) ?_
  refine gF (v := .int (nI x.pile)) hx hb hown hE hK hP 0 rfl rfl layM 55 (by decide) w476 rfl d_M_number_566_15 ?_
  refine lv_iconst (v := 1) hx hb d_M_number_566_18 (by decide) ?_
  refine nistN (v := 1) hx hb hK hP hD hS 24 1 rfl rfl (x.pile) (by omega) (by decide) d_M_number_566_19 (fun H locs hP hD hS => ?_)
  have hP : va_P D vwCl (MW dA h ad (MS.s_tableRows (MS.s_tableNames x (va_up x.tableNames x.pile 0)) (va_up x.tableRows x.pile 1))) H := hP
  have hD : va_D A (MW dA h ad (MS.s_tableRows (MS.s_tableNames x (va_up x.tableNames x.pile 0)) (va_up x.tableRows x.pile 1))) := hD
  refine lv_aload_n hx hb d_M_number_566_20 rfl (lv_at hl 0 rfl) ?_
  refine gF (v := .ref (ad 52)) hx hb hown hE hK hP 0 rfl rfl layM 52 (by decide) w522 rfl d_M_number_566_21 ?_
  refine lv_sipush (v := 256) hx hb d_M_number_566_24 (by decide) ?_
  refine lv_aload_n hx hb d_M_number_566_27 rfl (lv_at hl 0 rfl) ?_
  refine gF (v := .int (nI x.pile)) hx hb hown hE hK hP 0 rfl rfl layM 55 (by decide) w476 rfl d_M_number_566_28 ?_
  refine lv_imul hx hb d_M_number_566_31 (tpi (y := nI (256 * x.pile)) (pk_mul (256) (x.pile)) ?_)
  refine lv_iconst (v := 0) hx hb d_M_number_566_32 (by decide) ?_
  refine nistN (v := 0) hx hb hK hP hD hS 25 1 rfl rfl (256 * x.pile) (by omega) (by decide) d_M_number_566_33 (fun H locs hP hD hS => ?_)
  have hP : va_P D vwCl (MW dA h ad (MS.s_rowSeries (MS.s_tableRows (MS.s_tableNames x (va_up x.tableNames x.pile 0)) (va_up x.tableRows x.pile 1)) (va_up x.rowSeries (256 * x.pile) 0))) H := hP
  have hD : va_D A (MW dA h ad (MS.s_rowSeries (MS.s_tableRows (MS.s_tableNames x (va_up x.tableNames x.pile 0)) (va_up x.tableRows x.pile 1)) (va_up x.rowSeries (256 * x.pile) 0))) := hD
  refine lv_iconst (v := 0) hx hb d_M_number_566_34 (by decide) ?_
  refine lv_istore_n hx hb d_M_number_566_35 rfl hl (by decide) rfl (fun ls hl => ?_)
  have hl : lv_has ls 2 [(1, .int 0), (0, .ref h)] := hl
  have L36 : ∀ (k9 : Nat) (k : Nat) (i1 : k ≤ x.windows) (hk9 : x.windows - k = k9), ∀ (H : Heap) (locs : List Loc) (ls : Array Slot) (hP : va_P D vwCl (MW dA h ad (MS.s_isCell (MS.s_cells (MS.s_rowSeries (MS.s_tableRows (MS.s_tableNames x (va_up x.tableNames x.pile 0)) (va_up x.tableRows x.pile 1)) (va_up x.rowSeries (256 * x.pile) 0)) (filG x.cells (cA x.pile 0) x.amount k)) (filG x.isCell (cA x.pile 0) true k))) H) (hD : va_D A (MW dA h ad (MS.s_isCell (MS.s_cells (MS.s_rowSeries (MS.s_tableRows (MS.s_tableNames x (va_up x.tableNames x.pile 0)) (va_up x.tableRows x.pile 1)) (va_up x.rowSeries (256 * x.pile) 0)) (filG x.cells (cA x.pile 0) x.amount k)) (filG x.isCell (cA x.pile 0) true k)))) (hS : va_S A s.heap H locs) (hl : lv_has ls 2 [(1, .int (nI k)), (0, .ref h)]), W p l e ({ frames := 2, cells := 0, slots := 0, locals := 22 } : Room) s m ([.ref h] : List Value).toArray below meth c H locs 0 0 (MQ below (va_Qv (fun (u9 : Unit) => True) (fun (u9 : Unit) t9 => bW D A (MW dA h ad (MS.s_pile (MS.s_isCell (MS.s_cells (MS.s_rowSeries (MS.s_tableRows (MS.s_tableNames x (va_up x.tableNames x.pile 0)) (va_up x.tableRows x.pile 1)) (va_up x.rowSeries (256 * x.pile) 0)) (filG x.cells (cA x.pile 0) x.amount x.windows)) (filG x.isCell (cA x.pile 0) true x.windows)) (x.pile + 1))) t9) A) ([.ref h] : List Value).toArray s 0 0 A) (F0 m 36 ls []) := by
    intro k9
    induction k9 using Nat.strongRecOn with
    | ind k9 ih36 =>
      intro k i1 hk9 H locs ls hP hD hS hl
      refine lv_iload_n hx hb d_M_number_566_36 rfl (lv_at hl 0 rfl) ?_
      refine lv_aload_n hx hb d_M_number_566_37 rfl (lv_at hl 1 rfl) ?_
      refine gF (v := .int (nI x.windows)) hx hb hown hE hK hP 0 rfl rfl layM 59 (by decide) w489 rfl d_M_number_566_38 ?_
      refine lv_icmp_ge hx hb d_M_number_566_41 (tgt := 83) rfl (fun g1 => ?_) (fun g1 => ?_)
      · have g1 := (nI_leI (a := x.windows) (b := k) (by omega) (by omega)).mp g1
        refine lv_aload_n hx hb d_M_number_566_83 rfl (lv_at hl 1 rfl) ?_
        refine lv_dup hx hb d_M_number_566_84 rfl ?_
        refine gF (v := .int (nI x.pile)) hx hb hown hE hK hP 0 rfl rfl layM 55 (by decide) w476 rfl d_M_number_566_85 ?_
        refine lv_iconst (v := 1) hx hb d_M_number_566_88 (by decide) ?_
        refine lv_iadd hx hb d_M_number_566_89 (tpi (y := nI (x.pile + 1)) (nI_add (x.pile) (1)) ?_)
        refine pF (v := .int (nI (x.pile + 1))) hx hb hown hE hK hP hD hS 0 rfl rfl layM tyM tokM nmM 55 (by decide) w476 rfl rfl rfl (Nat.le_of_ble_eq_true rfl) d_M_number_566_90 (fun H locs hP hD hS => ?_)
        have hP : va_P D vwCl (MW dA h ad (MS.s_pile (MS.s_isCell (MS.s_cells (MS.s_rowSeries (MS.s_tableRows (MS.s_tableNames x (va_up x.tableNames x.pile 0)) (va_up x.tableRows x.pile 1)) (va_up x.rowSeries (256 * x.pile) 0)) (filG x.cells (cA x.pile 0) x.amount k)) (filG x.isCell (cA x.pile 0) true k)) (x.pile + 1))) H := hP
        have hD : va_D A (MW dA h ad (MS.s_pile (MS.s_isCell (MS.s_cells (MS.s_rowSeries (MS.s_tableRows (MS.s_tableNames x (va_up x.tableNames x.pile 0)) (va_up x.tableRows x.pile 1)) (va_up x.rowSeries (256 * x.pile) 0)) (filG x.cells (cA x.pile 0) x.amount k)) (filG x.isCell (cA x.pile 0) true k)) (x.pile + 1))) := hD
        have e9 : (MS.s_pile (MS.s_isCell (MS.s_cells (MS.s_rowSeries (MS.s_tableRows (MS.s_tableNames x (va_up x.tableNames x.pile 0)) (va_up x.tableRows x.pile 1)) (va_up x.rowSeries (256 * x.pile) 0)) (filG x.cells (cA x.pile 0) x.amount k)) (filG x.isCell (cA x.pile 0) true k)) (x.pile + 1) : MS) = MS.s_pile (MS.s_isCell (MS.s_cells (MS.s_rowSeries (MS.s_tableRows (MS.s_tableNames x (va_up x.tableNames x.pile 0)) (va_up x.tableRows x.pile 1)) (va_up x.rowSeries (256 * x.pile) 0)) (filG x.cells (cA x.pile 0) x.amount x.windows)) (filG x.isCell (cA x.pile 0) true x.windows)) (x.pile + 1) := by rw [show (filG x.cells (cA x.pile 0) x.amount x.windows) = (filG x.cells (cA x.pile 0) x.amount k) from by (rw [show k = x.windows by omega]), show (filG x.isCell (cA x.pile 0) true x.windows) = (filG x.isCell (cA x.pile 0) true k) from by (rw [show k = x.windows by omega])] <;> rfl
        exact rfV hx hb hr hlk hS () trivial (cvP e9 hP) (cvD e9 hD) (Nat.le_of_ble_eq_true rfl) (Nat.le_of_ble_eq_true rfl) d_M_number_566_93
      · have g1 := mt (nI_leI (a := x.windows) (b := k) (by omega) (by omega)).mpr g1
        refine lv_aload_n hx hb d_M_number_566_44 rfl (lv_at hl 1 rfl) ?_
        refine gF (v := .ref (ad 54)) hx hb hown hE hK hP 0 rfl rfl layM 54 (by decide) w526 rfl d_M_number_566_45 ?_
        refine lv_aload_n hx hb d_M_number_566_48 rfl (lv_at hl 1 rfl) ?_
        refine gF (v := .int (nI x.pile)) hx hb hown hE hK hP 0 rfl rfl layM 55 (by decide) w476 rfl d_M_number_566_49 ?_
        refine lv_iconst (v := 0) hx hb d_M_number_566_52 (by decide) ?_
        refine lv_iload_n hx hb d_M_number_566_53 rfl (lv_at hl 0 rfl) ?_
        have hPc := hP.sub (ws' := []) [] rfl
        have hDc := hD.sub (ws' := []) [] (by decide) rfl
        refine jnI (rnS (As := [.int (nI x.pile), .int 0, .int (nI k)]) (rest := [.ref (ad 54)]) hx hb hml hown hE hK (hN _ _ hS) hPc hDc (k_cellAt l D dA H.size x.pile 0 k) w971 w970 w972 w328 rfl rfl ⟨⟨by decide, by decide⟩, rfl⟩ ⟨(Nat.le_of_ble_eq_true rfl), (Nat.le_of_ble_eq_true rfl)⟩ rfl hl.1 rfl (Nat.le_of_ble_eq_true rfl) d_M_number_566_54 ⟨(Nat.le_of_ble_eq_true rfl), (Nat.le_of_ble_eq_true rfl)⟩) hP hD hS hA [] [0, 1, 2, 3, 4, 5, 6, 7, 8, 9, 10, 11, 12, 13, 14, 15, 16, 17, 18, 19, 20, 21, 22, 23, 24, 25, 26, 27, 28, 29, 30, 31, 32, 33, 34, 35, 36, 37, 38] (wr := MW dA h ad (MS.s_isCell (MS.s_cells (MS.s_rowSeries (MS.s_tableRows (MS.s_tableNames x (va_up x.tableNames x.pile 0)) (va_up x.tableRows x.pile 1)) (va_up x.rowSeries (256 * x.pile) 0)) (filG x.cells (cA x.pile 0) x.amount k)) (filG x.isCell (cA x.pile 0) true k))) rfl rfl (by decide) (by decide) (fun r2 u9 H locs hp9 hP hD hS => ?_)
        have hP : va_P D vwCl (MW dA h ad (MS.s_isCell (MS.s_cells (MS.s_rowSeries (MS.s_tableRows (MS.s_tableNames x (va_up x.tableNames x.pile 0)) (va_up x.tableRows x.pile 1)) (va_up x.rowSeries (256 * x.pile) 0)) (filG x.cells (cA x.pile 0) x.amount k)) (filG x.isCell (cA x.pile 0) true k))) H := hP
        have hD : va_D A (MW dA h ad (MS.s_isCell (MS.s_cells (MS.s_rowSeries (MS.s_tableRows (MS.s_tableNames x (va_up x.tableNames x.pile 0)) (va_up x.tableRows x.pile 1)) (va_up x.rowSeries (256 * x.pile) 0)) (filG x.cells (cA x.pile 0) x.amount k)) (filG x.isCell (cA x.pile 0) true k))) := hD
        replace hp9 : nI ((x.pile * 256 + 0) * 64 + k) = r2 := Eq.symm hp9
        subst hp9
        refine lv_iconst (v := 1) hx hb d_M_number_566_57 (by decide) ?_
        refine nzstB (v := true) hx hb hK hP hD hS 27 3 rfl rfl ((x.pile * 256 + 0) * 64 + k) (by omega) (by decide) d_M_number_566_58 (fun H locs hP hD hS => ?_)
        have hP : va_P D vwCl (MW dA h ad (MS.s_isCell (MS.s_cells (MS.s_rowSeries (MS.s_tableRows (MS.s_tableNames x (va_up x.tableNames x.pile 0)) (va_up x.tableRows x.pile 1)) (va_up x.rowSeries (256 * x.pile) 0)) (filG x.cells (cA x.pile 0) x.amount k)) (va_up (filG x.isCell (cA x.pile 0) true k) ((x.pile * 256 + 0) * 64 + k) true))) H := hP
        have hD : va_D A (MW dA h ad (MS.s_isCell (MS.s_cells (MS.s_rowSeries (MS.s_tableRows (MS.s_tableNames x (va_up x.tableNames x.pile 0)) (va_up x.tableRows x.pile 1)) (va_up x.rowSeries (256 * x.pile) 0)) (filG x.cells (cA x.pile 0) x.amount k)) (va_up (filG x.isCell (cA x.pile 0) true k) ((x.pile * 256 + 0) * 64 + k) true))) := hD
        refine lv_aload_n hx hb d_M_number_566_59 rfl (lv_at hl 1 rfl) ?_
        refine gF (v := .ref (ad 53)) hx hb hown hE hK hP 0 rfl rfl layM 53 (by decide) w524 rfl d_M_number_566_60 ?_
        refine lv_aload_n hx hb d_M_number_566_63 rfl (lv_at hl 1 rfl) ?_
        refine gF (v := .int (nI x.pile)) hx hb hown hE hK hP 0 rfl rfl layM 55 (by decide) w476 rfl d_M_number_566_64 ?_
        refine lv_iconst (v := 0) hx hb d_M_number_566_67 (by decide) ?_
        refine lv_iload_n hx hb d_M_number_566_68 rfl (lv_at hl 0 rfl) ?_
        have hPc := hP.sub (ws' := []) [] rfl
        have hDc := hD.sub (ws' := []) [] (by decide) rfl
        refine jnI (rnS (As := [.int (nI x.pile), .int 0, .int (nI k)]) (rest := [.ref (ad 53)]) hx hb hml hown hE hK (hN _ _ hS) hPc hDc (k_cellAt l D dA H.size x.pile 0 k) w971 w970 w972 w328 rfl rfl ⟨⟨by decide, by decide⟩, rfl⟩ ⟨(Nat.le_of_ble_eq_true rfl), (Nat.le_of_ble_eq_true rfl)⟩ rfl hl.1 rfl (Nat.le_of_ble_eq_true rfl) d_M_number_566_69 ⟨(Nat.le_of_ble_eq_true rfl), (Nat.le_of_ble_eq_true rfl)⟩) hP hD hS hA [] [0, 1, 2, 3, 4, 5, 6, 7, 8, 9, 10, 11, 12, 13, 14, 15, 16, 17, 18, 19, 20, 21, 22, 23, 24, 25, 26, 27, 28, 29, 30, 31, 32, 33, 34, 35, 36, 37, 38] (wr := MW dA h ad (MS.s_isCell (MS.s_cells (MS.s_rowSeries (MS.s_tableRows (MS.s_tableNames x (va_up x.tableNames x.pile 0)) (va_up x.tableRows x.pile 1)) (va_up x.rowSeries (256 * x.pile) 0)) (filG x.cells (cA x.pile 0) x.amount k)) (va_up (filG x.isCell (cA x.pile 0) true k) ((x.pile * 256 + 0) * 64 + k) true))) rfl rfl (by decide) (by decide) (fun r4 u9 H locs hp9 hP hD hS => ?_)
        have hP : va_P D vwCl (MW dA h ad (MS.s_isCell (MS.s_cells (MS.s_rowSeries (MS.s_tableRows (MS.s_tableNames x (va_up x.tableNames x.pile 0)) (va_up x.tableRows x.pile 1)) (va_up x.rowSeries (256 * x.pile) 0)) (filG x.cells (cA x.pile 0) x.amount k)) (va_up (filG x.isCell (cA x.pile 0) true k) ((x.pile * 256 + 0) * 64 + k) true))) H := hP
        have hD : va_D A (MW dA h ad (MS.s_isCell (MS.s_cells (MS.s_rowSeries (MS.s_tableRows (MS.s_tableNames x (va_up x.tableNames x.pile 0)) (va_up x.tableRows x.pile 1)) (va_up x.rowSeries (256 * x.pile) 0)) (filG x.cells (cA x.pile 0) x.amount k)) (va_up (filG x.isCell (cA x.pile 0) true k) ((x.pile * 256 + 0) * 64 + k) true))) := hD
        replace hp9 : nI ((x.pile * 256 + 0) * 64 + k) = r4 := Eq.symm hp9
        subst hp9
        refine lv_aload_n hx hb d_M_number_566_72 rfl (lv_at hl 1 rfl) ?_
        refine gF (v := .long x.amount) hx hb hown hE hK hP 0 rfl rfl layM 47 (by decide) w953 rfl d_M_number_566_73 ?_
        refine nlst hx hb hK hP hD hS 26 2 rfl rfl ((x.pile * 256 + 0) * 64 + k) (by omega) (by decide) d_M_number_566_76 (fun H locs hP hD hS => ?_)
        have hP : va_P D vwCl (MW dA h ad (MS.s_isCell (MS.s_cells (MS.s_rowSeries (MS.s_tableRows (MS.s_tableNames x (va_up x.tableNames x.pile 0)) (va_up x.tableRows x.pile 1)) (va_up x.rowSeries (256 * x.pile) 0)) (va_up (filG x.cells (cA x.pile 0) x.amount k) ((x.pile * 256 + 0) * 64 + k) x.amount)) (va_up (filG x.isCell (cA x.pile 0) true k) ((x.pile * 256 + 0) * 64 + k) true))) H := hP
        have hD : va_D A (MW dA h ad (MS.s_isCell (MS.s_cells (MS.s_rowSeries (MS.s_tableRows (MS.s_tableNames x (va_up x.tableNames x.pile 0)) (va_up x.tableRows x.pile 1)) (va_up x.rowSeries (256 * x.pile) 0)) (va_up (filG x.cells (cA x.pile 0) x.amount k) ((x.pile * 256 + 0) * 64 + k) x.amount)) (va_up (filG x.isCell (cA x.pile 0) true k) ((x.pile * 256 + 0) * 64 + k) true))) := hD
        refine lv_iinc (k := 0) (v := nI (k + 1)) hx hb d_M_number_566_77 hl rfl (iincN (k) 1 1 (by decide)) (by decide) rfl (fun ls hl => ?_)
        have hl : lv_has ls 2 [(1, .int (nI (k + 1))), (0, .ref h)] := hl
        refine lv_goto hx hb d_M_number_566_80 (tgt := 36) rfl ?_
        exact ih36 _ (by omega) (k + 1) (by omega) rfl H _ ls hP hD hS (lv_sub hl [0, 1] rfl)
  exact L36 _ 0 (Nat.zero_le _) rfl H _ ls hP hD hS (lv_sub hl [0, 1] rfl)
theorem d_M_negate_0 : decode prog_14_method_78_code 0 = .ok (.aload_n 0, 1) := by decide +kernel
theorem d_M_negate_1 : decode prog_14_method_78_code 1 = .ok (.getfield 400, 3) := by decide +kernel
theorem d_M_negate_4 : decode prog_14_method_78_code 4 = .ok (.iconst 1, 1) := by decide +kernel
theorem d_M_negate_5 : decode prog_14_method_78_code 5 = .ok (.isub, 1) := by decide +kernel
theorem d_M_negate_6 : decode prog_14_method_78_code 6 = .ok (.istore_n 1, 1) := by decide +kernel
theorem d_M_negate_7 : decode prog_14_method_78_code 7 = .ok (.iconst 0, 1) := by decide +kernel
theorem d_M_negate_8 : decode prog_14_method_78_code 8 = .ok (.istore_n 2, 1) := by decide +kernel
theorem d_M_negate_9 : decode prog_14_method_78_code 9 = .ok (.iload_n 2, 1) := by decide +kernel
theorem d_M_negate_10 : decode prog_14_method_78_code 10 = .ok (.aload_n 0, 1) := by decide +kernel
theorem d_M_negate_11 : decode prog_14_method_78_code 11 = .ok (.getfield 97, 3) := by decide +kernel
theorem d_M_negate_14 : decode prog_14_method_78_code 14 = .ok (.iload_n 1, 1) := by decide +kernel
theorem d_M_negate_15 : decode prog_14_method_78_code 15 = .ok (.iaload, 1) := by decide +kernel
theorem d_M_negate_16 : decode prog_14_method_78_code 16 = .ok (.if_icmp .ge 48, 3) := by decide +kernel
theorem d_M_negate_64 : decode prog_14_method_78_code 64 = .ok (.return_, 1) := by decide +kernel
theorem d_M_negate_19 : decode prog_14_method_78_code 19 = .ok (.iconst 0, 1) := by decide +kernel
theorem d_M_negate_20 : decode prog_14_method_78_code 20 = .ok (.istore_n 3, 1) := by decide +kernel
theorem d_M_negate_21 : decode prog_14_method_78_code 21 = .ok (.iload_n 3, 1) := by decide +kernel
theorem d_M_negate_22 : decode prog_14_method_78_code 22 = .ok (.aload_n 0, 1) := by decide +kernel
theorem d_M_negate_23 : decode prog_14_method_78_code 23 = .ok (.getfield 412, 3) := by decide +kernel
theorem d_M_negate_26 : decode prog_14_method_78_code 26 = .ok (.if_icmp .ge 32, 3) := by decide +kernel
theorem d_M_negate_58 : decode prog_14_method_78_code 58 = .ok (.iinc 2 1, 3) := by decide +kernel
theorem d_M_negate_61 : decode prog_14_method_78_code 61 = .ok (.goto (-52), 3) := by decide +kernel
theorem d_M_negate_29 : decode prog_14_method_78_code 29 = .ok (.aload_n 0, 1) := by decide +kernel
theorem d_M_negate_30 : decode prog_14_method_78_code 30 = .ok (.getfield 104, 3) := by decide +kernel
theorem d_M_negate_33 : decode prog_14_method_78_code 33 = .ok (.iload_n 1, 1) := by decide +kernel
theorem d_M_negate_34 : decode prog_14_method_78_code 34 = .ok (.iload_n 2, 1) := by decide +kernel
theorem d_M_negate_35 : decode prog_14_method_78_code 35 = .ok (.iload_n 3, 1) := by decide +kernel
theorem d_M_negate_36 : decode prog_14_method_78_code 36 = .ok (.invokestatic 397, 3) := by decide +kernel
theorem d_M_negate_39 : decode prog_14_method_78_code 39 = .ok (.aload_n 0, 1) := by decide +kernel
theorem d_M_negate_40 : decode prog_14_method_78_code 40 = .ok (.getfield 104, 3) := by decide +kernel
theorem d_M_negate_43 : decode prog_14_method_78_code 43 = .ok (.iload_n 1, 1) := by decide +kernel
theorem d_M_negate_44 : decode prog_14_method_78_code 44 = .ok (.iload_n 2, 1) := by decide +kernel
theorem d_M_negate_45 : decode prog_14_method_78_code 45 = .ok (.iload_n 3, 1) := by decide +kernel
theorem d_M_negate_46 : decode prog_14_method_78_code 46 = .ok (.invokestatic 397, 3) := by decide +kernel
theorem d_M_negate_49 : decode prog_14_method_78_code 49 = .ok (.laload, 1) := by decide +kernel
theorem d_M_negate_50 : decode prog_14_method_78_code 50 = .ok (.lneg, 1) := by decide +kernel
theorem d_M_negate_51 : decode prog_14_method_78_code 51 = .ok (.lastore, 1) := by decide +kernel
theorem d_M_negate_52 : decode prog_14_method_78_code 52 = .ok (.iinc 3 1, 3) := by decide +kernel
theorem d_M_negate_55 : decode prog_14_method_78_code 55 = .ok (.goto (-34), 3) := by decide +kernel
set_option maxHeartbeats 4000000 in
set_option maxRecDepth 100000 in
theorem k_negate (l : Launch) (D : va_G) (dA : Nat → ClassId) (sz : Nat) (h : Nat) (ad : Nat → Nat) (x : MS) (h0 : 0 < x.pile) (h1 : x.pile ≤ 20) (h2 : x.windows ≤ 64) (h3 : x.tableRows (x.pile - 1) ≤ 256) : Met l ⟨"SeriesVaultModel", "negate", "()V"⟩ [Cond.code ⟨"SeriesVaultModel", "negate", "()V"⟩ prog_14_method_78_code 4 none] { frames := 2, cells := 0, slots := 0, locals := 22 } (pC D dA [.ref h] (MW dA h ad x) sz) (va_Qv (fun (u9 : Unit) => True) (fun (u9 : Unit) t9 => bW D (va_A (MW dA h ad x) sz) (MW dA h ad (MS.s_cells x (ngR x.cells (x.pile - 1) x.windows (x.tableRows (x.pile - 1))))) t9) (va_A (MW dA h ad x) sz)) 0 0 (va_A (MW dA h ad x) sz) := by
  refine mkC (y := ⟨"SeriesVaultModel", "negate", "()V"⟩) (cc := prog_14_method_78_code) (maxL := 4) (av := [.ref h]) (ws := MW dA h ad x) (sz := sz) (Qc := fun A => va_Qv (fun (u9 : Unit) => True) (fun (u9 : Unit) t9 => bW D A (MW dA h ad (MS.s_cells x (ngR x.cells (x.pile - 1) x.windows (x.tableRows (x.pile - 1))))) t9) A) (by decide) (Nat.le_of_ble_eq_true rfl) ?_
  intro A p e s m below meth c ls hsz hB
  obtain ⟨hx, hb, hr, hml, hown, hin, hlk, hE, hK, hP, hD, hS, hA, hN, hl⟩ := hB
  have hown : s.vm.findClass "SeriesVaultModel" = some m.cls := hown
  have hl : lv_has ls 4 [(0, .ref h)] := hl
  obtain ⟨H, hH⟩ : ∃ z, z = s.heap := ⟨_, rfl⟩
  have hP : va_P D vwCl (MW dA h ad x) H := by rw [hH]; exact hP
  have hS : va_S A s.heap H [] := by rw [hH]; exact hS
  rw [← hH]
  refine lv_aload_n hx hb d_M_negate_0 rfl (lv_at hl 0 rfl) ?_
  refine gF (v := .int (nI x.pile)) hx hb hown hE hK hP 0 rfl rfl layM 55 (by decide) w476 rfl d_M_negate_1 ?_
  refine lv_iconst (v := 1) hx hb d_M_negate_4 (by decide) ?_
  refine lv_isub hx hb d_M_negate_5 (tpi (y := nI (x.pile - 1)) (pk_sub (a := x.pile) (b := 1) (by omega)) ?_)
  refine lv_istore_n hx hb d_M_negate_6 rfl hl (by decide) rfl (fun ls hl => ?_)
  have hl : lv_has ls 4 [(1, .int (nI (x.pile - 1))), (0, .ref h)] := hl
  refine lv_iconst (v := 0) hx hb d_M_negate_7 (by decide) ?_
  refine lv_istore_n hx hb d_M_negate_8 rfl hl (by decide) rfl (fun ls hl => ?_)
  have hl : lv_has ls 4 [(2, .int 0), (1, .int (nI (x.pile - 1))), (0, .ref h)] := hl
  have L9 : ∀ (k9 : Nat) (r : Nat) (i1 : r ≤ x.tableRows (x.pile - 1)) (hk9 : x.tableRows (x.pile - 1) - r = k9), ∀ (H : Heap) (locs : List Loc) (ls : Array Slot) (hP : va_P D vwCl (MW dA h ad (MS.s_cells x (ngR x.cells (x.pile - 1) x.windows r))) H) (hD : va_D A (MW dA h ad (MS.s_cells x (ngR x.cells (x.pile - 1) x.windows r)))) (hS : va_S A s.heap H locs) (hl : lv_has ls 4 [(2, .int (nI r)), (1, .int (nI (x.pile - 1))), (0, .ref h)]), W p l e ({ frames := 2, cells := 0, slots := 0, locals := 22 } : Room) s m ([.ref h] : List Value).toArray below meth c H locs 0 0 (MQ below (va_Qv (fun (u9 : Unit) => True) (fun (u9 : Unit) t9 => bW D A (MW dA h ad (MS.s_cells x (ngR x.cells (x.pile - 1) x.windows (x.tableRows (x.pile - 1))))) t9) A) ([.ref h] : List Value).toArray s 0 0 A) (F0 m 9 ls []) := by
    intro k9
    induction k9 using Nat.strongRecOn with
    | ind k9 ih9 =>
      intro r i1 hk9 H locs ls hP hD hS hl
      refine lv_iload_n hx hb d_M_negate_9 rfl (lv_at hl 0 rfl) ?_
      refine lv_aload_n hx hb d_M_negate_10 rfl (lv_at hl 2 rfl) ?_
      refine gF (v := .ref (ad 51)) hx hb hown hE hK hP 0 rfl rfl layM 51 (by decide) w521 rfl d_M_negate_11 ?_
      refine lv_iload_n hx hb d_M_negate_14 rfl (lv_at hl 1 rfl) ?_
      refine nild (f := (fun z9 => nI (x.tableRows z9))) hx hb hK hP 24 1 rfl rfl (x.pile - 1) (by omega) (by decide) d_M_negate_15 ?_
      refine lv_icmp_ge hx hb d_M_negate_16 (tgt := 64) rfl (fun g1 => ?_) (fun g1 => ?_)
      · have g1 := (nI_leI (a := x.tableRows (x.pile - 1)) (b := r) (by omega) (by omega)).mp g1
        have e9 : (MS.s_cells x (ngR x.cells (x.pile - 1) x.windows r) : MS) = MS.s_cells x (ngR x.cells (x.pile - 1) x.windows (x.tableRows (x.pile - 1))) := by rw [show (ngR x.cells (x.pile - 1) x.windows (x.tableRows (x.pile - 1))) = (ngR x.cells (x.pile - 1) x.windows r) from by (rw [show r = x.tableRows (x.pile - 1) by omega])] <;> rfl
        exact rfV hx hb hr hlk hS () trivial (cvP e9 hP) (cvD e9 hD) (Nat.le_of_ble_eq_true rfl) (Nat.le_of_ble_eq_true rfl) d_M_negate_64
      · have g1 := mt (nI_leI (a := x.tableRows (x.pile - 1)) (b := r) (by omega) (by omega)).mpr g1
        refine lv_iconst (v := 0) hx hb d_M_negate_19 (by decide) ?_
        refine lv_istore_n hx hb d_M_negate_20 rfl hl (by decide) rfl (fun ls hl => ?_)
        have hl : lv_has ls 4 [(3, .int 0), (2, .int (nI r)), (1, .int (nI (x.pile - 1))), (0, .ref h)] := hl
        have L21 : ∀ (k9 : Nat) (k : Nat) (i2 : k ≤ x.windows) (hk9 : x.windows - k = k9), ∀ (H : Heap) (locs : List Loc) (ls : Array Slot) (hP : va_P D vwCl (MW dA h ad (MS.s_cells x (ngW (ngR x.cells (x.pile - 1) x.windows r) (cA (x.pile - 1) r) k))) H) (hD : va_D A (MW dA h ad (MS.s_cells x (ngW (ngR x.cells (x.pile - 1) x.windows r) (cA (x.pile - 1) r) k)))) (hS : va_S A s.heap H locs) (hl : lv_has ls 4 [(3, .int (nI k)), (2, .int (nI r)), (1, .int (nI (x.pile - 1))), (0, .ref h)]), W p l e ({ frames := 2, cells := 0, slots := 0, locals := 22 } : Room) s m ([.ref h] : List Value).toArray below meth c H locs 0 0 (MQ below (va_Qv (fun (u9 : Unit) => True) (fun (u9 : Unit) t9 => bW D A (MW dA h ad (MS.s_cells x (ngR x.cells (x.pile - 1) x.windows (x.tableRows (x.pile - 1))))) t9) A) ([.ref h] : List Value).toArray s 0 0 A) (F0 m 21 ls []) := by
          intro k9
          induction k9 using Nat.strongRecOn with
          | ind k9 ih21 =>
            intro k i2 hk9 H locs ls hP hD hS hl
            refine lv_iload_n hx hb d_M_negate_21 rfl (lv_at hl 0 rfl) ?_
            refine lv_aload_n hx hb d_M_negate_22 rfl (lv_at hl 3 rfl) ?_
            refine gF (v := .int (nI x.windows)) hx hb hown hE hK hP 0 rfl rfl layM 59 (by decide) w489 rfl d_M_negate_23 ?_
            refine lv_icmp_ge hx hb d_M_negate_26 (tgt := 58) rfl (fun g2 => ?_) (fun g2 => ?_)
            · have g2 := (nI_leI (a := x.windows) (b := k) (by omega) (by omega)).mp g2
              refine lv_iinc (k := 1) (v := nI (r + 1)) hx hb d_M_negate_58 hl rfl (iincN (r) 1 1 (by decide)) (by decide) rfl (fun ls hl => ?_)
              have hl : lv_has ls 4 [(2, .int (nI (r + 1))), (3, .int (nI k)), (1, .int (nI (x.pile - 1))), (0, .ref h)] := hl
              refine lv_goto hx hb d_M_negate_61 (tgt := 9) rfl ?_
              have e9 : (MS.s_cells x (ngW (ngR x.cells (x.pile - 1) x.windows r) (cA (x.pile - 1) r) k) : MS) = MS.s_cells x (ngR x.cells (x.pile - 1) x.windows (r + 1)) := by rw [show (ngR x.cells (x.pile - 1) x.windows (r + 1)) = (ngW (ngR x.cells (x.pile - 1) x.windows r) (cA (x.pile - 1) r) k) from (by rw [show k = x.windows by omega]; rfl)] <;> rfl
              exact ih9 _ (by omega) (r + 1) (by omega) rfl H _ ls (cvP e9 hP) (cvD e9 hD) hS (lv_sub hl [0, 2, 3] rfl)
            · have g2 := mt (nI_leI (a := x.windows) (b := k) (by omega) (by omega)).mpr g2
              refine lv_aload_n hx hb d_M_negate_29 rfl (lv_at hl 3 rfl) ?_
              refine gF (v := .ref (ad 53)) hx hb hown hE hK hP 0 rfl rfl layM 53 (by decide) w524 rfl d_M_negate_30 ?_
              refine lv_iload_n hx hb d_M_negate_33 rfl (lv_at hl 2 rfl) ?_
              refine lv_iload_n hx hb d_M_negate_34 rfl (lv_at hl 1 rfl) ?_
              refine lv_iload_n hx hb d_M_negate_35 rfl (lv_at hl 0 rfl) ?_
              have hPc := hP.sub (ws' := []) [] rfl
              have hDc := hD.sub (ws' := []) [] (by decide) rfl
              refine jnI (rnS (As := [.int (nI (x.pile - 1)), .int (nI r), .int (nI k)]) (rest := [.ref (ad 53)]) hx hb hml hown hE hK (hN _ _ hS) hPc hDc (k_cellAt l D dA H.size (x.pile - 1) r k) w971 w970 w972 w328 rfl rfl ⟨⟨by decide, by decide⟩, rfl⟩ ⟨(Nat.le_of_ble_eq_true rfl), (Nat.le_of_ble_eq_true rfl)⟩ rfl hl.1 rfl (Nat.le_of_ble_eq_true rfl) d_M_negate_36 ⟨(Nat.le_of_ble_eq_true rfl), (Nat.le_of_ble_eq_true rfl)⟩) hP hD hS hA [] [0, 1, 2, 3, 4, 5, 6, 7, 8, 9, 10, 11, 12, 13, 14, 15, 16, 17, 18, 19, 20, 21, 22, 23, 24, 25, 26, 27, 28, 29, 30, 31, 32, 33, 34, 35, 36, 37, 38] (wr := MW dA h ad (MS.s_cells x (ngW (ngR x.cells (x.pile - 1) x.windows r) (cA (x.pile - 1) r) k))) rfl rfl (by decide) (by decide) (fun r3 u9 H locs hp9 hP hD hS => ?_)
              have hP : va_P D vwCl (MW dA h ad (MS.s_cells x (ngW (ngR x.cells (x.pile - 1) x.windows r) (cA (x.pile - 1) r) k))) H := hP
              have hD : va_D A (MW dA h ad (MS.s_cells x (ngW (ngR x.cells (x.pile - 1) x.windows r) (cA (x.pile - 1) r) k))) := hD
              replace hp9 : nI (((x.pile - 1) * 256 + r) * 64 + k) = r3 := Eq.symm hp9
              subst hp9
              refine lv_aload_n hx hb d_M_negate_39 rfl (lv_at hl 3 rfl) ?_
              refine gF (v := .ref (ad 53)) hx hb hown hE hK hP 0 rfl rfl layM 53 (by decide) w524 rfl d_M_negate_40 ?_
              refine lv_iload_n hx hb d_M_negate_43 rfl (lv_at hl 2 rfl) ?_
              refine lv_iload_n hx hb d_M_negate_44 rfl (lv_at hl 1 rfl) ?_
              refine lv_iload_n hx hb d_M_negate_45 rfl (lv_at hl 0 rfl) ?_
              have hPc := hP.sub (ws' := []) [] rfl
              have hDc := hD.sub (ws' := []) [] (by decide) rfl
              refine jnI (rnS (As := [.int (nI (x.pile - 1)), .int (nI r), .int (nI k)]) (rest := [.ref (ad 53), .int (nI (((x.pile - 1) * 256 + r) * 64 + k)), .ref (ad 53)]) hx hb hml hown hE hK (hN _ _ hS) hPc hDc (k_cellAt l D dA H.size (x.pile - 1) r k) w971 w970 w972 w328 rfl rfl ⟨⟨by decide, by decide⟩, rfl⟩ ⟨(Nat.le_of_ble_eq_true rfl), (Nat.le_of_ble_eq_true rfl)⟩ rfl hl.1 rfl (Nat.le_of_ble_eq_true rfl) d_M_negate_46 ⟨(Nat.le_of_ble_eq_true rfl), (Nat.le_of_ble_eq_true rfl)⟩) hP hD hS hA [] [0, 1, 2, 3, 4, 5, 6, 7, 8, 9, 10, 11, 12, 13, 14, 15, 16, 17, 18, 19, 20, 21, 22, 23, 24, 25, 26, 27, 28, 29, 30, 31, 32, 33, 34, 35, 36, 37, 38] (wr := MW dA h ad (MS.s_cells x (ngW (ngR x.cells (x.pile - 1) x.windows r) (cA (x.pile - 1) r) k))) rfl rfl (by decide) (by decide) (fun r5 u9 H locs hp9 hP hD hS => ?_)
              have hP : va_P D vwCl (MW dA h ad (MS.s_cells x (ngW (ngR x.cells (x.pile - 1) x.windows r) (cA (x.pile - 1) r) k))) H := hP
              have hD : va_D A (MW dA h ad (MS.s_cells x (ngW (ngR x.cells (x.pile - 1) x.windows r) (cA (x.pile - 1) r) k))) := hD
              replace hp9 : nI (((x.pile - 1) * 256 + r) * 64 + k) = r5 := Eq.symm hp9
              subst hp9
              refine nlld (f := (ngW (ngR x.cells (x.pile - 1) x.windows r) (cA (x.pile - 1) r) k)) hx hb hK hP 26 2 rfl rfl (((x.pile - 1) * 256 + r) * 64 + k) (by omega) (by decide) d_M_negate_49 ?_
              refine lv_lneg hx hb d_M_negate_50 ?_
              refine nlst hx hb hK hP hD hS 26 2 rfl rfl (((x.pile - 1) * 256 + r) * 64 + k) (by omega) (by decide) d_M_negate_51 (fun H locs hP hD hS => ?_)
              have hP : va_P D vwCl (MW dA h ad (MS.s_cells x (va_up (ngW (ngR x.cells (x.pile - 1) x.windows r) (cA (x.pile - 1) r) k) (((x.pile - 1) * 256 + r) * 64 + k) (-((ngW (ngR x.cells (x.pile - 1) x.windows r) (cA (x.pile - 1) r) k) (((x.pile - 1) * 256 + r) * 64 + k)))))) H := hP
              have hD : va_D A (MW dA h ad (MS.s_cells x (va_up (ngW (ngR x.cells (x.pile - 1) x.windows r) (cA (x.pile - 1) r) k) (((x.pile - 1) * 256 + r) * 64 + k) (-((ngW (ngR x.cells (x.pile - 1) x.windows r) (cA (x.pile - 1) r) k) (((x.pile - 1) * 256 + r) * 64 + k)))))) := hD
              refine lv_iinc (k := 0) (v := nI (k + 1)) hx hb d_M_negate_52 hl rfl (iincN (k) 1 1 (by decide)) (by decide) rfl (fun ls hl => ?_)
              have hl : lv_has ls 4 [(3, .int (nI (k + 1))), (2, .int (nI r)), (1, .int (nI (x.pile - 1))), (0, .ref h)] := hl
              refine lv_goto hx hb d_M_negate_55 (tgt := 21) rfl ?_
              exact ih21 _ (by omega) (k + 1) (by omega) rfl H _ ls hP hD hS (lv_sub hl [0, 1, 2, 3] rfl)
        exact L21 _ 0 (Nat.zero_le _) rfl H _ ls hP hD hS (lv_sub hl [0, 1, 2, 3] rfl)
  have e9 : (x : MS) = MS.s_cells x (ngR x.cells (x.pile - 1) x.windows 0) := by rw [show (ngR x.cells (x.pile - 1) x.windows 0) = x.cells from rfl] <;> rfl
  exact L9 _ 0 (Nat.zero_le _) rfl H _ ls (cvP e9 hP) (cvD e9 hD) hS (lv_sub hl [0, 1, 2] rfl)
end
section
def MS.nmC (x : MS) (a b k j : Nat) : Bool := decide (x.tape (x.nameFroms (6 * a + k) + j) = x.tape (x.nameFroms (6 * b + k) + j))
def MS.nmL (x : MS) (a b k : Nat) : Bool := decide (x.nameLengths (6 * a + k) = x.nameLengths (6 * b + k))
def MS.nmE (x : MS) (a b k : Nat) : Bool := x.nmL a b k && allB (x.nameLengths (6 * a + k)) (x.nmC a b k)
def MS.smN (x : MS) (a b : Nat) : Bool := decide (x.tableNames a = x.tableNames b) && allB (x.tableNames a) (x.nmE a b)
theorem and_end {p : Bool} {f : Nat → Bool} {n r : Nat} {v : Bool} (h1 : r ≤ n) (h2 : (p && allB r f) = v) (h3 : n ≤ r ∨ v = false) : (p && allB n f) = v := by
  rcases h3 with h | h
  · rw [show r = n by omega] at h2
    exact h2
  · subst h
    cases e : allB r f with
    | false => rw [allB_f e h1, Bool.and_false]
    | true => rw [e, Bool.and_true] at h2
              rw [h2, Bool.false_and]
theorem and_l {p q v : Bool} (h : (p && q) = v) (hv : v = true) : p = true := by
  subst hv
  revert h
  cases p <;> cases q <;> decide
theorem d_M_hasSameNames_20 : decode prog_14_method_73_code 20 = .ok (.istore_n 3, 1) := by decide +kernel
theorem d_M_hasSameNames_151 : decode prog_14_method_73_code 151 = .ok (.iload_n 3, 1) := by decide +kernel
theorem d_M_hasSameNames_152 : decode prog_14_method_73_code 152 = .ok (.ireturn, 1) := by decide +kernel
theorem d_M_hasSameNames_21 : decode prog_14_method_73_code 21 = .ok (.iconst 0, 1) := by decide +kernel
theorem d_M_hasSameNames_22 : decode prog_14_method_73_code 22 = .ok (.istore 4, 2) := by decide +kernel
theorem d_M_hasSameNames_24 : decode prog_14_method_73_code 24 = .ok (.iload 4, 2) := by decide +kernel
theorem d_M_hasSameNames_26 : decode prog_14_method_73_code 26 = .ok (.aload_n 0, 1) := by decide +kernel
theorem d_M_hasSameNames_27 : decode prog_14_method_73_code 27 = .ok (.getfield 88, 3) := by decide +kernel
theorem d_M_hasSameNames_30 : decode prog_14_method_73_code 30 = .ok (.iload_n 1, 1) := by decide +kernel
theorem d_M_hasSameNames_31 : decode prog_14_method_73_code 31 = .ok (.iaload, 1) := by decide +kernel
theorem d_M_hasSameNames_32 : decode prog_14_method_73_code 32 = .ok (.if_icmp .ge 119, 3) := by decide +kernel
theorem d_M_hasSameNames_35 : decode prog_14_method_73_code 35 = .ok (.iload_n 3, 1) := by decide +kernel
theorem d_M_hasSameNames_36 : decode prog_14_method_73_code 36 = .ok (.ifCond .eq 115, 3) := by decide +kernel
theorem d_M_hasSameNames_39 : decode prog_14_method_73_code 39 = .ok (.aload_n 0, 1) := by decide +kernel
theorem d_M_hasSameNames_75 : decode prog_14_method_73_code 75 = .ok (.istore_n 3, 1) := by decide +kernel
theorem d_M_hasSameNames_145 : decode prog_14_method_73_code 145 = .ok (.iinc 4 1, 3) := by decide +kernel
theorem d_M_hasSameNames_148 : decode prog_14_method_73_code 148 = .ok (.goto (-124), 3) := by decide +kernel
theorem d_M_hasSameNames_76 : decode prog_14_method_73_code 76 = .ok (.iconst 0, 1) := by decide +kernel
theorem d_M_hasSameNames_77 : decode prog_14_method_73_code 77 = .ok (.istore 6, 2) := by decide +kernel
theorem d_M_hasSameNames_79 : decode prog_14_method_73_code 79 = .ok (.iload 6, 2) := by decide +kernel
theorem d_M_hasSameNames_81 : decode prog_14_method_73_code 81 = .ok (.iload 5, 2) := by decide +kernel
theorem d_M_hasSameNames_83 : decode prog_14_method_73_code 83 = .ok (.if_icmp .ge 62, 3) := by decide +kernel
theorem d_M_hasSameNames_86 : decode prog_14_method_73_code 86 = .ok (.iload_n 3, 1) := by decide +kernel
theorem d_M_hasSameNames_87 : decode prog_14_method_73_code 87 = .ok (.ifCond .eq 58, 3) := by decide +kernel
theorem d_M_hasSameNames_90 : decode prog_14_method_73_code 90 = .ok (.aload_n 0, 1) := by decide +kernel
theorem d_M_hasSameNames_91 : decode prog_14_method_73_code 91 = .ok (.getfield 8, 3) := by decide +kernel
theorem d_M_hasSameNames_94 : decode prog_14_method_73_code 94 = .ok (.aload_n 0, 1) := by decide +kernel
theorem d_M_hasSameNames_95 : decode prog_14_method_73_code 95 = .ok (.getfield 91, 3) := by decide +kernel
theorem d_M_hasSameNames_98 : decode prog_14_method_73_code 98 = .ok (.bipush 6, 2) := by decide +kernel
theorem d_M_hasSameNames_100 : decode prog_14_method_73_code 100 = .ok (.iload_n 1, 1) := by decide +kernel
theorem d_M_hasSameNames_101 : decode prog_14_method_73_code 101 = .ok (.imul, 1) := by decide +kernel
theorem d_M_hasSameNames_102 : decode prog_14_method_73_code 102 = .ok (.iload 4, 2) := by decide +kernel
theorem d_M_hasSameNames_104 : decode prog_14_method_73_code 104 = .ok (.iadd, 1) := by decide +kernel
theorem d_M_hasSameNames_105 : decode prog_14_method_73_code 105 = .ok (.iaload, 1) := by decide +kernel
theorem d_M_hasSameNames_106 : decode prog_14_method_73_code 106 = .ok (.iload 6, 2) := by decide +kernel
theorem d_M_hasSameNames_108 : decode prog_14_method_73_code 108 = .ok (.iadd, 1) := by decide +kernel
theorem d_M_hasSameNames_109 : decode prog_14_method_73_code 109 = .ok (.baload, 1) := by decide +kernel
theorem d_M_hasSameNames_110 : decode prog_14_method_73_code 110 = .ok (.aload_n 0, 1) := by decide +kernel
theorem d_M_hasSameNames_111 : decode prog_14_method_73_code 111 = .ok (.getfield 8, 3) := by decide +kernel
theorem d_M_hasSameNames_114 : decode prog_14_method_73_code 114 = .ok (.aload_n 0, 1) := by decide +kernel
theorem d_M_hasSameNames_115 : decode prog_14_method_73_code 115 = .ok (.getfield 91, 3) := by decide +kernel
theorem d_M_hasSameNames_118 : decode prog_14_method_73_code 118 = .ok (.bipush 6, 2) := by decide +kernel
theorem d_M_hasSameNames_120 : decode prog_14_method_73_code 120 = .ok (.iload_n 2, 1) := by decide +kernel
theorem d_M_hasSameNames_121 : decode prog_14_method_73_code 121 = .ok (.imul, 1) := by decide +kernel
theorem d_M_hasSameNames_122 : decode prog_14_method_73_code 122 = .ok (.iload 4, 2) := by decide +kernel
theorem d_M_hasSameNames_124 : decode prog_14_method_73_code 124 = .ok (.iadd, 1) := by decide +kernel
theorem d_M_hasSameNames_125 : decode prog_14_method_73_code 125 = .ok (.iaload, 1) := by decide +kernel
theorem d_M_hasSameNames_126 : decode prog_14_method_73_code 126 = .ok (.iload 6, 2) := by decide +kernel
theorem d_M_hasSameNames_128 : decode prog_14_method_73_code 128 = .ok (.iadd, 1) := by decide +kernel
theorem d_M_hasSameNames_129 : decode prog_14_method_73_code 129 = .ok (.baload, 1) := by decide +kernel
theorem d_M_hasSameNames_130 : decode prog_14_method_73_code 130 = .ok (.if_icmp .ne 7, 3) := by decide +kernel
theorem d_M_hasSameNames_137 : decode prog_14_method_73_code 137 = .ok (.iconst 0, 1) := by decide +kernel
theorem d_M_hasSameNames_138 : decode prog_14_method_73_code 138 = .ok (.istore_n 3, 1) := by decide +kernel
theorem d_M_hasSameNames_139 : decode prog_14_method_73_code 139 = .ok (.iinc 6 1, 3) := by decide +kernel
theorem d_M_hasSameNames_142 : decode prog_14_method_73_code 142 = .ok (.goto (-63), 3) := by decide +kernel
theorem d_M_hasSameNames_133 : decode prog_14_method_73_code 133 = .ok (.iconst 1, 1) := by decide +kernel
theorem d_M_hasSameNames_134 : decode prog_14_method_73_code 134 = .ok (.goto 4, 3) := by decide +kernel
theorem d_M_hasSameNames_40 : decode prog_14_method_73_code 40 = .ok (.getfield 94, 3) := by decide +kernel
theorem d_M_hasSameNames_43 : decode prog_14_method_73_code 43 = .ok (.bipush 6, 2) := by decide +kernel
theorem d_M_hasSameNames_45 : decode prog_14_method_73_code 45 = .ok (.iload_n 1, 1) := by decide +kernel
theorem d_M_hasSameNames_46 : decode prog_14_method_73_code 46 = .ok (.imul, 1) := by decide +kernel
theorem d_M_hasSameNames_47 : decode prog_14_method_73_code 47 = .ok (.iload 4, 2) := by decide +kernel
theorem d_M_hasSameNames_49 : decode prog_14_method_73_code 49 = .ok (.iadd, 1) := by decide +kernel
theorem d_M_hasSameNames_50 : decode prog_14_method_73_code 50 = .ok (.iaload, 1) := by decide +kernel
theorem d_M_hasSameNames_51 : decode prog_14_method_73_code 51 = .ok (.istore 5, 2) := by decide +kernel
theorem d_M_hasSameNames_53 : decode prog_14_method_73_code 53 = .ok (.iload 5, 2) := by decide +kernel
theorem d_M_hasSameNames_55 : decode prog_14_method_73_code 55 = .ok (.aload_n 0, 1) := by decide +kernel
theorem d_M_hasSameNames_56 : decode prog_14_method_73_code 56 = .ok (.getfield 94, 3) := by decide +kernel
theorem d_M_hasSameNames_59 : decode prog_14_method_73_code 59 = .ok (.bipush 6, 2) := by decide +kernel
theorem d_M_hasSameNames_61 : decode prog_14_method_73_code 61 = .ok (.iload_n 2, 1) := by decide +kernel
theorem d_M_hasSameNames_62 : decode prog_14_method_73_code 62 = .ok (.imul, 1) := by decide +kernel
theorem d_M_hasSameNames_63 : decode prog_14_method_73_code 63 = .ok (.iload 4, 2) := by decide +kernel
theorem d_M_hasSameNames_65 : decode prog_14_method_73_code 65 = .ok (.iadd, 1) := by decide +kernel
theorem d_M_hasSameNames_66 : decode prog_14_method_73_code 66 = .ok (.iaload, 1) := by decide +kernel
theorem d_M_hasSameNames_67 : decode prog_14_method_73_code 67 = .ok (.if_icmp .ne 7, 3) := by decide +kernel
theorem d_M_hasSameNames_74 : decode prog_14_method_73_code 74 = .ok (.iconst 0, 1) := by decide +kernel
theorem d_M_hasSameNames_70 : decode prog_14_method_73_code 70 = .ok (.iconst 1, 1) := by decide +kernel
theorem d_M_hasSameNames_71 : decode prog_14_method_73_code 71 = .ok (.goto 4, 3) := by decide +kernel
theorem d_M_hasSameNames_0 : decode prog_14_method_73_code 0 = .ok (.aload_n 0, 1) := by decide +kernel
theorem d_M_hasSameNames_1 : decode prog_14_method_73_code 1 = .ok (.getfield 88, 3) := by decide +kernel
theorem d_M_hasSameNames_4 : decode prog_14_method_73_code 4 = .ok (.iload_n 1, 1) := by decide +kernel
theorem d_M_hasSameNames_5 : decode prog_14_method_73_code 5 = .ok (.iaload, 1) := by decide +kernel
theorem d_M_hasSameNames_6 : decode prog_14_method_73_code 6 = .ok (.aload_n 0, 1) := by decide +kernel
theorem d_M_hasSameNames_7 : decode prog_14_method_73_code 7 = .ok (.getfield 88, 3) := by decide +kernel
theorem d_M_hasSameNames_10 : decode prog_14_method_73_code 10 = .ok (.iload_n 2, 1) := by decide +kernel
theorem d_M_hasSameNames_11 : decode prog_14_method_73_code 11 = .ok (.iaload, 1) := by decide +kernel
theorem d_M_hasSameNames_12 : decode prog_14_method_73_code 12 = .ok (.if_icmp .ne 7, 3) := by decide +kernel
theorem d_M_hasSameNames_19 : decode prog_14_method_73_code 19 = .ok (.iconst 0, 1) := by decide +kernel
theorem d_M_hasSameNames_15 : decode prog_14_method_73_code 15 = .ok (.iconst 1, 1) := by decide +kernel
theorem d_M_hasSameNames_16 : decode prog_14_method_73_code 16 = .ok (.goto 4, 3) := by decide +kernel
set_option maxHeartbeats 4000000 in
set_option maxRecDepth 100000 in
theorem k_hasSameNames (l : Launch) (D : va_G) (dA : Nat → ClassId) (sz : Nat) (h : Nat) (ad : Nat → Nat) (x : MS) (a : Nat) (b : Nat) (ha : a < 20) (hb2 : b < 20) (h6 : x.tableNames a ≤ 6) (h7 : x.tableNames b ≤ 6) (hn : ∀ k : Nat, k < 6 → x.nameFroms (6 * a + k) + x.nameLengths (6 * a + k) ≤ 65536 ∧ x.nameFroms (6 * b + k) + x.nameLengths (6 * b + k) ≤ 65536) : Met l ⟨"SeriesVaultModel", "hasSameNames", "(II)Z"⟩ [Cond.code ⟨"SeriesVaultModel", "hasSameNames", "(II)Z"⟩ prog_14_method_73_code 7 (some FieldType.boolean)] { frames := 1, cells := 0, slots := 0, locals := 0 } (pC D dA [.ref h, .int (nI a), .int (nI b)] (MW dA h ad x) sz) (va_Qi (fun (r9 : Int32) (u9 : Unit) => r9 = bI (x.smN a b)) (fun (u9 : Unit) t9 => bW D (va_A (MW dA h ad x) sz) (MW dA h ad x) t9) (va_A (MW dA h ad x) sz)) 0 0 (va_A (MW dA h ad x) sz) := by
  refine mkC (y := ⟨"SeriesVaultModel", "hasSameNames", "(II)Z"⟩) (cc := prog_14_method_73_code) (maxL := 7) (av := [.ref h, .int (nI a), .int (nI b)]) (ws := MW dA h ad x) (sz := sz) (Qc := fun A => va_Qi (fun (r9 : Int32) (u9 : Unit) => r9 = bI (x.smN a b)) (fun (u9 : Unit) t9 => bW D A (MW dA h ad x) t9) A) (by decide) (Nat.le_of_ble_eq_true rfl) ?_
  intro A p e s m below meth c ls hsz hB
  obtain ⟨hx, hb, hr, hml, hown, hin, hlk, hE, hK, hP, hD, hS, hA, hN, hl⟩ := hB
  have hown : s.vm.findClass "SeriesVaultModel" = some m.cls := hown
  have hl : lv_has ls 7 [(0, .ref h), (1, .int (nI a)), (2, .int (nI b))] := hl
  obtain ⟨H, hH⟩ : ∃ z, z = s.heap := ⟨_, rfl⟩
  have hP : va_P D vwCl (MW dA h ad x) H := by rw [hH]; exact hP
  have hS : va_S A s.heap H [] := by rw [hH]; exact hS
  rw [← hH]
  have J20 : ∀ (v : Bool) (i0 : decide (x.tableNames a = x.tableNames b) = v), ∀ (H : Heap) (locs : List Loc) (ls : Array Slot) (hP : va_P D vwCl (MW dA h ad x) H) (hD : va_D A (MW dA h ad x)) (hS : va_S A s.heap H locs) (hl : lv_has ls 7 [(1, .int (nI a)), (2, .int (nI b)), (0, .ref h)]), W p l e ({ frames := 1, cells := 0, slots := 0, locals := 0 } : Room) s m ([.ref h, .int (nI a), .int (nI b)] : List Value).toArray below meth c H locs 0 0 (MQ below (va_Qi (fun (r9 : Int32) (u9 : Unit) => r9 = bI (x.smN a b)) (fun (u9 : Unit) t9 => bW D A (MW dA h ad x) t9) A) ([.ref h, .int (nI a), .int (nI b)] : List Value).toArray s 0 0 A) (F0 m 20 ls [.int (bI v)]) := by
    intro v i0 H locs ls hP hD hS hl
    refine lv_istore_n hx hb d_M_hasSameNames_20 rfl hl (by decide) rfl (fun ls hl => ?_)
    have hl : lv_has ls 7 [(3, .int (bI v)), (1, .int (nI a)), (2, .int (nI b)), (0, .ref h)] := hl
    have J151 : ∀ (v : Bool) (i9 : x.smN a b = v), ∀ (H : Heap) (locs : List Loc) (ls : Array Slot) (hP : va_P D vwCl (MW dA h ad x) H) (hD : va_D A (MW dA h ad x)) (hS : va_S A s.heap H locs) (hl : lv_has ls 7 [(3, .int (bI v)), (1, .int (nI a)), (2, .int (nI b)), (0, .ref h)]), W p l e ({ frames := 1, cells := 0, slots := 0, locals := 0 } : Room) s m ([.ref h, .int (nI a), .int (nI b)] : List Value).toArray below meth c H locs 0 0 (MQ below (va_Qi (fun (r9 : Int32) (u9 : Unit) => r9 = bI (x.smN a b)) (fun (u9 : Unit) t9 => bW D A (MW dA h ad x) t9) A) ([.ref h, .int (nI a), .int (nI b)] : List Value).toArray s 0 0 A) (F0 m 151 ls []) := by
      intro v i9 H locs ls hP hD hS hl
      refine lv_iload_n hx hb d_M_hasSameNames_151 rfl (lv_at hl 0 rfl) ?_
      exact rfZ hx hb hr (bI_nar v) hlk hS () (by rw [i9]) hP hD (Nat.le_of_ble_eq_true rfl) (Nat.le_of_ble_eq_true rfl) d_M_hasSameNames_152
    refine lv_iconst (v := 0) hx hb d_M_hasSameNames_21 (by decide) ?_
    refine lv_istore hx hb d_M_hasSameNames_22 hl (by decide) rfl (fun ls hl => ?_)
    have hl : lv_has ls 7 [(4, .int 0), (3, .int (bI v)), (1, .int (nI a)), (2, .int (nI b)), (0, .ref h)] := hl
    have L24 : ∀ (k9 : Nat) (k : Nat) (v : Bool) (i1 : k ≤ x.tableNames a) (i2 : (decide (x.tableNames a = x.tableNames b) && allB k (x.nmE a b)) = v) (hk9 : x.tableNames a - k = k9), ∀ (H : Heap) (locs : List Loc) (ls : Array Slot) (hP : va_P D vwCl (MW dA h ad x) H) (hD : va_D A (MW dA h ad x)) (hS : va_S A s.heap H locs) (hl : lv_has ls 7 [(4, .int (nI k)), (3, .int (bI v)), (1, .int (nI a)), (2, .int (nI b)), (0, .ref h)]), W p l e ({ frames := 1, cells := 0, slots := 0, locals := 0 } : Room) s m ([.ref h, .int (nI a), .int (nI b)] : List Value).toArray below meth c H locs 0 0 (MQ below (va_Qi (fun (r9 : Int32) (u9 : Unit) => r9 = bI (x.smN a b)) (fun (u9 : Unit) t9 => bW D A (MW dA h ad x) t9) A) ([.ref h, .int (nI a), .int (nI b)] : List Value).toArray s 0 0 A) (F0 m 24 ls []) := by
      intro k9
      induction k9 using Nat.strongRecOn with
      | ind k9 ih24 =>
        intro k v i1 i2 hk9 H locs ls hP hD hS hl
        refine lv_iload hx hb d_M_hasSameNames_24 (lv_at hl 0 rfl) ?_
        refine lv_aload_n hx hb d_M_hasSameNames_26 rfl (lv_at hl 4 rfl) ?_
        refine gF (v := .ref (ad 48)) hx hb hown hE hK hP 0 rfl rfl layM 48 (by decide) w518 rfl d_M_hasSameNames_27 ?_
        refine lv_iload_n hx hb d_M_hasSameNames_30 rfl (lv_at hl 2 rfl) ?_
        refine nild (f := (fun z9 => nI (x.tableNames z9))) hx hb hK hP 21 1 rfl rfl (a) (by omega) (by decide) d_M_hasSameNames_31 ?_
        refine lv_icmp_ge hx hb d_M_hasSameNames_32 (tgt := 151) rfl (fun g1 => ?_) (fun g1 => ?_)
        · have g1 := (nI_leI (a := x.tableNames a) (b := k) (by omega) (by omega)).mp g1
          exact J151 v (and_end i1 i2 (Or.inl (by omega))) H _ ls hP hD hS (lv_sub hl [1, 2, 3, 4] rfl)
        · have g1 := mt (nI_leI (a := x.tableNames a) (b := k) (by omega) (by omega)).mpr g1
          refine lv_iload_n hx hb d_M_hasSameNames_35 rfl (lv_at hl 1 rfl) ?_
          refine lv_if_eq hx hb d_M_hasSameNames_36 (tgt := 151) rfl (fun g2 => ?_) (fun g2 => ?_)
          · have g2 := bI_0 g2
            exact J151 v (and_end i1 i2 (Or.inr g2)) H _ ls hP hD hS (lv_sub hl [1, 2, 3, 4] rfl)
          · have g2 := bI_n0 g2
            have iv := g2
            have n5 := hn k (by omega)
            have n6 := n5.1
            have n7 := n5.2
            refine lv_aload_n hx hb d_M_hasSameNames_39 rfl (lv_at hl 4 rfl) ?_
            have J75 : ∀ (v2 : Bool) (j0 : x.nmL a b k = v2), ∀ (H : Heap) (locs : List Loc) (ls : Array Slot) (hP : va_P D vwCl (MW dA h ad x) H) (hD : va_D A (MW dA h ad x)) (hS : va_S A s.heap H locs) (hl : lv_has ls 7 [(5, .int (nI (x.nameLengths ((6 * a) + k)))), (4, .int (nI k)), (1, .int (nI a)), (2, .int (nI b)), (0, .ref h)]), W p l e ({ frames := 1, cells := 0, slots := 0, locals := 0 } : Room) s m ([.ref h, .int (nI a), .int (nI b)] : List Value).toArray below meth c H locs 0 0 (MQ below (va_Qi (fun (r9 : Int32) (u9 : Unit) => r9 = bI (x.smN a b)) (fun (u9 : Unit) t9 => bW D A (MW dA h ad x) t9) A) ([.ref h, .int (nI a), .int (nI b)] : List Value).toArray s 0 0 A) (F0 m 75 ls [.int (bI v2)]) := by
              intro v2 j0 H locs ls hP hD hS hl
              refine lv_istore_n hx hb d_M_hasSameNames_75 rfl hl (by decide) rfl (fun ls hl => ?_)
              have hl : lv_has ls 7 [(3, .int (bI v2)), (5, .int (nI (x.nameLengths ((6 * a) + k)))), (4, .int (nI k)), (1, .int (nI a)), (2, .int (nI b)), (0, .ref h)] := hl
              have J145 : ∀ (v2 : Bool) (j5 : x.nmE a b k = v2), ∀ (H : Heap) (locs : List Loc) (ls : Array Slot) (hP : va_P D vwCl (MW dA h ad x) H) (hD : va_D A (MW dA h ad x)) (hS : va_S A s.heap H locs) (hl : lv_has ls 7 [(3, .int (bI v2)), (4, .int (nI k)), (1, .int (nI a)), (2, .int (nI b)), (0, .ref h)]), W p l e ({ frames := 1, cells := 0, slots := 0, locals := 0 } : Room) s m ([.ref h, .int (nI a), .int (nI b)] : List Value).toArray below meth c H locs 0 0 (MQ below (va_Qi (fun (r9 : Int32) (u9 : Unit) => r9 = bI (x.smN a b)) (fun (u9 : Unit) t9 => bW D A (MW dA h ad x) t9) A) ([.ref h, .int (nI a), .int (nI b)] : List Value).toArray s 0 0 A) (F0 m 145 ls []) := by
                intro v2 j5 H locs ls hP hD hS hl
                refine lv_iinc (k := 1) (v := nI (k + 1)) hx hb d_M_hasSameNames_145 hl rfl (iincN (k) 1 1 (by decide)) (by decide) rfl (fun ls hl => ?_)
                have hl : lv_has ls 7 [(4, .int (nI (k + 1))), (3, .int (bI v2)), (1, .int (nI a)), (2, .int (nI b)), (0, .ref h)] := hl
                refine lv_goto hx hb d_M_hasSameNames_148 (tgt := 24) rfl ?_
                exact ih24 _ (by omega) (k + 1) v2 (by omega) (by rw [allB_s, ← Bool.and_assoc, i2, iv, Bool.true_and]; exact j5) rfl H _ ls hP hD hS (lv_sub hl [0, 1, 2, 3, 4] rfl)
              refine lv_iconst (v := 0) hx hb d_M_hasSameNames_76 (by decide) ?_
              refine lv_istore hx hb d_M_hasSameNames_77 hl (by decide) rfl (fun ls hl => ?_)
              have hl : lv_has ls 7 [(6, .int 0), (3, .int (bI v2)), (5, .int (nI (x.nameLengths ((6 * a) + k)))), (4, .int (nI k)), (1, .int (nI a)), (2, .int (nI b)), (0, .ref h)] := hl
              have L79 : ∀ (k9 : Nat) (j : Nat) (v2 : Bool) (j1 : j ≤ x.nameLengths ((6 * a) + k)) (j2 : (x.nmL a b k && allB j (x.nmC a b k)) = v2) (hk9 : x.nameLengths ((6 * a) + k) - j = k9), ∀ (H : Heap) (locs : List Loc) (ls : Array Slot) (hP : va_P D vwCl (MW dA h ad x) H) (hD : va_D A (MW dA h ad x)) (hS : va_S A s.heap H locs) (hl : lv_has ls 7 [(6, .int (nI j)), (3, .int (bI v2)), (5, .int (nI (x.nameLengths ((6 * a) + k)))), (4, .int (nI k)), (1, .int (nI a)), (2, .int (nI b)), (0, .ref h)]), W p l e ({ frames := 1, cells := 0, slots := 0, locals := 0 } : Room) s m ([.ref h, .int (nI a), .int (nI b)] : List Value).toArray below meth c H locs 0 0 (MQ below (va_Qi (fun (r9 : Int32) (u9 : Unit) => r9 = bI (x.smN a b)) (fun (u9 : Unit) t9 => bW D A (MW dA h ad x) t9) A) ([.ref h, .int (nI a), .int (nI b)] : List Value).toArray s 0 0 A) (F0 m 79 ls []) := by
                intro k9
                induction k9 using Nat.strongRecOn with
                | ind k9 ih79 =>
                  intro j v2 j1 j2 hk9 H locs ls hP hD hS hl
                  refine lv_iload hx hb d_M_hasSameNames_79 (lv_at hl 0 rfl) ?_
                  refine lv_iload hx hb d_M_hasSameNames_81 (lv_at hl 2 rfl) ?_
                  refine lv_icmp_ge hx hb d_M_hasSameNames_83 (tgt := 145) rfl (fun g3 => ?_) (fun g3 => ?_)
                  · have g3 := (nI_leI (a := x.nameLengths ((6 * a) + k)) (b := j) (by omega) (by omega)).mp g3
                    exact J145 v2 (and_end j1 j2 (Or.inl (by omega))) H _ ls hP hD hS (lv_sub hl [1, 3, 4, 5, 6] rfl)
                  · have g3 := mt (nI_leI (a := x.nameLengths ((6 * a) + k)) (b := j) (by omega) (by omega)).mpr g3
                    refine lv_iload_n hx hb d_M_hasSameNames_86 rfl (lv_at hl 1 rfl) ?_
                    refine lv_if_eq hx hb d_M_hasSameNames_87 (tgt := 145) rfl (fun g4 => ?_) (fun g4 => ?_)
                    · have g4 := bI_0 g4
                      exact J145 v2 (and_end j1 j2 (Or.inr g4)) H _ ls hP hD hS (lv_sub hl [1, 3, 4, 5, 6] rfl)
                    · have g4 := bI_n0 g4
                      have l5 : x.nameLengths (6 * a + k) = x.nameLengths (6 * b + k) := of_decide_eq_true (and_l j2 g4)
                      refine lv_aload_n hx hb d_M_hasSameNames_90 rfl (lv_at hl 6 rfl) ?_
                      refine gF (v := .ref (ad 1)) hx hb hown hE hK hP 0 rfl rfl layM 1 (by decide) w497 rfl d_M_hasSameNames_91 ?_
                      refine lv_aload_n hx hb d_M_hasSameNames_94 rfl (lv_at hl 6 rfl) ?_
                      refine gF (v := .ref (ad 49)) hx hb hown hE hK hP 0 rfl rfl layM 49 (by decide) w519 rfl d_M_hasSameNames_95 ?_
                      refine lv_bipush (v := 6) hx hb d_M_hasSameNames_98 (by decide) ?_
                      refine lv_iload_n hx hb d_M_hasSameNames_100 rfl (lv_at hl 4 rfl) ?_
                      refine lv_imul hx hb d_M_hasSameNames_101 (tpi (y := nI (6 * a)) (pk_mul (6) (a)) ?_)
                      refine lv_iload hx hb d_M_hasSameNames_102 (lv_at hl 3 rfl) ?_
                      refine lv_iadd hx hb d_M_hasSameNames_104 (tpi (y := nI ((6 * a) + k)) (nI_add (6 * a) (k)) ?_)
                      refine nild (f := (fun z9 => nI (x.nameFroms z9))) hx hb hK hP 22 1 rfl rfl ((6 * a) + k) (by omega) (by decide) d_M_hasSameNames_105 ?_
                      refine lv_iload hx hb d_M_hasSameNames_106 (lv_at hl 0 rfl) ?_
                      refine lv_iadd hx hb d_M_hasSameNames_108 (tpi (y := nI ((x.nameFroms ((6 * a) + k)) + j)) (nI_add (x.nameFroms ((6 * a) + k)) (j)) ?_)
                      refine nbld (f := x.tape) hx hb hK hP 1 0 rfl rfl ((x.nameFroms ((6 * a) + k)) + j) (by omega) (by decide) d_M_hasSameNames_109 ?_
                      refine lv_aload_n hx hb d_M_hasSameNames_110 rfl (lv_at hl 6 rfl) ?_
                      refine gF (v := .ref (ad 1)) hx hb hown hE hK hP 0 rfl rfl layM 1 (by decide) w497 rfl d_M_hasSameNames_111 ?_
                      refine lv_aload_n hx hb d_M_hasSameNames_114 rfl (lv_at hl 6 rfl) ?_
                      refine gF (v := .ref (ad 49)) hx hb hown hE hK hP 0 rfl rfl layM 49 (by decide) w519 rfl d_M_hasSameNames_115 ?_
                      refine lv_bipush (v := 6) hx hb d_M_hasSameNames_118 (by decide) ?_
                      refine lv_iload_n hx hb d_M_hasSameNames_120 rfl (lv_at hl 5 rfl) ?_
                      refine lv_imul hx hb d_M_hasSameNames_121 (tpi (y := nI (6 * b)) (pk_mul (6) (b)) ?_)
                      refine lv_iload hx hb d_M_hasSameNames_122 (lv_at hl 3 rfl) ?_
                      refine lv_iadd hx hb d_M_hasSameNames_124 (tpi (y := nI ((6 * b) + k)) (nI_add (6 * b) (k)) ?_)
                      refine nild (f := (fun z9 => nI (x.nameFroms z9))) hx hb hK hP 22 1 rfl rfl ((6 * b) + k) (by omega) (by decide) d_M_hasSameNames_125 ?_
                      refine lv_iload hx hb d_M_hasSameNames_126 (lv_at hl 0 rfl) ?_
                      refine lv_iadd hx hb d_M_hasSameNames_128 (tpi (y := nI ((x.nameFroms ((6 * b) + k)) + j)) (nI_add (x.nameFroms ((6 * b) + k)) (j)) ?_)
                      refine nbld (f := x.tape) hx hb hK hP 1 0 rfl rfl ((x.nameFroms ((6 * b) + k)) + j) (by omega) (by decide) d_M_hasSameNames_129 ?_
                      refine lv_icmp_ne hx hb d_M_hasSameNames_130 (tgt := 137) rfl (fun g5 => ?_) (fun g5 => ?_)
                      · have g5 := g5
                        refine lv_iconst (v := 0) hx hb d_M_hasSameNames_137 (by decide) ?_
                        refine lv_istore_n hx hb d_M_hasSameNames_138 rfl hl (by decide) rfl (fun ls hl => ?_)
                        have hl : lv_has ls 7 [(3, .int 0), (6, .int (nI j)), (5, .int (nI (x.nameLengths ((6 * a) + k)))), (4, .int (nI k)), (1, .int (nI a)), (2, .int (nI b)), (0, .ref h)] := hl
                        refine lv_iinc (k := 1) (v := nI (j + 1)) hx hb d_M_hasSameNames_139 hl rfl (iincN (j) 1 1 (by decide)) (by decide) rfl (fun ls hl => ?_)
                        have hl : lv_has ls 7 [(6, .int (nI (j + 1))), (3, .int 0), (5, .int (nI (x.nameLengths ((6 * a) + k)))), (4, .int (nI k)), (1, .int (nI a)), (2, .int (nI b)), (0, .ref h)] := hl
                        refine lv_goto hx hb d_M_hasSameNames_142 (tgt := 79) rfl ?_
                        exact ih79 _ (by omega) (j + 1) false (by omega) (by rw [allB_s, ← Bool.and_assoc, j2, g4]; exact decide_eq_false g5) rfl H _ ls hP hD hS (lv_sub hl [0, 1, 2, 3, 4, 5, 6] rfl)
                      · have g5 := g5
                        refine lv_iconst (v := 1) hx hb d_M_hasSameNames_133 (by decide) ?_
                        refine lv_goto hx hb d_M_hasSameNames_134 (tgt := 138) rfl ?_
                        refine lv_istore_n hx hb d_M_hasSameNames_138 rfl hl (by decide) rfl (fun ls hl => ?_)
                        have hl : lv_has ls 7 [(3, .int 1), (6, .int (nI j)), (5, .int (nI (x.nameLengths ((6 * a) + k)))), (4, .int (nI k)), (1, .int (nI a)), (2, .int (nI b)), (0, .ref h)] := hl
                        refine lv_iinc (k := 1) (v := nI (j + 1)) hx hb d_M_hasSameNames_139 hl rfl (iincN (j) 1 1 (by decide)) (by decide) rfl (fun ls hl => ?_)
                        have hl : lv_has ls 7 [(6, .int (nI (j + 1))), (3, .int 1), (5, .int (nI (x.nameLengths ((6 * a) + k)))), (4, .int (nI k)), (1, .int (nI a)), (2, .int (nI b)), (0, .ref h)] := hl
                        refine lv_goto hx hb d_M_hasSameNames_142 (tgt := 79) rfl ?_
                        exact ih79 _ (by omega) (j + 1) true (by omega) (by rw [allB_s, ← Bool.and_assoc, j2, g4]; exact decide_eq_true g5) rfl H _ ls hP hD hS (lv_sub hl [0, 1, 2, 3, 4, 5, 6] rfl)
              exact L79 _ 0 v2 (Nat.zero_le _) (by rw [j0]; exact Bool.and_true _) rfl H _ ls hP hD hS (lv_sub hl [0, 1, 2, 3, 4, 5, 6] rfl)
            refine gF (v := .ref (ad 50)) hx hb hown hE hK hP 0 rfl rfl layM 50 (by decide) w520 rfl d_M_hasSameNames_40 ?_
            refine lv_bipush (v := 6) hx hb d_M_hasSameNames_43 (by decide) ?_
            refine lv_iload_n hx hb d_M_hasSameNames_45 rfl (lv_at hl 2 rfl) ?_
            refine lv_imul hx hb d_M_hasSameNames_46 (tpi (y := nI (6 * a)) (pk_mul (6) (a)) ?_)
            refine lv_iload hx hb d_M_hasSameNames_47 (lv_at hl 0 rfl) ?_
            refine lv_iadd hx hb d_M_hasSameNames_49 (tpi (y := nI ((6 * a) + k)) (nI_add (6 * a) (k)) ?_)
            refine nild (f := (fun z9 => nI (x.nameLengths z9))) hx hb hK hP 23 1 rfl rfl ((6 * a) + k) (by omega) (by decide) d_M_hasSameNames_50 ?_
            refine lv_istore hx hb d_M_hasSameNames_51 hl (by decide) rfl (fun ls hl => ?_)
            have hl : lv_has ls 7 [(5, .int (nI (x.nameLengths ((6 * a) + k)))), (4, .int (nI k)), (3, .int (bI v)), (1, .int (nI a)), (2, .int (nI b)), (0, .ref h)] := hl
            refine lv_iload hx hb d_M_hasSameNames_53 (lv_at hl 0 rfl) ?_
            refine lv_aload_n hx hb d_M_hasSameNames_55 rfl (lv_at hl 5 rfl) ?_
            refine gF (v := .ref (ad 50)) hx hb hown hE hK hP 0 rfl rfl layM 50 (by decide) w520 rfl d_M_hasSameNames_56 ?_
            refine lv_bipush (v := 6) hx hb d_M_hasSameNames_59 (by decide) ?_
            refine lv_iload_n hx hb d_M_hasSameNames_61 rfl (lv_at hl 4 rfl) ?_
            refine lv_imul hx hb d_M_hasSameNames_62 (tpi (y := nI (6 * b)) (pk_mul (6) (b)) ?_)
            refine lv_iload hx hb d_M_hasSameNames_63 (lv_at hl 1 rfl) ?_
            refine lv_iadd hx hb d_M_hasSameNames_65 (tpi (y := nI ((6 * b) + k)) (nI_add (6 * b) (k)) ?_)
            refine nild (f := (fun z9 => nI (x.nameLengths z9))) hx hb hK hP 23 1 rfl rfl ((6 * b) + k) (by omega) (by decide) d_M_hasSameNames_66 ?_
            refine lv_icmp_ne hx hb d_M_hasSameNames_67 (tgt := 74) rfl (fun g6 => ?_) (fun g6 => ?_)
            · have g6 := mt (nI_eq (a := x.nameLengths ((6 * a) + k)) (b := x.nameLengths ((6 * b) + k)) (by omega) (by omega)).mpr g6
              refine lv_iconst (v := 0) hx hb d_M_hasSameNames_74 (by decide) ?_
              exact J75 false (by simp [MS.nmL, *]) H _ ls hP hD hS (lv_sub hl [0, 1, 3, 4, 5] rfl)
            · have g6 := (nI_eq (a := x.nameLengths ((6 * a) + k)) (b := x.nameLengths ((6 * b) + k)) (by omega) (by omega)).mp g6
              refine lv_iconst (v := 1) hx hb d_M_hasSameNames_70 (by decide) ?_
              refine lv_goto hx hb d_M_hasSameNames_71 (tgt := 75) rfl ?_
              exact J75 true (by simp [MS.nmL, *]) H _ ls hP hD hS (lv_sub hl [0, 1, 3, 4, 5] rfl)
    exact L24 _ 0 v (Nat.zero_le _) (by rw [i0]; exact Bool.and_true _) rfl H _ ls hP hD hS (lv_sub hl [0, 1, 2, 3, 4] rfl)
  refine lv_aload_n hx hb d_M_hasSameNames_0 rfl (lv_at hl 0 rfl) ?_
  refine gF (v := .ref (ad 48)) hx hb hown hE hK hP 0 rfl rfl layM 48 (by decide) w518 rfl d_M_hasSameNames_1 ?_
  refine lv_iload_n hx hb d_M_hasSameNames_4 rfl (lv_at hl 1 rfl) ?_
  refine nild (f := (fun z9 => nI (x.tableNames z9))) hx hb hK hP 21 1 rfl rfl (a) (by omega) (by decide) d_M_hasSameNames_5 ?_
  refine lv_aload_n hx hb d_M_hasSameNames_6 rfl (lv_at hl 0 rfl) ?_
  refine gF (v := .ref (ad 48)) hx hb hown hE hK hP 0 rfl rfl layM 48 (by decide) w518 rfl d_M_hasSameNames_7 ?_
  refine lv_iload_n hx hb d_M_hasSameNames_10 rfl (lv_at hl 2 rfl) ?_
  refine nild (f := (fun z9 => nI (x.tableNames z9))) hx hb hK hP 21 1 rfl rfl (b) (by omega) (by decide) d_M_hasSameNames_11 ?_
  refine lv_icmp_ne hx hb d_M_hasSameNames_12 (tgt := 19) rfl (fun g7 => ?_) (fun g7 => ?_)
  · have g7 := mt (nI_eq (a := x.tableNames a) (b := x.tableNames b) (by omega) (by omega)).mpr g7
    refine lv_iconst (v := 0) hx hb d_M_hasSameNames_19 (by decide) ?_
    exact J20 false (by simp [*]) H _ ls hP hD hS (lv_sub hl [1, 2, 0] rfl)
  · have g7 := (nI_eq (a := x.tableNames a) (b := x.tableNames b) (by omega) (by omega)).mp g7
    refine lv_iconst (v := 1) hx hb d_M_hasSameNames_15 (by decide) ?_
    refine lv_goto hx hb d_M_hasSameNames_16 (tgt := 20) rfl ?_
    exact J20 true (by simp [*]) H _ ls hP hD hS (lv_sub hl [1, 2, 0] rfl)
end
section
def orB (n : Nat) (f : Nat → Bool) : Bool := anyB n f
/-- n places from a on copied to those from b on, one after the other -/
def mvG {α : Type} (f : Nat → α) (b a : Nat) : Nat → Nat → α
  | 0 => f
  | k + 1 => va_up (mvG f b a k) (b + k) (mvG f b a k (a + k))
abbrev swT : Type := Nat × (Nat → Bool) × (Nat → Int64) × (Nat → Nat)
/-- r rows of table t looked at: how many stay, the cells, the rows' series -/
def swG (ic : Nat → Bool) (ce : Nat → Int64) (rs : Nat → Nat) (t n : Nat) : Nat → swT
  | 0 => (0, ic, ce, rs)
  | r + 1 => if anyB n (fun w => (swG ic ce rs t n r).2.1 (cA t r + w)) = true then ((swG ic ce rs t n r).1 + 1, mvG (swG ic ce rs t n r).2.1 (cA t (swG ic ce rs t n r).1) (cA t r) n, mvG (swG ic ce rs t n r).2.2.1 (cA t (swG ic ce rs t n r).1) (cA t r) n, va_up (swG ic ce rs t n r).2.2.2 (256 * t + (swG ic ce rs t n r).1) ((swG ic ce rs t n r).2.2.2 (256 * t + r)))
    else swG ic ce rs t n r
theorem swG_f {ic : Nat → Bool} {ce : Nat → Int64} {rs : Nat → Nat} {t n r m : Nat} {i2 : Nat → Bool} {c2 : Nat → Int64} {r2 : Nat → Nat} (h : swG ic ce rs t n r = (m, i2, c2, r2)) (ha : anyB n (fun w => i2 (cA t r + w)) = false) : swG ic ce rs t n (r + 1) = (m, i2, c2, r2) := by
  show (if anyB n (fun w => (swG ic ce rs t n r).2.1 (cA t r + w)) = true then _ else _) = _
  rw [h, if_neg (by rw [ha]; decide)]
theorem swG_t {ic : Nat → Bool} {ce : Nat → Int64} {rs : Nat → Nat} {t n r m : Nat} {i2 : Nat → Bool} {c2 : Nat → Int64} {r2 : Nat → Nat} (h : swG ic ce rs t n r = (m, i2, c2, r2)) (ha : anyB n (fun w => i2 (cA t r + w)) = true) : swG ic ce rs t n (r + 1) = (m + 1, mvG i2 (cA t m) (cA t r) n, mvG c2 (cA t m) (cA t r) n, va_up r2 (256 * t + m) (r2 (256 * t + r))) := by
  show (if anyB n (fun w => (swG ic ce rs t n r).2.1 (cA t r + w)) = true then _ else _) = _
  rw [h, if_pos ha]
theorem d_M_sweep_0 : decode prog_14_method_71_code 0 = .ok (.iconst 0, 1) := by decide +kernel
theorem d_M_sweep_1 : decode prog_14_method_71_code 1 = .ok (.istore_n 2, 1) := by decide +kernel
theorem d_M_sweep_2 : decode prog_14_method_71_code 2 = .ok (.iconst 0, 1) := by decide +kernel
theorem d_M_sweep_3 : decode prog_14_method_71_code 3 = .ok (.istore_n 3, 1) := by decide +kernel
theorem d_M_sweep_4 : decode prog_14_method_71_code 4 = .ok (.iload_n 3, 1) := by decide +kernel
theorem d_M_sweep_5 : decode prog_14_method_71_code 5 = .ok (.aload_n 0, 1) := by decide +kernel
theorem d_M_sweep_6 : decode prog_14_method_71_code 6 = .ok (.getfield 97, 3) := by decide +kernel
theorem d_M_sweep_9 : decode prog_14_method_71_code 9 = .ok (.iload_n 1, 1) := by decide +kernel
theorem d_M_sweep_10 : decode prog_14_method_71_code 10 = .ok (.iaload, 1) := by decide +kernel
theorem d_M_sweep_11 : decode prog_14_method_71_code 11 = .ok (.if_icmp .ge 158, 3) := by decide +kernel
theorem d_M_sweep_169 : decode prog_14_method_71_code 169 = .ok (.aload_n 0, 1) := by decide +kernel
theorem d_M_sweep_170 : decode prog_14_method_71_code 170 = .ok (.getfield 97, 3) := by decide +kernel
theorem d_M_sweep_173 : decode prog_14_method_71_code 173 = .ok (.iload_n 1, 1) := by decide +kernel
theorem d_M_sweep_174 : decode prog_14_method_71_code 174 = .ok (.iload_n 2, 1) := by decide +kernel
theorem d_M_sweep_175 : decode prog_14_method_71_code 175 = .ok (.iastore, 1) := by decide +kernel
theorem d_M_sweep_176 : decode prog_14_method_71_code 176 = .ok (.return_, 1) := by decide +kernel
theorem d_M_sweep_62 : decode prog_14_method_71_code 62 = .ok (.iload 4, 2) := by decide +kernel
theorem d_M_sweep_64 : decode prog_14_method_71_code 64 = .ok (.ifCond .ne 6, 3) := by decide +kernel
theorem d_M_sweep_70 : decode prog_14_method_71_code 70 = .ok (.iconst 0, 1) := by decide +kernel
theorem d_M_sweep_71 : decode prog_14_method_71_code 71 = .ok (.istore 5, 2) := by decide +kernel
theorem d_M_sweep_73 : decode prog_14_method_71_code 73 = .ok (.iload 5, 2) := by decide +kernel
theorem d_M_sweep_75 : decode prog_14_method_71_code 75 = .ok (.aload_n 0, 1) := by decide +kernel
theorem d_M_sweep_76 : decode prog_14_method_71_code 76 = .ok (.getfield 412, 3) := by decide +kernel
theorem d_M_sweep_79 : decode prog_14_method_71_code 79 = .ok (.if_icmp .ge 57, 3) := by decide +kernel
theorem d_M_sweep_136 : decode prog_14_method_71_code 136 = .ok (.aload_n 0, 1) := by decide +kernel
theorem d_M_sweep_137 : decode prog_14_method_71_code 137 = .ok (.getfield 100, 3) := by decide +kernel
theorem d_M_sweep_140 : decode prog_14_method_71_code 140 = .ok (.sipush 256, 3) := by decide +kernel
theorem d_M_sweep_143 : decode prog_14_method_71_code 143 = .ok (.iload_n 1, 1) := by decide +kernel
theorem d_M_sweep_144 : decode prog_14_method_71_code 144 = .ok (.imul, 1) := by decide +kernel
theorem d_M_sweep_145 : decode prog_14_method_71_code 145 = .ok (.iload_n 2, 1) := by decide +kernel
theorem d_M_sweep_146 : decode prog_14_method_71_code 146 = .ok (.iadd, 1) := by decide +kernel
theorem d_M_sweep_147 : decode prog_14_method_71_code 147 = .ok (.aload_n 0, 1) := by decide +kernel
theorem d_M_sweep_148 : decode prog_14_method_71_code 148 = .ok (.getfield 100, 3) := by decide +kernel
theorem d_M_sweep_151 : decode prog_14_method_71_code 151 = .ok (.sipush 256, 3) := by decide +kernel
theorem d_M_sweep_154 : decode prog_14_method_71_code 154 = .ok (.iload_n 1, 1) := by decide +kernel
theorem d_M_sweep_155 : decode prog_14_method_71_code 155 = .ok (.imul, 1) := by decide +kernel
theorem d_M_sweep_156 : decode prog_14_method_71_code 156 = .ok (.iload_n 3, 1) := by decide +kernel
theorem d_M_sweep_157 : decode prog_14_method_71_code 157 = .ok (.iadd, 1) := by decide +kernel
theorem d_M_sweep_158 : decode prog_14_method_71_code 158 = .ok (.iaload, 1) := by decide +kernel
theorem d_M_sweep_159 : decode prog_14_method_71_code 159 = .ok (.iastore, 1) := by decide +kernel
theorem d_M_sweep_160 : decode prog_14_method_71_code 160 = .ok (.iinc 2 1, 3) := by decide +kernel
theorem d_M_sweep_163 : decode prog_14_method_71_code 163 = .ok (.iinc 3 1, 3) := by decide +kernel
theorem d_M_sweep_166 : decode prog_14_method_71_code 166 = .ok (.goto (-162), 3) := by decide +kernel
theorem d_M_sweep_82 : decode prog_14_method_71_code 82 = .ok (.aload_n 0, 1) := by decide +kernel
theorem d_M_sweep_83 : decode prog_14_method_71_code 83 = .ok (.getfield 107, 3) := by decide +kernel
theorem d_M_sweep_86 : decode prog_14_method_71_code 86 = .ok (.iload_n 1, 1) := by decide +kernel
theorem d_M_sweep_87 : decode prog_14_method_71_code 87 = .ok (.iload_n 2, 1) := by decide +kernel
theorem d_M_sweep_88 : decode prog_14_method_71_code 88 = .ok (.iload 5, 2) := by decide +kernel
theorem d_M_sweep_90 : decode prog_14_method_71_code 90 = .ok (.invokestatic 397, 3) := by decide +kernel
theorem d_M_sweep_93 : decode prog_14_method_71_code 93 = .ok (.aload_n 0, 1) := by decide +kernel
theorem d_M_sweep_94 : decode prog_14_method_71_code 94 = .ok (.getfield 107, 3) := by decide +kernel
theorem d_M_sweep_97 : decode prog_14_method_71_code 97 = .ok (.iload_n 1, 1) := by decide +kernel
theorem d_M_sweep_98 : decode prog_14_method_71_code 98 = .ok (.iload_n 3, 1) := by decide +kernel
theorem d_M_sweep_99 : decode prog_14_method_71_code 99 = .ok (.iload 5, 2) := by decide +kernel
theorem d_M_sweep_101 : decode prog_14_method_71_code 101 = .ok (.invokestatic 397, 3) := by decide +kernel
theorem d_M_sweep_104 : decode prog_14_method_71_code 104 = .ok (.baload, 1) := by decide +kernel
theorem d_M_sweep_105 : decode prog_14_method_71_code 105 = .ok (.bastore, 1) := by decide +kernel
theorem d_M_sweep_106 : decode prog_14_method_71_code 106 = .ok (.aload_n 0, 1) := by decide +kernel
theorem d_M_sweep_107 : decode prog_14_method_71_code 107 = .ok (.getfield 104, 3) := by decide +kernel
theorem d_M_sweep_110 : decode prog_14_method_71_code 110 = .ok (.iload_n 1, 1) := by decide +kernel
theorem d_M_sweep_111 : decode prog_14_method_71_code 111 = .ok (.iload_n 2, 1) := by decide +kernel
theorem d_M_sweep_112 : decode prog_14_method_71_code 112 = .ok (.iload 5, 2) := by decide +kernel
theorem d_M_sweep_114 : decode prog_14_method_71_code 114 = .ok (.invokestatic 397, 3) := by decide +kernel
theorem d_M_sweep_117 : decode prog_14_method_71_code 117 = .ok (.aload_n 0, 1) := by decide +kernel
theorem d_M_sweep_118 : decode prog_14_method_71_code 118 = .ok (.getfield 104, 3) := by decide +kernel
theorem d_M_sweep_121 : decode prog_14_method_71_code 121 = .ok (.iload_n 1, 1) := by decide +kernel
theorem d_M_sweep_122 : decode prog_14_method_71_code 122 = .ok (.iload_n 3, 1) := by decide +kernel
theorem d_M_sweep_123 : decode prog_14_method_71_code 123 = .ok (.iload 5, 2) := by decide +kernel
theorem d_M_sweep_125 : decode prog_14_method_71_code 125 = .ok (.invokestatic 397, 3) := by decide +kernel
theorem d_M_sweep_128 : decode prog_14_method_71_code 128 = .ok (.laload, 1) := by decide +kernel
theorem d_M_sweep_129 : decode prog_14_method_71_code 129 = .ok (.lastore, 1) := by decide +kernel
theorem d_M_sweep_130 : decode prog_14_method_71_code 130 = .ok (.iinc 5 1, 3) := by decide +kernel
theorem d_M_sweep_133 : decode prog_14_method_71_code 133 = .ok (.goto (-60), 3) := by decide +kernel
theorem d_M_sweep_67 : decode prog_14_method_71_code 67 = .ok (.goto 96, 3) := by decide +kernel
theorem d_M_sweep_14 : decode prog_14_method_71_code 14 = .ok (.iconst 0, 1) := by decide +kernel
theorem d_M_sweep_15 : decode prog_14_method_71_code 15 = .ok (.istore 4, 2) := by decide +kernel
theorem d_M_sweep_17 : decode prog_14_method_71_code 17 = .ok (.iconst 0, 1) := by decide +kernel
theorem d_M_sweep_18 : decode prog_14_method_71_code 18 = .ok (.istore 5, 2) := by decide +kernel
theorem d_M_sweep_20 : decode prog_14_method_71_code 20 = .ok (.iload 5, 2) := by decide +kernel
theorem d_M_sweep_22 : decode prog_14_method_71_code 22 = .ok (.aload_n 0, 1) := by decide +kernel
theorem d_M_sweep_23 : decode prog_14_method_71_code 23 = .ok (.getfield 412, 3) := by decide +kernel
theorem d_M_sweep_26 : decode prog_14_method_71_code 26 = .ok (.if_icmp .ge 36, 3) := by decide +kernel
theorem d_M_sweep_29 : decode prog_14_method_71_code 29 = .ok (.iload 4, 2) := by decide +kernel
theorem d_M_sweep_31 : decode prog_14_method_71_code 31 = .ok (.ifCond .ne 18, 3) := by decide +kernel
theorem d_M_sweep_49 : decode prog_14_method_71_code 49 = .ok (.iconst 1, 1) := by decide +kernel
theorem d_M_sweep_50 : decode prog_14_method_71_code 50 = .ok (.goto 4, 3) := by decide +kernel
theorem d_M_sweep_54 : decode prog_14_method_71_code 54 = .ok (.istore 4, 2) := by decide +kernel
theorem d_M_sweep_56 : decode prog_14_method_71_code 56 = .ok (.iinc 5 1, 3) := by decide +kernel
theorem d_M_sweep_59 : decode prog_14_method_71_code 59 = .ok (.goto (-39), 3) := by decide +kernel
theorem d_M_sweep_34 : decode prog_14_method_71_code 34 = .ok (.aload_n 0, 1) := by decide +kernel
theorem d_M_sweep_35 : decode prog_14_method_71_code 35 = .ok (.getfield 107, 3) := by decide +kernel
theorem d_M_sweep_38 : decode prog_14_method_71_code 38 = .ok (.iload_n 1, 1) := by decide +kernel
theorem d_M_sweep_39 : decode prog_14_method_71_code 39 = .ok (.iload_n 3, 1) := by decide +kernel
theorem d_M_sweep_40 : decode prog_14_method_71_code 40 = .ok (.iload 5, 2) := by decide +kernel
theorem d_M_sweep_42 : decode prog_14_method_71_code 42 = .ok (.invokestatic 397, 3) := by decide +kernel
theorem d_M_sweep_45 : decode prog_14_method_71_code 45 = .ok (.baload, 1) := by decide +kernel
theorem d_M_sweep_46 : decode prog_14_method_71_code 46 = .ok (.ifCond .eq 7, 3) := by decide +kernel
theorem d_M_sweep_53 : decode prog_14_method_71_code 53 = .ok (.iconst 0, 1) := by decide +kernel
set_option maxHeartbeats 4000000 in
set_option maxRecDepth 100000 in
theorem k_sweep (l : Launch) (D : va_G) (dA : Nat → ClassId) (sz : Nat) (h : Nat) (ad : Nat → Nat) (x : MS) (t : Nat) (b : Nat) (i9 : Nat → Bool) (c9 : Nat → Int64) (r9x : Nat → Nat) (h1 : t < 20) (h2 : x.windows ≤ 64) (h3 : x.tableRows t ≤ 256) (hsw : swG x.isCell x.cells x.rowSeries t x.windows (x.tableRows t) = (b, i9, c9, r9x)) : Met l ⟨"SeriesVaultModel", "sweep", "(I)V"⟩ [Cond.code ⟨"SeriesVaultModel", "sweep", "(I)V"⟩ prog_14_method_71_code 6 none] { frames := 2, cells := 0, slots := 0, locals := 22 } (pC D dA [.ref h, .int (nI t)] (MW dA h ad x) sz) (va_Qv (fun (u9 : Unit) => True) (fun (u9 : Unit) t9 => bW D (va_A (MW dA h ad x) sz) (MW dA h ad (MS.s_isCell (MS.s_cells (MS.s_rowSeries (MS.s_tableRows x (va_up x.tableRows t b)) r9x) c9) i9)) t9) (va_A (MW dA h ad x) sz)) 0 0 (va_A (MW dA h ad x) sz) := by
  refine mkC (y := ⟨"SeriesVaultModel", "sweep", "(I)V"⟩) (cc := prog_14_method_71_code) (maxL := 6) (av := [.ref h, .int (nI t)]) (ws := MW dA h ad x) (sz := sz) (Qc := fun A => va_Qv (fun (u9 : Unit) => True) (fun (u9 : Unit) t9 => bW D A (MW dA h ad (MS.s_isCell (MS.s_cells (MS.s_rowSeries (MS.s_tableRows x (va_up x.tableRows t b)) r9x) c9) i9)) t9) A) (by decide) (Nat.le_of_ble_eq_true rfl) ?_
  intro A p e s m below meth c ls hsz hB
  obtain ⟨hx, hb, hr, hml, hown, hin, hlk, hE, hK, hP, hD, hS, hA, hN, hl⟩ := hB
  have hown : s.vm.findClass "SeriesVaultModel" = some m.cls := hown
  have hl : lv_has ls 6 [(0, .ref h), (1, .int (nI t))] := hl
  obtain ⟨H, hH⟩ : ∃ z, z = s.heap := ⟨_, rfl⟩
  have hP : va_P D vwCl (MW dA h ad x) H := by rw [hH]; exact hP
  have hS : va_S A s.heap H [] := by rw [hH]; exact hS
  rw [← hH]
  refine lv_iconst (v := 0) hx hb d_M_sweep_0 (by decide) ?_
  refine lv_istore_n hx hb d_M_sweep_1 rfl hl (by decide) rfl (fun ls hl => ?_)
  have hl : lv_has ls 6 [(2, .int 0), (0, .ref h), (1, .int (nI t))] := hl
  refine lv_iconst (v := 0) hx hb d_M_sweep_2 (by decide) ?_
  refine lv_istore_n hx hb d_M_sweep_3 rfl hl (by decide) rfl (fun ls hl => ?_)
  have hl : lv_has ls 6 [(3, .int 0), (2, .int 0), (0, .ref h), (1, .int (nI t))] := hl
  have L4 : ∀ (k9 : Nat) (r : Nat) (n : Nat) (i2 : Nat → Bool) (c2 : Nat → Int64) (r2 : Nat → Nat) (i1 : r ≤ x.tableRows t) (ie : swG x.isCell x.cells x.rowSeries t x.windows r = (n, i2, c2, r2)) (in_ : n ≤ r) (hk9 : x.tableRows t - r = k9), ∀ (H : Heap) (locs : List Loc) (ls : Array Slot) (hP : va_P D vwCl (MW dA h ad (MS.s_isCell (MS.s_cells (MS.s_rowSeries x r2) c2) i2)) H) (hD : va_D A (MW dA h ad (MS.s_isCell (MS.s_cells (MS.s_rowSeries x r2) c2) i2))) (hS : va_S A s.heap H locs) (hl : lv_has ls 6 [(3, .int (nI r)), (2, .int (nI n)), (1, .int (nI t)), (0, .ref h)]), W p l e ({ frames := 2, cells := 0, slots := 0, locals := 22 } : Room) s m ([.ref h, .int (nI t)] : List Value).toArray below meth c H locs 0 0 (MQ below (va_Qv (fun (u9 : Unit) => True) (fun (u9 : Unit) t9 => bW D A (MW dA h ad (MS.s_isCell (MS.s_cells (MS.s_rowSeries (MS.s_tableRows x (va_up x.tableRows t b)) r9x) c9) i9)) t9) A) ([.ref h, .int (nI t)] : List Value).toArray s 0 0 A) (F0 m 4 ls []) := by
    intro k9
    induction k9 using Nat.strongRecOn with
    | ind k9 ih4 =>
      intro r n i2 c2 r2 i1 ie in_ hk9 H locs ls hP hD hS hl
      refine lv_iload_n hx hb d_M_sweep_4 rfl (lv_at hl 0 rfl) ?_
      refine lv_aload_n hx hb d_M_sweep_5 rfl (lv_at hl 3 rfl) ?_
      refine gF (v := .ref (ad 51)) hx hb hown hE hK hP 0 rfl rfl layM 51 (by decide) w521 rfl d_M_sweep_6 ?_
      refine lv_iload_n hx hb d_M_sweep_9 rfl (lv_at hl 2 rfl) ?_
      refine nild (f := (fun z9 => nI (x.tableRows z9))) hx hb hK hP 24 1 rfl rfl (t) (by omega) (by decide) d_M_sweep_10 ?_
      refine lv_icmp_ge hx hb d_M_sweep_11 (tgt := 169) rfl (fun g1 => ?_) (fun g1 => ?_)
      · have g1 := (nI_leI (a := x.tableRows t) (b := r) (by omega) (by omega)).mp g1
        have ie2 : (b, i9, c9, r9x) = (n, i2, c2, r2) := by rw [← hsw, ← show r = x.tableRows t by omega]; exact ie
        obtain ⟨q1, q2, q3, q4⟩ : b = n ∧ i9 = i2 ∧ c9 = c2 ∧ r9x = r2 := ⟨congrArg (fun z => z.1) ie2, congrArg (fun z => z.2.1) ie2, congrArg (fun z => z.2.2.1) ie2, congrArg (fun z => z.2.2.2) ie2⟩
        refine lv_aload_n hx hb d_M_sweep_169 rfl (lv_at hl 3 rfl) ?_
        refine gF (v := .ref (ad 51)) hx hb hown hE hK hP 0 rfl rfl layM 51 (by decide) w521 rfl d_M_sweep_170 ?_
        refine lv_iload_n hx hb d_M_sweep_173 rfl (lv_at hl 2 rfl) ?_
        refine lv_iload_n hx hb d_M_sweep_174 rfl (lv_at hl 1 rfl) ?_
        refine nistN (v := n) hx hb hK hP hD hS 24 1 rfl rfl (t) (by omega) (by decide) d_M_sweep_175 (fun H locs hP hD hS => ?_)
        have hP : va_P D vwCl (MW dA h ad (MS.s_isCell (MS.s_cells (MS.s_rowSeries (MS.s_tableRows x (va_up x.tableRows t n)) r2) c2) i2)) H := hP
        have hD : va_D A (MW dA h ad (MS.s_isCell (MS.s_cells (MS.s_rowSeries (MS.s_tableRows x (va_up x.tableRows t n)) r2) c2) i2)) := hD
        have e9 : (MS.s_isCell (MS.s_cells (MS.s_rowSeries (MS.s_tableRows x (va_up x.tableRows t n)) r2) c2) i2 : MS) = MS.s_isCell (MS.s_cells (MS.s_rowSeries (MS.s_tableRows x (va_up x.tableRows t b)) r9x) c9) i9 := by rw [show (va_up x.tableRows t b) = (va_up x.tableRows t n) from by (rw [q1]), show r9x = r2 from by (exact q4), show c9 = c2 from by (exact q3), show i9 = i2 from by (exact q2)] <;> rfl
        exact rfV hx hb hr hlk hS () trivial (cvP e9 hP) (cvD e9 hD) (Nat.le_of_ble_eq_true rfl) (Nat.le_of_ble_eq_true rfl) d_M_sweep_176
      · have g1 := mt (nI_leI (a := x.tableRows t) (b := r) (by omega) (by omega)).mpr g1
        have J62 : ∀ (v : Bool) (m3 : anyB x.windows (fun w => i2 (cA t r + w)) = v), ∀ (H : Heap) (locs : List Loc) (ls : Array Slot) (hP : va_P D vwCl (MW dA h ad (MS.s_isCell (MS.s_cells (MS.s_rowSeries x r2) c2) i2)) H) (hD : va_D A (MW dA h ad (MS.s_isCell (MS.s_cells (MS.s_rowSeries x r2) c2) i2))) (hS : va_S A s.heap H locs) (hl : lv_has ls 6 [(4, .int (bI v)), (3, .int (nI r)), (2, .int (nI n)), (1, .int (nI t)), (0, .ref h)]), W p l e ({ frames := 2, cells := 0, slots := 0, locals := 22 } : Room) s m ([.ref h, .int (nI t)] : List Value).toArray below meth c H locs 0 0 (MQ below (va_Qv (fun (u9 : Unit) => True) (fun (u9 : Unit) t9 => bW D A (MW dA h ad (MS.s_isCell (MS.s_cells (MS.s_rowSeries (MS.s_tableRows x (va_up x.tableRows t b)) r9x) c9) i9)) t9) A) ([.ref h, .int (nI t)] : List Value).toArray s 0 0 A) (F0 m 62 ls []) := by
          intro v m3 H locs ls hP hD hS hl
          refine lv_iload hx hb d_M_sweep_62 (lv_at hl 0 rfl) ?_
          refine lv_if_ne hx hb d_M_sweep_64 (tgt := 70) rfl (fun g2 => ?_) (fun g2 => ?_)
          · have g2 := bI_n0 g2
            refine lv_iconst (v := 0) hx hb d_M_sweep_70 (by decide) ?_
            refine lv_istore hx hb d_M_sweep_71 hl (by decide) rfl (fun ls hl => ?_)
            have hl : lv_has ls 6 [(5, .int 0), (4, .int (bI v)), (3, .int (nI r)), (2, .int (nI n)), (1, .int (nI t)), (0, .ref h)] := hl
            have L73 : ∀ (k9 : Nat) (k : Nat) (m1 : k ≤ x.windows) (hk9 : x.windows - k = k9), ∀ (H : Heap) (locs : List Loc) (ls : Array Slot) (hP : va_P D vwCl (MW dA h ad (MS.s_isCell (MS.s_cells (MS.s_rowSeries x r2) (mvG c2 (cA t n) (cA t r) k)) (mvG i2 (cA t n) (cA t r) k))) H) (hD : va_D A (MW dA h ad (MS.s_isCell (MS.s_cells (MS.s_rowSeries x r2) (mvG c2 (cA t n) (cA t r) k)) (mvG i2 (cA t n) (cA t r) k)))) (hS : va_S A s.heap H locs) (hl : lv_has ls 6 [(5, .int (nI k)), (3, .int (nI r)), (2, .int (nI n)), (1, .int (nI t)), (0, .ref h)]), W p l e ({ frames := 2, cells := 0, slots := 0, locals := 22 } : Room) s m ([.ref h, .int (nI t)] : List Value).toArray below meth c H locs 0 0 (MQ below (va_Qv (fun (u9 : Unit) => True) (fun (u9 : Unit) t9 => bW D A (MW dA h ad (MS.s_isCell (MS.s_cells (MS.s_rowSeries (MS.s_tableRows x (va_up x.tableRows t b)) r9x) c9) i9)) t9) A) ([.ref h, .int (nI t)] : List Value).toArray s 0 0 A) (F0 m 73 ls []) := by
              intro k9
              induction k9 using Nat.strongRecOn with
              | ind k9 ih73 =>
                intro k m1 hk9 H locs ls hP hD hS hl
                refine lv_iload hx hb d_M_sweep_73 (lv_at hl 0 rfl) ?_
                refine lv_aload_n hx hb d_M_sweep_75 rfl (lv_at hl 4 rfl) ?_
                refine gF (v := .int (nI x.windows)) hx hb hown hE hK hP 0 rfl rfl layM 59 (by decide) w489 rfl d_M_sweep_76 ?_
                refine lv_icmp_ge hx hb d_M_sweep_79 (tgt := 136) rfl (fun g3 => ?_) (fun g3 => ?_)
                · have g3 := (nI_leI (a := x.windows) (b := k) (by omega) (by omega)).mp g3
                  refine lv_aload_n hx hb d_M_sweep_136 rfl (lv_at hl 4 rfl) ?_
                  refine gF (v := .ref (ad 52)) hx hb hown hE hK hP 0 rfl rfl layM 52 (by decide) w522 rfl d_M_sweep_137 ?_
                  refine lv_sipush (v := 256) hx hb d_M_sweep_140 (by decide) ?_
                  refine lv_iload_n hx hb d_M_sweep_143 rfl (lv_at hl 3 rfl) ?_
                  refine lv_imul hx hb d_M_sweep_144 (tpi (y := nI (256 * t)) (pk_mul (256) (t)) ?_)
                  refine lv_iload_n hx hb d_M_sweep_145 rfl (lv_at hl 2 rfl) ?_
                  refine lv_iadd hx hb d_M_sweep_146 (tpi (y := nI ((256 * t) + n)) (nI_add (256 * t) (n)) ?_)
                  refine lv_aload_n hx hb d_M_sweep_147 rfl (lv_at hl 4 rfl) ?_
                  refine gF (v := .ref (ad 52)) hx hb hown hE hK hP 0 rfl rfl layM 52 (by decide) w522 rfl d_M_sweep_148 ?_
                  refine lv_sipush (v := 256) hx hb d_M_sweep_151 (by decide) ?_
                  refine lv_iload_n hx hb d_M_sweep_154 rfl (lv_at hl 3 rfl) ?_
                  refine lv_imul hx hb d_M_sweep_155 (tpi (y := nI (256 * t)) (pk_mul (256) (t)) ?_)
                  refine lv_iload_n hx hb d_M_sweep_156 rfl (lv_at hl 1 rfl) ?_
                  refine lv_iadd hx hb d_M_sweep_157 (tpi (y := nI ((256 * t) + r)) (nI_add (256 * t) (r)) ?_)
                  refine nild (f := (fun z9 => nI (r2 z9))) hx hb hK hP 25 1 rfl rfl ((256 * t) + r) (by omega) (by decide) d_M_sweep_158 ?_
                  refine nistN (v := r2 ((256 * t) + r)) hx hb hK hP hD hS 25 1 rfl rfl ((256 * t) + n) (by omega) (by decide) d_M_sweep_159 (fun H locs hP hD hS => ?_)
                  have hP : va_P D vwCl (MW dA h ad (MS.s_isCell (MS.s_cells (MS.s_rowSeries x (va_up r2 ((256 * t) + n) (r2 ((256 * t) + r)))) (mvG c2 (cA t n) (cA t r) k)) (mvG i2 (cA t n) (cA t r) k))) H := hP
                  have hD : va_D A (MW dA h ad (MS.s_isCell (MS.s_cells (MS.s_rowSeries x (va_up r2 ((256 * t) + n) (r2 ((256 * t) + r)))) (mvG c2 (cA t n) (cA t r) k)) (mvG i2 (cA t n) (cA t r) k))) := hD
                  have sn9 : swG x.isCell x.cells x.rowSeries t x.windows (r + 1) = (n + 1, mvG i2 (cA t n) (cA t r) k, mvG c2 (cA t n) (cA t r) k, va_up r2 (256 * t + n) (r2 (256 * t + r))) := by rw [show k = x.windows by omega]; exact swG_t ie (m3.trans g2)
                  refine lv_iinc (k := 2) (v := nI (n + 1)) hx hb d_M_sweep_160 hl rfl (iincN (n) 1 1 (by decide)) (by decide) rfl (fun ls hl => ?_)
                  have hl : lv_has ls 6 [(2, .int (nI (n + 1))), (5, .int (nI k)), (3, .int (nI r)), (1, .int (nI t)), (0, .ref h)] := hl
                  refine lv_iinc (k := 2) (v := nI (r + 1)) hx hb d_M_sweep_163 hl rfl (iincN (r) 1 1 (by decide)) (by decide) rfl (fun ls hl => ?_)
                  have hl : lv_has ls 6 [(3, .int (nI (r + 1))), (2, .int (nI (n + 1))), (5, .int (nI k)), (1, .int (nI t)), (0, .ref h)] := hl
                  refine lv_goto hx hb d_M_sweep_166 (tgt := 4) rfl ?_
                  exact ih4 _ (by omega) (r + 1) (n + 1) (mvG i2 (cA t n) (cA t r) k) (mvG c2 (cA t n) (cA t r) k) (va_up r2 ((256 * t) + n) (r2 ((256 * t) + r))) (by omega) sn9 (by omega) rfl H _ ls hP hD hS (lv_sub hl [0, 1, 3, 4] rfl)
                · have g3 := mt (nI_leI (a := x.windows) (b := k) (by omega) (by omega)).mpr g3
                  refine lv_aload_n hx hb d_M_sweep_82 rfl (lv_at hl 4 rfl) ?_
                  refine gF (v := .ref (ad 54)) hx hb hown hE hK hP 0 rfl rfl layM 54 (by decide) w526 rfl d_M_sweep_83 ?_
                  refine lv_iload_n hx hb d_M_sweep_86 rfl (lv_at hl 3 rfl) ?_
                  refine lv_iload_n hx hb d_M_sweep_87 rfl (lv_at hl 2 rfl) ?_
                  refine lv_iload hx hb d_M_sweep_88 (lv_at hl 0 rfl) ?_
                  have hPc := hP.sub (ws' := []) [] rfl
                  have hDc := hD.sub (ws' := []) [] (by decide) rfl
                  refine jnI (rnS (As := [.int (nI t), .int (nI n), .int (nI k)]) (rest := [.ref (ad 54)]) hx hb hml hown hE hK (hN _ _ hS) hPc hDc (k_cellAt l D dA H.size t n k) w971 w970 w972 w328 rfl rfl ⟨⟨by decide, by decide⟩, rfl⟩ ⟨(Nat.le_of_ble_eq_true rfl), (Nat.le_of_ble_eq_true rfl)⟩ rfl hl.1 rfl (Nat.le_of_ble_eq_true rfl) d_M_sweep_90 ⟨(Nat.le_of_ble_eq_true rfl), (Nat.le_of_ble_eq_true rfl)⟩) hP hD hS hA [] [0, 1, 2, 3, 4, 5, 6, 7, 8, 9, 10, 11, 12, 13, 14, 15, 16, 17, 18, 19, 20, 21, 22, 23, 24, 25, 26, 27, 28, 29, 30, 31, 32, 33, 34, 35, 36, 37, 38] (wr := MW dA h ad (MS.s_isCell (MS.s_cells (MS.s_rowSeries x r2) (mvG c2 (cA t n) (cA t r) k)) (mvG i2 (cA t n) (cA t r) k))) rfl rfl (by decide) (by decide) (fun r4 u9 H locs hp9 hP hD hS => ?_)
                  have hP : va_P D vwCl (MW dA h ad (MS.s_isCell (MS.s_cells (MS.s_rowSeries x r2) (mvG c2 (cA t n) (cA t r) k)) (mvG i2 (cA t n) (cA t r) k))) H := hP
                  have hD : va_D A (MW dA h ad (MS.s_isCell (MS.s_cells (MS.s_rowSeries x r2) (mvG c2 (cA t n) (cA t r) k)) (mvG i2 (cA t n) (cA t r) k))) := hD
                  replace hp9 : nI ((t * 256 + n) * 64 + k) = r4 := Eq.symm hp9
                  subst hp9
                  refine lv_aload_n hx hb d_M_sweep_93 rfl (lv_at hl 4 rfl) ?_
                  refine gF (v := .ref (ad 54)) hx hb hown hE hK hP 0 rfl rfl layM 54 (by decide) w526 rfl d_M_sweep_94 ?_
                  refine lv_iload_n hx hb d_M_sweep_97 rfl (lv_at hl 3 rfl) ?_
                  refine lv_iload_n hx hb d_M_sweep_98 rfl (lv_at hl 1 rfl) ?_
                  refine lv_iload hx hb d_M_sweep_99 (lv_at hl 0 rfl) ?_
                  have hPc := hP.sub (ws' := []) [] rfl
                  have hDc := hD.sub (ws' := []) [] (by decide) rfl
                  refine jnI (rnS (As := [.int (nI t), .int (nI r), .int (nI k)]) (rest := [.ref (ad 54), .int (nI ((t * 256 + n) * 64 + k)), .ref (ad 54)]) hx hb hml hown hE hK (hN _ _ hS) hPc hDc (k_cellAt l D dA H.size t r k) w971 w970 w972 w328 rfl rfl ⟨⟨by decide, by decide⟩, rfl⟩ ⟨(Nat.le_of_ble_eq_true rfl), (Nat.le_of_ble_eq_true rfl)⟩ rfl hl.1 rfl (Nat.le_of_ble_eq_true rfl) d_M_sweep_101 ⟨(Nat.le_of_ble_eq_true rfl), (Nat.le_of_ble_eq_true rfl)⟩) hP hD hS hA [] [0, 1, 2, 3, 4, 5, 6, 7, 8, 9, 10, 11, 12, 13, 14, 15, 16, 17, 18, 19, 20, 21, 22, 23, 24, 25, 26, 27, 28, 29, 30, 31, 32, 33, 34, 35, 36, 37, 38] (wr := MW dA h ad (MS.s_isCell (MS.s_cells (MS.s_rowSeries x r2) (mvG c2 (cA t n) (cA t r) k)) (mvG i2 (cA t n) (cA t r) k))) rfl rfl (by decide) (by decide) (fun r6 u9 H locs hp9 hP hD hS => ?_)
                  have hP : va_P D vwCl (MW dA h ad (MS.s_isCell (MS.s_cells (MS.s_rowSeries x r2) (mvG c2 (cA t n) (cA t r) k)) (mvG i2 (cA t n) (cA t r) k))) H := hP
                  have hD : va_D A (MW dA h ad (MS.s_isCell (MS.s_cells (MS.s_rowSeries x r2) (mvG c2 (cA t n) (cA t r) k)) (mvG i2 (cA t n) (cA t r) k))) := hD
                  replace hp9 : nI ((t * 256 + r) * 64 + k) = r6 := Eq.symm hp9
                  subst hp9
                  refine nzld (f := (fun z9 => bI ((mvG i2 (cA t n) (cA t r) k) z9))) hx hb hK hP 27 3 rfl rfl ((t * 256 + r) * 64 + k) (by omega) (by decide) d_M_sweep_104 ?_
                  refine nzstB (v := (mvG i2 (cA t n) (cA t r) k) ((t * 256 + r) * 64 + k)) hx hb hK hP hD hS 27 3 rfl rfl ((t * 256 + n) * 64 + k) (by omega) (by decide) d_M_sweep_105 (fun H locs hP hD hS => ?_)
                  have hP : va_P D vwCl (MW dA h ad (MS.s_isCell (MS.s_cells (MS.s_rowSeries x r2) (mvG c2 (cA t n) (cA t r) k)) (va_up (mvG i2 (cA t n) (cA t r) k) ((t * 256 + n) * 64 + k) ((mvG i2 (cA t n) (cA t r) k) ((t * 256 + r) * 64 + k))))) H := hP
                  have hD : va_D A (MW dA h ad (MS.s_isCell (MS.s_cells (MS.s_rowSeries x r2) (mvG c2 (cA t n) (cA t r) k)) (va_up (mvG i2 (cA t n) (cA t r) k) ((t * 256 + n) * 64 + k) ((mvG i2 (cA t n) (cA t r) k) ((t * 256 + r) * 64 + k))))) := hD
                  refine lv_aload_n hx hb d_M_sweep_106 rfl (lv_at hl 4 rfl) ?_
                  refine gF (v := .ref (ad 53)) hx hb hown hE hK hP 0 rfl rfl layM 53 (by decide) w524 rfl d_M_sweep_107 ?_
                  refine lv_iload_n hx hb d_M_sweep_110 rfl (lv_at hl 3 rfl) ?_
                  refine lv_iload_n hx hb d_M_sweep_111 rfl (lv_at hl 2 rfl) ?_
                  refine lv_iload hx hb d_M_sweep_112 (lv_at hl 0 rfl) ?_
                  have hPc := hP.sub (ws' := []) [] rfl
                  have hDc := hD.sub (ws' := []) [] (by decide) rfl
                  refine jnI (rnS (As := [.int (nI t), .int (nI n), .int (nI k)]) (rest := [.ref (ad 53)]) hx hb hml hown hE hK (hN _ _ hS) hPc hDc (k_cellAt l D dA H.size t n k) w971 w970 w972 w328 rfl rfl ⟨⟨by decide, by decide⟩, rfl⟩ ⟨(Nat.le_of_ble_eq_true rfl), (Nat.le_of_ble_eq_true rfl)⟩ rfl hl.1 rfl (Nat.le_of_ble_eq_true rfl) d_M_sweep_114 ⟨(Nat.le_of_ble_eq_true rfl), (Nat.le_of_ble_eq_true rfl)⟩) hP hD hS hA [] [0, 1, 2, 3, 4, 5, 6, 7, 8, 9, 10, 11, 12, 13, 14, 15, 16, 17, 18, 19, 20, 21, 22, 23, 24, 25, 26, 27, 28, 29, 30, 31, 32, 33, 34, 35, 36, 37, 38] (wr := MW dA h ad (MS.s_isCell (MS.s_cells (MS.s_rowSeries x r2) (mvG c2 (cA t n) (cA t r) k)) (va_up (mvG i2 (cA t n) (cA t r) k) ((t * 256 + n) * 64 + k) ((mvG i2 (cA t n) (cA t r) k) ((t * 256 + r) * 64 + k))))) rfl rfl (by decide) (by decide) (fun r8 u9 H locs hp9 hP hD hS => ?_)
                  have hP : va_P D vwCl (MW dA h ad (MS.s_isCell (MS.s_cells (MS.s_rowSeries x r2) (mvG c2 (cA t n) (cA t r) k)) (va_up (mvG i2 (cA t n) (cA t r) k) ((t * 256 + n) * 64 + k) ((mvG i2 (cA t n) (cA t r) k) ((t * 256 + r) * 64 + k))))) H := hP
                  have hD : va_D A (MW dA h ad (MS.s_isCell (MS.s_cells (MS.s_rowSeries x r2) (mvG c2 (cA t n) (cA t r) k)) (va_up (mvG i2 (cA t n) (cA t r) k) ((t * 256 + n) * 64 + k) ((mvG i2 (cA t n) (cA t r) k) ((t * 256 + r) * 64 + k))))) := hD
                  replace hp9 : nI ((t * 256 + n) * 64 + k) = r8 := Eq.symm hp9
                  subst hp9
                  refine lv_aload_n hx hb d_M_sweep_117 rfl (lv_at hl 4 rfl) ?_
                  refine gF (v := .ref (ad 53)) hx hb hown hE hK hP 0 rfl rfl layM 53 (by decide) w524 rfl d_M_sweep_118 ?_
                  refine lv_iload_n hx hb d_M_sweep_121 rfl (lv_at hl 3 rfl) ?_
                  refine lv_iload_n hx hb d_M_sweep_122 rfl (lv_at hl 1 rfl) ?_
                  refine lv_iload hx hb d_M_sweep_123 (lv_at hl 0 rfl) ?_
                  have hPc := hP.sub (ws' := []) [] rfl
                  have hDc := hD.sub (ws' := []) [] (by decide) rfl
                  refine jnI (rnS (As := [.int (nI t), .int (nI r), .int (nI k)]) (rest := [.ref (ad 53), .int (nI ((t * 256 + n) * 64 + k)), .ref (ad 53)]) hx hb hml hown hE hK (hN _ _ hS) hPc hDc (k_cellAt l D dA H.size t r k) w971 w970 w972 w328 rfl rfl ⟨⟨by decide, by decide⟩, rfl⟩ ⟨(Nat.le_of_ble_eq_true rfl), (Nat.le_of_ble_eq_true rfl)⟩ rfl hl.1 rfl (Nat.le_of_ble_eq_true rfl) d_M_sweep_125 ⟨(Nat.le_of_ble_eq_true rfl), (Nat.le_of_ble_eq_true rfl)⟩) hP hD hS hA [] [0, 1, 2, 3, 4, 5, 6, 7, 8, 9, 10, 11, 12, 13, 14, 15, 16, 17, 18, 19, 20, 21, 22, 23, 24, 25, 26, 27, 28, 29, 30, 31, 32, 33, 34, 35, 36, 37, 38] (wr := MW dA h ad (MS.s_isCell (MS.s_cells (MS.s_rowSeries x r2) (mvG c2 (cA t n) (cA t r) k)) (va_up (mvG i2 (cA t n) (cA t r) k) ((t * 256 + n) * 64 + k) ((mvG i2 (cA t n) (cA t r) k) ((t * 256 + r) * 64 + k))))) rfl rfl (by decide) (by decide) (fun r10 u9 H locs hp9 hP hD hS => ?_)
                  have hP : va_P D vwCl (MW dA h ad (MS.s_isCell (MS.s_cells (MS.s_rowSeries x r2) (mvG c2 (cA t n) (cA t r) k)) (va_up (mvG i2 (cA t n) (cA t r) k) ((t * 256 + n) * 64 + k) ((mvG i2 (cA t n) (cA t r) k) ((t * 256 + r) * 64 + k))))) H := hP
                  have hD : va_D A (MW dA h ad (MS.s_isCell (MS.s_cells (MS.s_rowSeries x r2) (mvG c2 (cA t n) (cA t r) k)) (va_up (mvG i2 (cA t n) (cA t r) k) ((t * 256 + n) * 64 + k) ((mvG i2 (cA t n) (cA t r) k) ((t * 256 + r) * 64 + k))))) := hD
                  replace hp9 : nI ((t * 256 + r) * 64 + k) = r10 := Eq.symm hp9
                  subst hp9
                  refine nlld (f := (mvG c2 (cA t n) (cA t r) k)) hx hb hK hP 26 2 rfl rfl ((t * 256 + r) * 64 + k) (by omega) (by decide) d_M_sweep_128 ?_
                  refine nlst hx hb hK hP hD hS 26 2 rfl rfl ((t * 256 + n) * 64 + k) (by omega) (by decide) d_M_sweep_129 (fun H locs hP hD hS => ?_)
                  have hP : va_P D vwCl (MW dA h ad (MS.s_isCell (MS.s_cells (MS.s_rowSeries x r2) (va_up (mvG c2 (cA t n) (cA t r) k) ((t * 256 + n) * 64 + k) ((mvG c2 (cA t n) (cA t r) k) ((t * 256 + r) * 64 + k)))) (va_up (mvG i2 (cA t n) (cA t r) k) ((t * 256 + n) * 64 + k) ((mvG i2 (cA t n) (cA t r) k) ((t * 256 + r) * 64 + k))))) H := hP
                  have hD : va_D A (MW dA h ad (MS.s_isCell (MS.s_cells (MS.s_rowSeries x r2) (va_up (mvG c2 (cA t n) (cA t r) k) ((t * 256 + n) * 64 + k) ((mvG c2 (cA t n) (cA t r) k) ((t * 256 + r) * 64 + k)))) (va_up (mvG i2 (cA t n) (cA t r) k) ((t * 256 + n) * 64 + k) ((mvG i2 (cA t n) (cA t r) k) ((t * 256 + r) * 64 + k))))) := hD
                  refine lv_iinc (k := 0) (v := nI (k + 1)) hx hb d_M_sweep_130 hl rfl (iincN (k) 1 1 (by decide)) (by decide) rfl (fun ls hl => ?_)
                  have hl : lv_has ls 6 [(5, .int (nI (k + 1))), (3, .int (nI r)), (2, .int (nI n)), (1, .int (nI t)), (0, .ref h)] := hl
                  refine lv_goto hx hb d_M_sweep_133 (tgt := 73) rfl ?_
                  exact ih73 _ (by omega) (k + 1) (by omega) rfl H _ ls hP hD hS (lv_sub hl [0, 1, 2, 3, 4] rfl)
            exact L73 _ 0 (Nat.zero_le _) rfl H _ ls hP hD hS (lv_sub hl [0, 2, 3, 4, 5] rfl)
          · have g2 := bI_0 g2
            refine lv_goto hx hb d_M_sweep_67 (tgt := 163) rfl ?_
            refine lv_iinc (k := 1) (v := nI (r + 1)) hx hb d_M_sweep_163 hl rfl (iincN (r) 1 1 (by decide)) (by decide) rfl (fun ls hl => ?_)
            have hl : lv_has ls 6 [(3, .int (nI (r + 1))), (4, .int (bI v)), (2, .int (nI n)), (1, .int (nI t)), (0, .ref h)] := hl
            refine lv_goto hx hb d_M_sweep_166 (tgt := 4) rfl ?_
            exact ih4 _ (by omega) (r + 1) n i2 c2 r2 (by omega) (swG_f ie (m3.trans g2)) (by omega) rfl H _ ls hP hD hS (lv_sub hl [0, 2, 3, 4] rfl)
        refine lv_iconst (v := 0) hx hb d_M_sweep_14 (by decide) ?_
        refine lv_istore hx hb d_M_sweep_15 hl (by decide) rfl (fun ls hl => ?_)
        have hl : lv_has ls 6 [(4, .int 0), (3, .int (nI r)), (2, .int (nI n)), (1, .int (nI t)), (0, .ref h)] := hl
        refine lv_iconst (v := 0) hx hb d_M_sweep_17 (by decide) ?_
        refine lv_istore hx hb d_M_sweep_18 hl (by decide) rfl (fun ls hl => ?_)
        have hl : lv_has ls 6 [(5, .int 0), (4, .int 0), (3, .int (nI r)), (2, .int (nI n)), (1, .int (nI t)), (0, .ref h)] := hl
        have L20 : ∀ (k9 : Nat) (k : Nat) (v : Bool) (m1 : k ≤ x.windows) (m2 : anyB k (fun w => i2 (cA t r + w)) = v) (hk9 : x.windows - k = k9), ∀ (H : Heap) (locs : List Loc) (ls : Array Slot) (hP : va_P D vwCl (MW dA h ad (MS.s_isCell (MS.s_cells (MS.s_rowSeries x r2) c2) i2)) H) (hD : va_D A (MW dA h ad (MS.s_isCell (MS.s_cells (MS.s_rowSeries x r2) c2) i2))) (hS : va_S A s.heap H locs) (hl : lv_has ls 6 [(5, .int (nI k)), (4, .int (bI v)), (3, .int (nI r)), (2, .int (nI n)), (1, .int (nI t)), (0, .ref h)]), W p l e ({ frames := 2, cells := 0, slots := 0, locals := 22 } : Room) s m ([.ref h, .int (nI t)] : List Value).toArray below meth c H locs 0 0 (MQ below (va_Qv (fun (u9 : Unit) => True) (fun (u9 : Unit) t9 => bW D A (MW dA h ad (MS.s_isCell (MS.s_cells (MS.s_rowSeries (MS.s_tableRows x (va_up x.tableRows t b)) r9x) c9) i9)) t9) A) ([.ref h, .int (nI t)] : List Value).toArray s 0 0 A) (F0 m 20 ls []) := by
          intro k9
          induction k9 using Nat.strongRecOn with
          | ind k9 ih20 =>
            intro k v m1 m2 hk9 H locs ls hP hD hS hl
            refine lv_iload hx hb d_M_sweep_20 (lv_at hl 0 rfl) ?_
            refine lv_aload_n hx hb d_M_sweep_22 rfl (lv_at hl 5 rfl) ?_
            refine gF (v := .int (nI x.windows)) hx hb hown hE hK hP 0 rfl rfl layM 59 (by decide) w489 rfl d_M_sweep_23 ?_
            refine lv_icmp_ge hx hb d_M_sweep_26 (tgt := 62) rfl (fun g12 => ?_) (fun g12 => ?_)
            · have g12 := (nI_leI (a := x.windows) (b := k) (by omega) (by omega)).mp g12
              exact J62 v (by rw [← show k = x.windows by omega]; exact m2) H _ ls hP hD hS (lv_sub hl [1, 2, 3, 4, 5] rfl)
            · have g12 := mt (nI_leI (a := x.windows) (b := k) (by omega) (by omega)).mpr g12
              refine lv_iload hx hb d_M_sweep_29 (lv_at hl 1 rfl) ?_
              refine lv_if_ne hx hb d_M_sweep_31 (tgt := 49) rfl (fun g13 => ?_) (fun g13 => ?_)
              · have g13 := bI_n0 g13
                refine lv_iconst (v := 1) hx hb d_M_sweep_49 (by decide) ?_
                refine lv_goto hx hb d_M_sweep_50 (tgt := 54) rfl ?_
                refine lv_istore hx hb d_M_sweep_54 hl (by decide) rfl (fun ls hl => ?_)
                have hl : lv_has ls 6 [(4, .int 1), (5, .int (nI k)), (3, .int (nI r)), (2, .int (nI n)), (1, .int (nI t)), (0, .ref h)] := hl
                refine lv_iinc (k := 1) (v := nI (k + 1)) hx hb d_M_sweep_56 hl rfl (iincN (k) 1 1 (by decide)) (by decide) rfl (fun ls hl => ?_)
                have hl : lv_has ls 6 [(5, .int (nI (k + 1))), (4, .int 1), (3, .int (nI r)), (2, .int (nI n)), (1, .int (nI t)), (0, .ref h)] := hl
                refine lv_goto hx hb d_M_sweep_59 (tgt := 20) rfl ?_
                exact ih20 _ (by omega) (k + 1) true (by omega) (by rw [anyB_s, m2, g13]; rfl) rfl H _ ls hP hD hS (lv_sub hl [0, 1, 2, 3, 4, 5] rfl)
              · have g13 := bI_0 g13
                refine lv_aload_n hx hb d_M_sweep_34 rfl (lv_at hl 5 rfl) ?_
                refine gF (v := .ref (ad 54)) hx hb hown hE hK hP 0 rfl rfl layM 54 (by decide) w526 rfl d_M_sweep_35 ?_
                refine lv_iload_n hx hb d_M_sweep_38 rfl (lv_at hl 4 rfl) ?_
                refine lv_iload_n hx hb d_M_sweep_39 rfl (lv_at hl 2 rfl) ?_
                refine lv_iload hx hb d_M_sweep_40 (lv_at hl 0 rfl) ?_
                have hPc := hP.sub (ws' := []) [] rfl
                have hDc := hD.sub (ws' := []) [] (by decide) rfl
                refine jnI (rnS (As := [.int (nI t), .int (nI r), .int (nI k)]) (rest := [.ref (ad 54)]) hx hb hml hown hE hK (hN _ _ hS) hPc hDc (k_cellAt l D dA H.size t r k) w971 w970 w972 w328 rfl rfl ⟨⟨by decide, by decide⟩, rfl⟩ ⟨(Nat.le_of_ble_eq_true rfl), (Nat.le_of_ble_eq_true rfl)⟩ rfl hl.1 rfl (Nat.le_of_ble_eq_true rfl) d_M_sweep_42 ⟨(Nat.le_of_ble_eq_true rfl), (Nat.le_of_ble_eq_true rfl)⟩) hP hD hS hA [] [0, 1, 2, 3, 4, 5, 6, 7, 8, 9, 10, 11, 12, 13, 14, 15, 16, 17, 18, 19, 20, 21, 22, 23, 24, 25, 26, 27, 28, 29, 30, 31, 32, 33, 34, 35, 36, 37, 38] (wr := MW dA h ad (MS.s_isCell (MS.s_cells (MS.s_rowSeries x r2) c2) i2)) rfl rfl (by decide) (by decide) (fun r14 u9 H locs hp9 hP hD hS => ?_)
                have hP : va_P D vwCl (MW dA h ad (MS.s_isCell (MS.s_cells (MS.s_rowSeries x r2) c2) i2)) H := hP
                have hD : va_D A (MW dA h ad (MS.s_isCell (MS.s_cells (MS.s_rowSeries x r2) c2) i2)) := hD
                replace hp9 : nI ((t * 256 + r) * 64 + k) = r14 := Eq.symm hp9
                subst hp9
                refine nzld (f := (fun z9 => bI (i2 z9))) hx hb hK hP 27 3 rfl rfl ((t * 256 + r) * 64 + k) (by omega) (by decide) d_M_sweep_45 ?_
                refine lv_if_eq hx hb d_M_sweep_46 (tgt := 53) rfl (fun g16 => ?_) (fun g16 => ?_)
                · have g16 := bI_0 g16
                  refine lv_iconst (v := 0) hx hb d_M_sweep_53 (by decide) ?_
                  refine lv_istore hx hb d_M_sweep_54 hl (by decide) rfl (fun ls hl => ?_)
                  have hl : lv_has ls 6 [(4, .int 0), (5, .int (nI k)), (3, .int (nI r)), (2, .int (nI n)), (1, .int (nI t)), (0, .ref h)] := hl
                  refine lv_iinc (k := 1) (v := nI (k + 1)) hx hb d_M_sweep_56 hl rfl (iincN (k) 1 1 (by decide)) (by decide) rfl (fun ls hl => ?_)
                  have hl : lv_has ls 6 [(5, .int (nI (k + 1))), (4, .int 0), (3, .int (nI r)), (2, .int (nI n)), (1, .int (nI t)), (0, .ref h)] := hl
                  refine lv_goto hx hb d_M_sweep_59 (tgt := 20) rfl ?_
                  exact ih20 _ (by omega) (k + 1) false (by omega) (by rw [anyB_s, m2, g13, Bool.false_or]; exact g16) rfl H _ ls hP hD hS (lv_sub hl [0, 1, 2, 3, 4, 5] rfl)
                · have g16 := bI_n0 g16
                  refine lv_iconst (v := 1) hx hb d_M_sweep_49 (by decide) ?_
                  refine lv_goto hx hb d_M_sweep_50 (tgt := 54) rfl ?_
                  refine lv_istore hx hb d_M_sweep_54 hl (by decide) rfl (fun ls hl => ?_)
                  have hl : lv_has ls 6 [(4, .int 1), (5, .int (nI k)), (3, .int (nI r)), (2, .int (nI n)), (1, .int (nI t)), (0, .ref h)] := hl
                  refine lv_iinc (k := 1) (v := nI (k + 1)) hx hb d_M_sweep_56 hl rfl (iincN (k) 1 1 (by decide)) (by decide) rfl (fun ls hl => ?_)
                  have hl : lv_has ls 6 [(5, .int (nI (k + 1))), (4, .int 1), (3, .int (nI r)), (2, .int (nI n)), (1, .int (nI t)), (0, .ref h)] := hl
                  refine lv_goto hx hb d_M_sweep_59 (tgt := 20) rfl ?_
                  exact ih20 _ (by omega) (k + 1) true (by omega) (by rw [anyB_s, m2, g13, Bool.false_or]; exact g16) rfl H _ ls hP hD hS (lv_sub hl [0, 1, 2, 3, 4, 5] rfl)
        exact L20 _ 0 false (Nat.zero_le _) rfl rfl H _ ls hP hD hS (lv_sub hl [0, 1, 2, 3, 4, 5] rfl)
  exact L4 _ 0 0 x.isCell x.cells x.rowSeries (Nat.zero_le _) rfl (Nat.le_refl _) rfl H _ ls hP hD hS (lv_sub hl [0, 1, 3, 2] rfl)
end
section
abbrev jT : Type := (Nat → Bool) × (Nat → Int64)
/-- k cells joined one by one -/
def jrG (sg : Int32) (g : jT) (tw ta tb : Nat) : Nat → jT
  | 0 => g
  | k + 1 => (va_up (jrG sg g tw ta tb k).1 (tw + k) (jnB sg ((jrG sg g tw ta tb k).1 (ta + k)) ((jrG sg g tw ta tb k).1 (tb + k)) ((jrG sg g tw ta tb k).2 (tb + k))), va_up (jrG sg g tw ta tb k).2 (tw + k) (jnW sg (jnB sg ((jrG sg g tw ta tb k).1 (ta + k)) ((jrG sg g tw ta tb k).1 (tb + k)) ((jrG sg g tw ta tb k).2 (tb + k))) ((jrG sg g tw ta tb k).2 (ta + k)) ((jrG sg g tw ta tb k).2 (tb + k))))
theorem jrG_s {sg : Int32} {g : jT} {tw ta tb k : Nat} {i2 : Nat → Bool} {c2 : Nat → Int64} (h : jrG sg g tw ta tb k = (i2, c2)) : jrG sg g tw ta tb (k + 1) = (va_up i2 (tw + k) (jnB sg (i2 (ta + k)) (i2 (tb + k)) (c2 (tb + k))), va_up c2 (tw + k) (jnW sg (jnB sg (i2 (ta + k)) (i2 (tb + k)) (c2 (tb + k))) (c2 (ta + k)) (c2 (tb + k)))) := by
  unfold jrG
  rw [h]
/-- j rows from the last one down -/
def spG (sg : Int32) (g : jT) (a b n w : Nat) : Nat → jT
  | 0 => g
  | j + 1 => jrG sg (spG sg g a b n w j) (cA a (n - 1 - j)) (cA a 0) (cA b (n - 1 - j)) w
theorem d_M_spread_19 : decode prog_14_method_77_code 19 = .ok (.istore 4, 2) := by decide +kernel
theorem d_M_spread_84 : decode prog_14_method_77_code 84 = .ok (.iconst 0, 1) := by decide +kernel
theorem d_M_spread_85 : decode prog_14_method_77_code 85 = .ok (.istore 5, 2) := by decide +kernel
theorem d_M_spread_87 : decode prog_14_method_77_code 87 = .ok (.iload 5, 2) := by decide +kernel
theorem d_M_spread_89 : decode prog_14_method_77_code 89 = .ok (.iload 4, 2) := by decide +kernel
theorem d_M_spread_91 : decode prog_14_method_77_code 91 = .ok (.if_icmp .ge 35, 3) := by decide +kernel
theorem d_M_spread_126 : decode prog_14_method_77_code 126 = .ok (.aload_n 0, 1) := by decide +kernel
theorem d_M_spread_127 : decode prog_14_method_77_code 127 = .ok (.getfield 97, 3) := by decide +kernel
theorem d_M_spread_130 : decode prog_14_method_77_code 130 = .ok (.iload_n 2, 1) := by decide +kernel
theorem d_M_spread_131 : decode prog_14_method_77_code 131 = .ok (.iload 4, 2) := by decide +kernel
theorem d_M_spread_133 : decode prog_14_method_77_code 133 = .ok (.iastore, 1) := by decide +kernel
theorem d_M_spread_134 : decode prog_14_method_77_code 134 = .ok (.aload_n 0, 1) := by decide +kernel
theorem d_M_spread_135 : decode prog_14_method_77_code 135 = .ok (.getfield 88, 3) := by decide +kernel
theorem d_M_spread_138 : decode prog_14_method_77_code 138 = .ok (.iload_n 2, 1) := by decide +kernel
theorem d_M_spread_139 : decode prog_14_method_77_code 139 = .ok (.aload_n 0, 1) := by decide +kernel
theorem d_M_spread_140 : decode prog_14_method_77_code 140 = .ok (.getfield 88, 3) := by decide +kernel
theorem d_M_spread_143 : decode prog_14_method_77_code 143 = .ok (.iload_n 3, 1) := by decide +kernel
theorem d_M_spread_144 : decode prog_14_method_77_code 144 = .ok (.iaload, 1) := by decide +kernel
theorem d_M_spread_145 : decode prog_14_method_77_code 145 = .ok (.iastore, 1) := by decide +kernel
theorem d_M_spread_146 : decode prog_14_method_77_code 146 = .ok (.iconst 0, 1) := by decide +kernel
theorem d_M_spread_147 : decode prog_14_method_77_code 147 = .ok (.istore 5, 2) := by decide +kernel
theorem d_M_spread_149 : decode prog_14_method_77_code 149 = .ok (.iload 5, 2) := by decide +kernel
theorem d_M_spread_151 : decode prog_14_method_77_code 151 = .ok (.bipush 6, 2) := by decide +kernel
theorem d_M_spread_153 : decode prog_14_method_77_code 153 = .ok (.if_icmp .ge 57, 3) := by decide +kernel
theorem d_M_spread_210 : decode prog_14_method_77_code 210 = .ok (.return_, 1) := by decide +kernel
theorem d_M_spread_156 : decode prog_14_method_77_code 156 = .ok (.aload_n 0, 1) := by decide +kernel
theorem d_M_spread_157 : decode prog_14_method_77_code 157 = .ok (.getfield 91, 3) := by decide +kernel
theorem d_M_spread_160 : decode prog_14_method_77_code 160 = .ok (.bipush 6, 2) := by decide +kernel
theorem d_M_spread_162 : decode prog_14_method_77_code 162 = .ok (.iload_n 2, 1) := by decide +kernel
theorem d_M_spread_163 : decode prog_14_method_77_code 163 = .ok (.imul, 1) := by decide +kernel
theorem d_M_spread_164 : decode prog_14_method_77_code 164 = .ok (.iload 5, 2) := by decide +kernel
theorem d_M_spread_166 : decode prog_14_method_77_code 166 = .ok (.iadd, 1) := by decide +kernel
theorem d_M_spread_167 : decode prog_14_method_77_code 167 = .ok (.aload_n 0, 1) := by decide +kernel
theorem d_M_spread_168 : decode prog_14_method_77_code 168 = .ok (.getfield 91, 3) := by decide +kernel
theorem d_M_spread_171 : decode prog_14_method_77_code 171 = .ok (.bipush 6, 2) := by decide +kernel
theorem d_M_spread_173 : decode prog_14_method_77_code 173 = .ok (.iload_n 3, 1) := by decide +kernel
theorem d_M_spread_174 : decode prog_14_method_77_code 174 = .ok (.imul, 1) := by decide +kernel
theorem d_M_spread_175 : decode prog_14_method_77_code 175 = .ok (.iload 5, 2) := by decide +kernel
theorem d_M_spread_177 : decode prog_14_method_77_code 177 = .ok (.iadd, 1) := by decide +kernel
theorem d_M_spread_178 : decode prog_14_method_77_code 178 = .ok (.iaload, 1) := by decide +kernel
theorem d_M_spread_179 : decode prog_14_method_77_code 179 = .ok (.iastore, 1) := by decide +kernel
theorem d_M_spread_180 : decode prog_14_method_77_code 180 = .ok (.aload_n 0, 1) := by decide +kernel
theorem d_M_spread_181 : decode prog_14_method_77_code 181 = .ok (.getfield 94, 3) := by decide +kernel
theorem d_M_spread_184 : decode prog_14_method_77_code 184 = .ok (.bipush 6, 2) := by decide +kernel
theorem d_M_spread_186 : decode prog_14_method_77_code 186 = .ok (.iload_n 2, 1) := by decide +kernel
theorem d_M_spread_187 : decode prog_14_method_77_code 187 = .ok (.imul, 1) := by decide +kernel
theorem d_M_spread_188 : decode prog_14_method_77_code 188 = .ok (.iload 5, 2) := by decide +kernel
theorem d_M_spread_190 : decode prog_14_method_77_code 190 = .ok (.iadd, 1) := by decide +kernel
theorem d_M_spread_191 : decode prog_14_method_77_code 191 = .ok (.aload_n 0, 1) := by decide +kernel
theorem d_M_spread_192 : decode prog_14_method_77_code 192 = .ok (.getfield 94, 3) := by decide +kernel
theorem d_M_spread_195 : decode prog_14_method_77_code 195 = .ok (.bipush 6, 2) := by decide +kernel
theorem d_M_spread_197 : decode prog_14_method_77_code 197 = .ok (.iload_n 3, 1) := by decide +kernel
theorem d_M_spread_198 : decode prog_14_method_77_code 198 = .ok (.imul, 1) := by decide +kernel
theorem d_M_spread_199 : decode prog_14_method_77_code 199 = .ok (.iload 5, 2) := by decide +kernel
theorem d_M_spread_201 : decode prog_14_method_77_code 201 = .ok (.iadd, 1) := by decide +kernel
theorem d_M_spread_202 : decode prog_14_method_77_code 202 = .ok (.iaload, 1) := by decide +kernel
theorem d_M_spread_203 : decode prog_14_method_77_code 203 = .ok (.iastore, 1) := by decide +kernel
theorem d_M_spread_204 : decode prog_14_method_77_code 204 = .ok (.iinc 5 1, 3) := by decide +kernel
theorem d_M_spread_207 : decode prog_14_method_77_code 207 = .ok (.goto (-58), 3) := by decide +kernel
theorem d_M_spread_94 : decode prog_14_method_77_code 94 = .ok (.aload_n 0, 1) := by decide +kernel
theorem d_M_spread_95 : decode prog_14_method_77_code 95 = .ok (.getfield 100, 3) := by decide +kernel
theorem d_M_spread_98 : decode prog_14_method_77_code 98 = .ok (.sipush 256, 3) := by decide +kernel
theorem d_M_spread_101 : decode prog_14_method_77_code 101 = .ok (.iload_n 2, 1) := by decide +kernel
theorem d_M_spread_102 : decode prog_14_method_77_code 102 = .ok (.imul, 1) := by decide +kernel
theorem d_M_spread_103 : decode prog_14_method_77_code 103 = .ok (.iload 5, 2) := by decide +kernel
theorem d_M_spread_105 : decode prog_14_method_77_code 105 = .ok (.iadd, 1) := by decide +kernel
theorem d_M_spread_106 : decode prog_14_method_77_code 106 = .ok (.aload_n 0, 1) := by decide +kernel
theorem d_M_spread_107 : decode prog_14_method_77_code 107 = .ok (.getfield 100, 3) := by decide +kernel
theorem d_M_spread_110 : decode prog_14_method_77_code 110 = .ok (.sipush 256, 3) := by decide +kernel
theorem d_M_spread_113 : decode prog_14_method_77_code 113 = .ok (.iload_n 3, 1) := by decide +kernel
theorem d_M_spread_114 : decode prog_14_method_77_code 114 = .ok (.imul, 1) := by decide +kernel
theorem d_M_spread_115 : decode prog_14_method_77_code 115 = .ok (.iload 5, 2) := by decide +kernel
theorem d_M_spread_117 : decode prog_14_method_77_code 117 = .ok (.iadd, 1) := by decide +kernel
theorem d_M_spread_118 : decode prog_14_method_77_code 118 = .ok (.iaload, 1) := by decide +kernel
theorem d_M_spread_119 : decode prog_14_method_77_code 119 = .ok (.iastore, 1) := by decide +kernel
theorem d_M_spread_120 : decode prog_14_method_77_code 120 = .ok (.iinc 5 1, 3) := by decide +kernel
theorem d_M_spread_123 : decode prog_14_method_77_code 123 = .ok (.goto (-36), 3) := by decide +kernel
theorem d_M_spread_21 : decode prog_14_method_77_code 21 = .ok (.iload 4, 2) := by decide +kernel
theorem d_M_spread_23 : decode prog_14_method_77_code 23 = .ok (.iconst 1, 1) := by decide +kernel
theorem d_M_spread_24 : decode prog_14_method_77_code 24 = .ok (.isub, 1) := by decide +kernel
theorem d_M_spread_25 : decode prog_14_method_77_code 25 = .ok (.istore 5, 2) := by decide +kernel
theorem d_M_spread_27 : decode prog_14_method_77_code 27 = .ok (.iload 5, 2) := by decide +kernel
theorem d_M_spread_29 : decode prog_14_method_77_code 29 = .ok (.ifCond .lt 55, 3) := by decide +kernel
theorem d_M_spread_32 : decode prog_14_method_77_code 32 = .ok (.iconst 0, 1) := by decide +kernel
theorem d_M_spread_33 : decode prog_14_method_77_code 33 = .ok (.istore 6, 2) := by decide +kernel
theorem d_M_spread_35 : decode prog_14_method_77_code 35 = .ok (.iload 6, 2) := by decide +kernel
theorem d_M_spread_37 : decode prog_14_method_77_code 37 = .ok (.aload_n 0, 1) := by decide +kernel
theorem d_M_spread_38 : decode prog_14_method_77_code 38 = .ok (.getfield 412, 3) := by decide +kernel
theorem d_M_spread_41 : decode prog_14_method_77_code 41 = .ok (.if_icmp .ge 37, 3) := by decide +kernel
theorem d_M_spread_78 : decode prog_14_method_77_code 78 = .ok (.iinc 5 (-1), 3) := by decide +kernel
theorem d_M_spread_81 : decode prog_14_method_77_code 81 = .ok (.goto (-54), 3) := by decide +kernel
theorem d_M_spread_44 : decode prog_14_method_77_code 44 = .ok (.aload_n 0, 1) := by decide +kernel
theorem d_M_spread_45 : decode prog_14_method_77_code 45 = .ok (.iload_n 1, 1) := by decide +kernel
theorem d_M_spread_46 : decode prog_14_method_77_code 46 = .ok (.iload_n 2, 1) := by decide +kernel
theorem d_M_spread_47 : decode prog_14_method_77_code 47 = .ok (.iload 5, 2) := by decide +kernel
theorem d_M_spread_49 : decode prog_14_method_77_code 49 = .ok (.iload 6, 2) := by decide +kernel
theorem d_M_spread_51 : decode prog_14_method_77_code 51 = .ok (.invokestatic 397, 3) := by decide +kernel
theorem d_M_spread_54 : decode prog_14_method_77_code 54 = .ok (.iload_n 2, 1) := by decide +kernel
theorem d_M_spread_55 : decode prog_14_method_77_code 55 = .ok (.iconst 0, 1) := by decide +kernel
theorem d_M_spread_56 : decode prog_14_method_77_code 56 = .ok (.iload 6, 2) := by decide +kernel
theorem d_M_spread_58 : decode prog_14_method_77_code 58 = .ok (.invokestatic 397, 3) := by decide +kernel
theorem d_M_spread_61 : decode prog_14_method_77_code 61 = .ok (.iload_n 3, 1) := by decide +kernel
theorem d_M_spread_62 : decode prog_14_method_77_code 62 = .ok (.iload 5, 2) := by decide +kernel
theorem d_M_spread_64 : decode prog_14_method_77_code 64 = .ok (.iload 6, 2) := by decide +kernel
theorem d_M_spread_66 : decode prog_14_method_77_code 66 = .ok (.invokestatic 397, 3) := by decide +kernel
theorem d_M_spread_69 : decode prog_14_method_77_code 69 = .ok (.invokevirtual 429, 3) := by decide +kernel
theorem d_M_spread_72 : decode prog_14_method_77_code 72 = .ok (.iinc 6 1, 3) := by decide +kernel
theorem d_M_spread_75 : decode prog_14_method_77_code 75 = .ok (.goto (-40), 3) := by decide +kernel
theorem d_M_spread_0 : decode prog_14_method_77_code 0 = .ok (.aload_n 0, 1) := by decide +kernel
theorem d_M_spread_1 : decode prog_14_method_77_code 1 = .ok (.getfield 97, 3) := by decide +kernel
theorem d_M_spread_4 : decode prog_14_method_77_code 4 = .ok (.iload_n 2, 1) := by decide +kernel
theorem d_M_spread_5 : decode prog_14_method_77_code 5 = .ok (.iaload, 1) := by decide +kernel
theorem d_M_spread_6 : decode prog_14_method_77_code 6 = .ok (.ifCond .le 12, 3) := by decide +kernel
theorem d_M_spread_18 : decode prog_14_method_77_code 18 = .ok (.iconst 0, 1) := by decide +kernel
theorem d_M_spread_9 : decode prog_14_method_77_code 9 = .ok (.aload_n 0, 1) := by decide +kernel
theorem d_M_spread_10 : decode prog_14_method_77_code 10 = .ok (.getfield 97, 3) := by decide +kernel
theorem d_M_spread_13 : decode prog_14_method_77_code 13 = .ok (.iload_n 3, 1) := by decide +kernel
theorem d_M_spread_14 : decode prog_14_method_77_code 14 = .ok (.iaload, 1) := by decide +kernel
theorem d_M_spread_15 : decode prog_14_method_77_code 15 = .ok (.goto 4, 3) := by decide +kernel
theorem w973 : Cond.methodLink "SeriesVaultModel" 429 ⟨"SeriesVaultModel", "join", "(IIII)V"⟩ ∈ aW := aw_of (tb_11 (List.mem_of_getElem? (i := 39) rfl)) rfl
theorem w974 : Cond.code ⟨"SeriesVaultModel", "join", "(IIII)V"⟩ prog_14_method_74_code 10 none ∈ aW := aw_of (tb_11 (List.mem_of_getElem? (i := 42) rfl)) rfl
theorem w975 : Cond.instanceMethod ⟨"SeriesVaultModel", "join", "(IIII)V"⟩ ∈ aW := aw_of (tb_11 (List.mem_of_getElem? (i := 41) rfl)) rfl
theorem w976 : Cond.selects "SeriesVaultModel" ⟨"SeriesVaultModel", "join", "(IIII)V"⟩ ⟨"SeriesVaultModel", "join", "(IIII)V"⟩ ∈ aW := aw_pr (List.mem_map.mpr ⟨_, pv_8 (List.mem_of_getElem? (i := 10) rfl), rfl⟩) rfl
set_option maxHeartbeats 4000000 in
set_option maxRecDepth 100000 in
theorem k_spread (l : Launch) (D : va_G) (dA : Nat → ClassId) (sz : Nat) (h : Nat) (ad : Nat → Nat) (x : MS) (sg : Int32) (a : Nat) (b : Nat) (n : Nat) (i9 : Nat → Bool) (c9 : Nat → Int64) (hsg : isOp sg) (ha : a < 20) (hb2 : b < 20) (h2 : x.windows ≤ 64) (h3 : x.tableRows b ≤ 256) (h4 : x.tableRows a ≤ 256) (hn : (if 0 < x.tableRows a then x.tableRows b else 0) = n) (hsp : spG sg (x.isCell, x.cells) a b n x.windows n = (i9, c9)) : Met l ⟨"SeriesVaultModel", "spread", "(III)V"⟩ [Cond.code ⟨"SeriesVaultModel", "spread", "(III)V"⟩ prog_14_method_77_code 7 none] { frames := 2, cells := 0, slots := 0, locals := 29 } (pC D dA [.ref h, .int sg, .int (nI a), .int (nI b)] (MW dA h ad x) sz) (va_Qv (fun (u9 : Unit) => True) (fun (u9 : Unit) t9 => bW D (va_A (MW dA h ad x) sz) (MW dA h ad (MS.s_isCell (MS.s_cells (MS.s_rowSeries (MS.s_tableRows (MS.s_nameLengths (MS.s_nameFroms (MS.s_tableNames x (va_up x.tableNames a (x.tableNames b))) (mvG x.nameFroms (6 * a) (6 * b) 6)) (mvG x.nameLengths (6 * a) (6 * b) 6)) (va_up x.tableRows a n)) (mvG x.rowSeries (256 * a) (256 * b) n)) c9) i9)) t9) (va_A (MW dA h ad x) sz)) 0 0 (va_A (MW dA h ad x) sz) := by
  refine mkC (y := ⟨"SeriesVaultModel", "spread", "(III)V"⟩) (cc := prog_14_method_77_code) (maxL := 7) (av := [.ref h, .int sg, .int (nI a), .int (nI b)]) (ws := MW dA h ad x) (sz := sz) (Qc := fun A => va_Qv (fun (u9 : Unit) => True) (fun (u9 : Unit) t9 => bW D A (MW dA h ad (MS.s_isCell (MS.s_cells (MS.s_rowSeries (MS.s_tableRows (MS.s_nameLengths (MS.s_nameFroms (MS.s_tableNames x (va_up x.tableNames a (x.tableNames b))) (mvG x.nameFroms (6 * a) (6 * b) 6)) (mvG x.nameLengths (6 * a) (6 * b) 6)) (va_up x.tableRows a n)) (mvG x.rowSeries (256 * a) (256 * b) n)) c9) i9)) t9) A) (by decide) (Nat.le_of_ble_eq_true rfl) ?_
  intro A p e s m below meth c ls hsz hB
  obtain ⟨hx, hb, hr, hml, hown, hin, hlk, hE, hK, hP, hD, hS, hA, hN, hl⟩ := hB
  have hown : s.vm.findClass "SeriesVaultModel" = some m.cls := hown
  have hl : lv_has ls 7 [(0, .ref h), (1, .int sg), (2, .int (nI a)), (3, .int (nI b))] := hl
  obtain ⟨H, hH⟩ : ∃ z, z = s.heap := ⟨_, rfl⟩
  have hP : va_P D vwCl (MW dA h ad x) H := by rw [hH]; exact hP
  have hS : va_S A s.heap H [] := by rw [hH]; exact hS
  rw [← hH]
  have n0 : n ≤ 256 := by rw [← hn]; split <;> omega
  have J19 : ∀ (H : Heap) (locs : List Loc) (ls : Array Slot) (hP : va_P D vwCl (MW dA h ad x) H) (hD : va_D A (MW dA h ad x)) (hS : va_S A s.heap H locs) (hl : lv_has ls 7 [(3, .int (nI b)), (2, .int (nI a)), (1, .int sg), (0, .ref h)]), W p l e ({ frames := 2, cells := 0, slots := 0, locals := 29 } : Room) s m ([.ref h, .int sg, .int (nI a), .int (nI b)] : List Value).toArray below meth c H locs 0 0 (MQ below (va_Qv (fun (u9 : Unit) => True) (fun (u9 : Unit) t9 => bW D A (MW dA h ad (MS.s_isCell (MS.s_cells (MS.s_rowSeries (MS.s_tableRows (MS.s_nameLengths (MS.s_nameFroms (MS.s_tableNames x (va_up x.tableNames a (x.tableNames b))) (mvG x.nameFroms (6 * a) (6 * b) 6)) (mvG x.nameLengths (6 * a) (6 * b) 6)) (va_up x.tableRows a n)) (mvG x.rowSeries (256 * a) (256 * b) n)) c9) i9)) t9) A) ([.ref h, .int sg, .int (nI a), .int (nI b)] : List Value).toArray s 0 0 A) (F0 m 19 ls [.int (nI n)]) := by
    intro  H locs ls hP hD hS hl
    refine lv_istore hx hb d_M_spread_19 hl (by decide) rfl (fun ls hl => ?_)
    have hl : lv_has ls 7 [(4, .int (nI n)), (3, .int (nI b)), (2, .int (nI a)), (1, .int sg), (0, .ref h)] := hl
    have J84 : ∀ (H : Heap) (locs : List Loc) (ls : Array Slot) (hP : va_P D vwCl (MW dA h ad (MS.s_isCell (MS.s_cells x c9) i9)) H) (hD : va_D A (MW dA h ad (MS.s_isCell (MS.s_cells x c9) i9))) (hS : va_S A s.heap H locs) (hl : lv_has ls 7 [(4, .int (nI n)), (3, .int (nI b)), (2, .int (nI a)), (1, .int sg), (0, .ref h)]), W p l e ({ frames := 2, cells := 0, slots := 0, locals := 29 } : Room) s m ([.ref h, .int sg, .int (nI a), .int (nI b)] : List Value).toArray below meth c H locs 0 0 (MQ below (va_Qv (fun (u9 : Unit) => True) (fun (u9 : Unit) t9 => bW D A (MW dA h ad (MS.s_isCell (MS.s_cells (MS.s_rowSeries (MS.s_tableRows (MS.s_nameLengths (MS.s_nameFroms (MS.s_tableNames x (va_up x.tableNames a (x.tableNames b))) (mvG x.nameFroms (6 * a) (6 * b) 6)) (mvG x.nameLengths (6 * a) (6 * b) 6)) (va_up x.tableRows a n)) (mvG x.rowSeries (256 * a) (256 * b) n)) c9) i9)) t9) A) ([.ref h, .int sg, .int (nI a), .int (nI b)] : List Value).toArray s 0 0 A) (F0 m 84 ls []) := by
      intro  H locs ls hP hD hS hl
      refine lv_iconst (v := 0) hx hb d_M_spread_84 (by decide) ?_
      refine lv_istore hx hb d_M_spread_85 hl (by decide) rfl (fun ls hl => ?_)
      have hl : lv_has ls 7 [(5, .int 0), (4, .int (nI n)), (3, .int (nI b)), (2, .int (nI a)), (1, .int sg), (0, .ref h)] := hl
      have L87 : ∀ (k9 : Nat) (r : Nat) (q1 : r ≤ n) (hk9 : n - r = k9), ∀ (H : Heap) (locs : List Loc) (ls : Array Slot) (hP : va_P D vwCl (MW dA h ad (MS.s_isCell (MS.s_cells (MS.s_rowSeries x (mvG x.rowSeries (256 * a) (256 * b) r)) c9) i9)) H) (hD : va_D A (MW dA h ad (MS.s_isCell (MS.s_cells (MS.s_rowSeries x (mvG x.rowSeries (256 * a) (256 * b) r)) c9) i9))) (hS : va_S A s.heap H locs) (hl : lv_has ls 7 [(5, .int (nI r)), (4, .int (nI n)), (3, .int (nI b)), (2, .int (nI a)), (1, .int sg), (0, .ref h)]), W p l e ({ frames := 2, cells := 0, slots := 0, locals := 29 } : Room) s m ([.ref h, .int sg, .int (nI a), .int (nI b)] : List Value).toArray below meth c H locs 0 0 (MQ below (va_Qv (fun (u9 : Unit) => True) (fun (u9 : Unit) t9 => bW D A (MW dA h ad (MS.s_isCell (MS.s_cells (MS.s_rowSeries (MS.s_tableRows (MS.s_nameLengths (MS.s_nameFroms (MS.s_tableNames x (va_up x.tableNames a (x.tableNames b))) (mvG x.nameFroms (6 * a) (6 * b) 6)) (mvG x.nameLengths (6 * a) (6 * b) 6)) (va_up x.tableRows a n)) (mvG x.rowSeries (256 * a) (256 * b) n)) c9) i9)) t9) A) ([.ref h, .int sg, .int (nI a), .int (nI b)] : List Value).toArray s 0 0 A) (F0 m 87 ls []) := by
        intro k9
        induction k9 using Nat.strongRecOn with
        | ind k9 ih87 =>
          intro r q1 hk9 H locs ls hP hD hS hl
          refine lv_iload hx hb d_M_spread_87 (lv_at hl 0 rfl) ?_
          refine lv_iload hx hb d_M_spread_89 (lv_at hl 1 rfl) ?_
          refine lv_icmp_ge hx hb d_M_spread_91 (tgt := 126) rfl (fun g1 => ?_) (fun g1 => ?_)
          · have g1 := (nI_leI (a := n) (b := r) (by omega) (by omega)).mp g1
            refine lv_aload_n hx hb d_M_spread_126 rfl (lv_at hl 5 rfl) ?_
            refine gF (v := .ref (ad 51)) hx hb hown hE hK hP 0 rfl rfl layM 51 (by decide) w521 rfl d_M_spread_127 ?_
            refine lv_iload_n hx hb d_M_spread_130 rfl (lv_at hl 3 rfl) ?_
            refine lv_iload hx hb d_M_spread_131 (lv_at hl 1 rfl) ?_
            refine nistN (v := n) hx hb hK hP hD hS 24 1 rfl rfl (a) (by omega) (by decide) d_M_spread_133 (fun H locs hP hD hS => ?_)
            have hP : va_P D vwCl (MW dA h ad (MS.s_isCell (MS.s_cells (MS.s_rowSeries (MS.s_tableRows x (va_up x.tableRows a n)) (mvG x.rowSeries (256 * a) (256 * b) r)) c9) i9)) H := hP
            have hD : va_D A (MW dA h ad (MS.s_isCell (MS.s_cells (MS.s_rowSeries (MS.s_tableRows x (va_up x.tableRows a n)) (mvG x.rowSeries (256 * a) (256 * b) r)) c9) i9)) := hD
            refine lv_aload_n hx hb d_M_spread_134 rfl (lv_at hl 5 rfl) ?_
            refine gF (v := .ref (ad 48)) hx hb hown hE hK hP 0 rfl rfl layM 48 (by decide) w518 rfl d_M_spread_135 ?_
            refine lv_iload_n hx hb d_M_spread_138 rfl (lv_at hl 3 rfl) ?_
            refine lv_aload_n hx hb d_M_spread_139 rfl (lv_at hl 5 rfl) ?_
            refine gF (v := .ref (ad 48)) hx hb hown hE hK hP 0 rfl rfl layM 48 (by decide) w518 rfl d_M_spread_140 ?_
            refine lv_iload_n hx hb d_M_spread_143 rfl (lv_at hl 2 rfl) ?_
            refine nild (f := (fun z9 => nI (x.tableNames z9))) hx hb hK hP 21 1 rfl rfl (b) (by omega) (by decide) d_M_spread_144 ?_
            refine nistN (v := x.tableNames b) hx hb hK hP hD hS 21 1 rfl rfl (a) (by omega) (by decide) d_M_spread_145 (fun H locs hP hD hS => ?_)
            have hP : va_P D vwCl (MW dA h ad (MS.s_isCell (MS.s_cells (MS.s_rowSeries (MS.s_tableRows (MS.s_tableNames x (va_up x.tableNames a (x.tableNames b))) (va_up x.tableRows a n)) (mvG x.rowSeries (256 * a) (256 * b) r)) c9) i9)) H := hP
            have hD : va_D A (MW dA h ad (MS.s_isCell (MS.s_cells (MS.s_rowSeries (MS.s_tableRows (MS.s_tableNames x (va_up x.tableNames a (x.tableNames b))) (va_up x.tableRows a n)) (mvG x.rowSeries (256 * a) (256 * b) r)) c9) i9)) := hD
            refine lv_iconst (v := 0) hx hb d_M_spread_146 (by decide) ?_
            refine lv_istore hx hb d_M_spread_147 hl (by decide) rfl (fun ls hl => ?_)
            have hl : lv_has ls 7 [(5, .int 0), (4, .int (nI n)), (3, .int (nI b)), (2, .int (nI a)), (1, .int sg), (0, .ref h)] := hl
            have L149 : ∀ (k9 : Nat) (q : Nat) (q2 : q ≤ 6) (hk9 : 6 - q = k9), ∀ (H : Heap) (locs : List Loc) (ls : Array Slot) (hP : va_P D vwCl (MW dA h ad (MS.s_isCell (MS.s_cells (MS.s_rowSeries (MS.s_tableRows (MS.s_nameLengths (MS.s_nameFroms (MS.s_tableNames x (va_up x.tableNames a (x.tableNames b))) (mvG x.nameFroms (6 * a) (6 * b) q)) (mvG x.nameLengths (6 * a) (6 * b) q)) (va_up x.tableRows a n)) (mvG x.rowSeries (256 * a) (256 * b) n)) c9) i9)) H) (hD : va_D A (MW dA h ad (MS.s_isCell (MS.s_cells (MS.s_rowSeries (MS.s_tableRows (MS.s_nameLengths (MS.s_nameFroms (MS.s_tableNames x (va_up x.tableNames a (x.tableNames b))) (mvG x.nameFroms (6 * a) (6 * b) q)) (mvG x.nameLengths (6 * a) (6 * b) q)) (va_up x.tableRows a n)) (mvG x.rowSeries (256 * a) (256 * b) n)) c9) i9))) (hS : va_S A s.heap H locs) (hl : lv_has ls 7 [(5, .int (nI q)), (4, .int (nI n)), (3, .int (nI b)), (2, .int (nI a)), (1, .int sg), (0, .ref h)]), W p l e ({ frames := 2, cells := 0, slots := 0, locals := 29 } : Room) s m ([.ref h, .int sg, .int (nI a), .int (nI b)] : List Value).toArray below meth c H locs 0 0 (MQ below (va_Qv (fun (u9 : Unit) => True) (fun (u9 : Unit) t9 => bW D A (MW dA h ad (MS.s_isCell (MS.s_cells (MS.s_rowSeries (MS.s_tableRows (MS.s_nameLengths (MS.s_nameFroms (MS.s_tableNames x (va_up x.tableNames a (x.tableNames b))) (mvG x.nameFroms (6 * a) (6 * b) 6)) (mvG x.nameLengths (6 * a) (6 * b) 6)) (va_up x.tableRows a n)) (mvG x.rowSeries (256 * a) (256 * b) n)) c9) i9)) t9) A) ([.ref h, .int sg, .int (nI a), .int (nI b)] : List Value).toArray s 0 0 A) (F0 m 149 ls []) := by
              intro k9
              induction k9 using Nat.strongRecOn with
              | ind k9 ih149 =>
                intro q q2 hk9 H locs ls hP hD hS hl
                refine lv_iload hx hb d_M_spread_149 (lv_at hl 0 rfl) ?_
                refine lv_bipush (v := 6) hx hb d_M_spread_151 (by decide) ?_
                refine lv_icmp_ge hx hb d_M_spread_153 (tgt := 210) rfl (fun g2 => ?_) (fun g2 => ?_)
                · have g2 := (nI_leI (a := 6) (b := q) (by omega) (by omega)).mp g2
                  have e9 : (MS.s_isCell (MS.s_cells (MS.s_rowSeries (MS.s_tableRows (MS.s_nameLengths (MS.s_nameFroms (MS.s_tableNames x (va_up x.tableNames a (x.tableNames b))) (mvG x.nameFroms (6 * a) (6 * b) q)) (mvG x.nameLengths (6 * a) (6 * b) q)) (va_up x.tableRows a n)) (mvG x.rowSeries (256 * a) (256 * b) n)) c9) i9 : MS) = MS.s_isCell (MS.s_cells (MS.s_rowSeries (MS.s_tableRows (MS.s_nameLengths (MS.s_nameFroms (MS.s_tableNames x (va_up x.tableNames a (x.tableNames b))) (mvG x.nameFroms (6 * a) (6 * b) 6)) (mvG x.nameLengths (6 * a) (6 * b) 6)) (va_up x.tableRows a n)) (mvG x.rowSeries (256 * a) (256 * b) n)) c9) i9 := by rw [show (mvG x.nameLengths (6 * a) (6 * b) 6) = (mvG x.nameLengths (6 * a) (6 * b) q) from by (rw [show q = 6 by omega]), show (mvG x.nameFroms (6 * a) (6 * b) 6) = (mvG x.nameFroms (6 * a) (6 * b) q) from by (rw [show q = 6 by omega])] <;> rfl
                  exact rfV hx hb hr hlk hS () trivial (cvP e9 hP) (cvD e9 hD) (Nat.le_of_ble_eq_true rfl) (Nat.le_of_ble_eq_true rfl) d_M_spread_210
                · have g2 := mt (nI_leI (a := 6) (b := q) (by omega) (by omega)).mpr g2
                  refine lv_aload_n hx hb d_M_spread_156 rfl (lv_at hl 5 rfl) ?_
                  refine gF (v := .ref (ad 49)) hx hb hown hE hK hP 0 rfl rfl layM 49 (by decide) w519 rfl d_M_spread_157 ?_
                  refine lv_bipush (v := 6) hx hb d_M_spread_160 (by decide) ?_
                  refine lv_iload_n hx hb d_M_spread_162 rfl (lv_at hl 3 rfl) ?_
                  refine lv_imul hx hb d_M_spread_163 (tpi (y := nI (6 * a)) (pk_mul (6) (a)) ?_)
                  refine lv_iload hx hb d_M_spread_164 (lv_at hl 0 rfl) ?_
                  refine lv_iadd hx hb d_M_spread_166 (tpi (y := nI ((6 * a) + q)) (nI_add (6 * a) (q)) ?_)
                  refine lv_aload_n hx hb d_M_spread_167 rfl (lv_at hl 5 rfl) ?_
                  refine gF (v := .ref (ad 49)) hx hb hown hE hK hP 0 rfl rfl layM 49 (by decide) w519 rfl d_M_spread_168 ?_
                  refine lv_bipush (v := 6) hx hb d_M_spread_171 (by decide) ?_
                  refine lv_iload_n hx hb d_M_spread_173 rfl (lv_at hl 2 rfl) ?_
                  refine lv_imul hx hb d_M_spread_174 (tpi (y := nI (6 * b)) (pk_mul (6) (b)) ?_)
                  refine lv_iload hx hb d_M_spread_175 (lv_at hl 0 rfl) ?_
                  refine lv_iadd hx hb d_M_spread_177 (tpi (y := nI ((6 * b) + q)) (nI_add (6 * b) (q)) ?_)
                  refine nild (f := (fun z9 => nI ((mvG x.nameFroms (6 * a) (6 * b) q) z9))) hx hb hK hP 22 1 rfl rfl ((6 * b) + q) (by omega) (by decide) d_M_spread_178 ?_
                  refine nistN (v := (mvG x.nameFroms (6 * a) (6 * b) q) ((6 * b) + q)) hx hb hK hP hD hS 22 1 rfl rfl ((6 * a) + q) (by omega) (by decide) d_M_spread_179 (fun H locs hP hD hS => ?_)
                  have hP : va_P D vwCl (MW dA h ad (MS.s_isCell (MS.s_cells (MS.s_rowSeries (MS.s_tableRows (MS.s_nameLengths (MS.s_nameFroms (MS.s_tableNames x (va_up x.tableNames a (x.tableNames b))) (va_up (mvG x.nameFroms (6 * a) (6 * b) q) ((6 * a) + q) ((mvG x.nameFroms (6 * a) (6 * b) q) ((6 * b) + q)))) (mvG x.nameLengths (6 * a) (6 * b) q)) (va_up x.tableRows a n)) (mvG x.rowSeries (256 * a) (256 * b) n)) c9) i9)) H := hP
                  have hD : va_D A (MW dA h ad (MS.s_isCell (MS.s_cells (MS.s_rowSeries (MS.s_tableRows (MS.s_nameLengths (MS.s_nameFroms (MS.s_tableNames x (va_up x.tableNames a (x.tableNames b))) (va_up (mvG x.nameFroms (6 * a) (6 * b) q) ((6 * a) + q) ((mvG x.nameFroms (6 * a) (6 * b) q) ((6 * b) + q)))) (mvG x.nameLengths (6 * a) (6 * b) q)) (va_up x.tableRows a n)) (mvG x.rowSeries (256 * a) (256 * b) n)) c9) i9)) := hD
                  refine lv_aload_n hx hb d_M_spread_180 rfl (lv_at hl 5 rfl) ?_
                  refine gF (v := .ref (ad 50)) hx hb hown hE hK hP 0 rfl rfl layM 50 (by decide) w520 rfl d_M_spread_181 ?_
                  refine lv_bipush (v := 6) hx hb d_M_spread_184 (by decide) ?_
                  refine lv_iload_n hx hb d_M_spread_186 rfl (lv_at hl 3 rfl) ?_
                  refine lv_imul hx hb d_M_spread_187 (tpi (y := nI (6 * a)) (pk_mul (6) (a)) ?_)
                  refine lv_iload hx hb d_M_spread_188 (lv_at hl 0 rfl) ?_
                  refine lv_iadd hx hb d_M_spread_190 (tpi (y := nI ((6 * a) + q)) (nI_add (6 * a) (q)) ?_)
                  refine lv_aload_n hx hb d_M_spread_191 rfl (lv_at hl 5 rfl) ?_
                  refine gF (v := .ref (ad 50)) hx hb hown hE hK hP 0 rfl rfl layM 50 (by decide) w520 rfl d_M_spread_192 ?_
                  refine lv_bipush (v := 6) hx hb d_M_spread_195 (by decide) ?_
                  refine lv_iload_n hx hb d_M_spread_197 rfl (lv_at hl 2 rfl) ?_
                  refine lv_imul hx hb d_M_spread_198 (tpi (y := nI (6 * b)) (pk_mul (6) (b)) ?_)
                  refine lv_iload hx hb d_M_spread_199 (lv_at hl 0 rfl) ?_
                  refine lv_iadd hx hb d_M_spread_201 (tpi (y := nI ((6 * b) + q)) (nI_add (6 * b) (q)) ?_)
                  refine nild (f := (fun z9 => nI ((mvG x.nameLengths (6 * a) (6 * b) q) z9))) hx hb hK hP 23 1 rfl rfl ((6 * b) + q) (by omega) (by decide) d_M_spread_202 ?_
                  refine nistN (v := (mvG x.nameLengths (6 * a) (6 * b) q) ((6 * b) + q)) hx hb hK hP hD hS 23 1 rfl rfl ((6 * a) + q) (by omega) (by decide) d_M_spread_203 (fun H locs hP hD hS => ?_)
                  have hP : va_P D vwCl (MW dA h ad (MS.s_isCell (MS.s_cells (MS.s_rowSeries (MS.s_tableRows (MS.s_nameLengths (MS.s_nameFroms (MS.s_tableNames x (va_up x.tableNames a (x.tableNames b))) (va_up (mvG x.nameFroms (6 * a) (6 * b) q) ((6 * a) + q) ((mvG x.nameFroms (6 * a) (6 * b) q) ((6 * b) + q)))) (va_up (mvG x.nameLengths (6 * a) (6 * b) q) ((6 * a) + q) ((mvG x.nameLengths (6 * a) (6 * b) q) ((6 * b) + q)))) (va_up x.tableRows a n)) (mvG x.rowSeries (256 * a) (256 * b) n)) c9) i9)) H := hP
                  have hD : va_D A (MW dA h ad (MS.s_isCell (MS.s_cells (MS.s_rowSeries (MS.s_tableRows (MS.s_nameLengths (MS.s_nameFroms (MS.s_tableNames x (va_up x.tableNames a (x.tableNames b))) (va_up (mvG x.nameFroms (6 * a) (6 * b) q) ((6 * a) + q) ((mvG x.nameFroms (6 * a) (6 * b) q) ((6 * b) + q)))) (va_up (mvG x.nameLengths (6 * a) (6 * b) q) ((6 * a) + q) ((mvG x.nameLengths (6 * a) (6 * b) q) ((6 * b) + q)))) (va_up x.tableRows a n)) (mvG x.rowSeries (256 * a) (256 * b) n)) c9) i9)) := hD
                  refine lv_iinc (k := 0) (v := nI (q + 1)) hx hb d_M_spread_204 hl rfl (iincN (q) 1 1 (by decide)) (by decide) rfl (fun ls hl => ?_)
                  have hl : lv_has ls 7 [(5, .int (nI (q + 1))), (4, .int (nI n)), (3, .int (nI b)), (2, .int (nI a)), (1, .int sg), (0, .ref h)] := hl
                  refine lv_goto hx hb d_M_spread_207 (tgt := 149) rfl ?_
                  exact ih149 _ (by omega) (q + 1) (by omega) rfl H _ ls hP hD hS (lv_sub hl [0, 1, 2, 3, 4, 5] rfl)
            have e9 : (MS.s_isCell (MS.s_cells (MS.s_rowSeries (MS.s_tableRows (MS.s_tableNames x (va_up x.tableNames a (x.tableNames b))) (va_up x.tableRows a n)) (mvG x.rowSeries (256 * a) (256 * b) r)) c9) i9 : MS) = MS.s_isCell (MS.s_cells (MS.s_rowSeries (MS.s_tableRows (MS.s_nameLengths (MS.s_nameFroms (MS.s_tableNames x (va_up x.tableNames a (x.tableNames b))) (mvG x.nameFroms (6 * a) (6 * b) 0)) (mvG x.nameLengths (6 * a) (6 * b) 0)) (va_up x.tableRows a n)) (mvG x.rowSeries (256 * a) (256 * b) n)) c9) i9 := by rw [show (mvG x.rowSeries (256 * a) (256 * b) n) = (mvG x.rowSeries (256 * a) (256 * b) r) from (by rw [show r = n by omega])] <;> rfl
            exact L149 _ 0 (Nat.zero_le _) rfl H _ ls (cvP e9 hP) (cvD e9 hD) hS (lv_sub hl [0, 1, 2, 3, 4, 5] rfl)
          · have g1 := mt (nI_leI (a := n) (b := r) (by omega) (by omega)).mpr g1
            refine lv_aload_n hx hb d_M_spread_94 rfl (lv_at hl 5 rfl) ?_
            refine gF (v := .ref (ad 52)) hx hb hown hE hK hP 0 rfl rfl layM 52 (by decide) w522 rfl d_M_spread_95 ?_
            refine lv_sipush (v := 256) hx hb d_M_spread_98 (by decide) ?_
            refine lv_iload_n hx hb d_M_spread_101 rfl (lv_at hl 3 rfl) ?_
            refine lv_imul hx hb d_M_spread_102 (tpi (y := nI (256 * a)) (pk_mul (256) (a)) ?_)
            refine lv_iload hx hb d_M_spread_103 (lv_at hl 0 rfl) ?_
            refine lv_iadd hx hb d_M_spread_105 (tpi (y := nI ((256 * a) + r)) (nI_add (256 * a) (r)) ?_)
            refine lv_aload_n hx hb d_M_spread_106 rfl (lv_at hl 5 rfl) ?_
            refine gF (v := .ref (ad 52)) hx hb hown hE hK hP 0 rfl rfl layM 52 (by decide) w522 rfl d_M_spread_107 ?_
            refine lv_sipush (v := 256) hx hb d_M_spread_110 (by decide) ?_
            refine lv_iload_n hx hb d_M_spread_113 rfl (lv_at hl 2 rfl) ?_
            refine lv_imul hx hb d_M_spread_114 (tpi (y := nI (256 * b)) (pk_mul (256) (b)) ?_)
            refine lv_iload hx hb d_M_spread_115 (lv_at hl 0 rfl) ?_
            refine lv_iadd hx hb d_M_spread_117 (tpi (y := nI ((256 * b) + r)) (nI_add (256 * b) (r)) ?_)
            refine nild (f := (fun z9 => nI ((mvG x.rowSeries (256 * a) (256 * b) r) z9))) hx hb hK hP 25 1 rfl rfl ((256 * b) + r) (by omega) (by decide) d_M_spread_118 ?_
            refine nistN (v := (mvG x.rowSeries (256 * a) (256 * b) r) ((256 * b) + r)) hx hb hK hP hD hS 25 1 rfl rfl ((256 * a) + r) (by omega) (by decide) d_M_spread_119 (fun H locs hP hD hS => ?_)
            have hP : va_P D vwCl (MW dA h ad (MS.s_isCell (MS.s_cells (MS.s_rowSeries x (va_up (mvG x.rowSeries (256 * a) (256 * b) r) ((256 * a) + r) ((mvG x.rowSeries (256 * a) (256 * b) r) ((256 * b) + r)))) c9) i9)) H := hP
            have hD : va_D A (MW dA h ad (MS.s_isCell (MS.s_cells (MS.s_rowSeries x (va_up (mvG x.rowSeries (256 * a) (256 * b) r) ((256 * a) + r) ((mvG x.rowSeries (256 * a) (256 * b) r) ((256 * b) + r)))) c9) i9)) := hD
            refine lv_iinc (k := 0) (v := nI (r + 1)) hx hb d_M_spread_120 hl rfl (iincN (r) 1 1 (by decide)) (by decide) rfl (fun ls hl => ?_)
            have hl : lv_has ls 7 [(5, .int (nI (r + 1))), (4, .int (nI n)), (3, .int (nI b)), (2, .int (nI a)), (1, .int sg), (0, .ref h)] := hl
            refine lv_goto hx hb d_M_spread_123 (tgt := 87) rfl ?_
            exact ih87 _ (by omega) (r + 1) (by omega) rfl H _ ls hP hD hS (lv_sub hl [0, 1, 2, 3, 4, 5] rfl)
      exact L87 _ 0 (Nat.zero_le _) rfl H _ ls hP hD hS (lv_sub hl [0, 1, 2, 3, 4, 5] rfl)
    refine lv_iload hx hb d_M_spread_21 (lv_at hl 0 rfl) ?_
    refine lv_iconst (v := 1) hx hb d_M_spread_23 (by decide) ?_
    refine lv_isub hx hb d_M_spread_24 ?_
    refine lv_istore hx hb d_M_spread_25 hl (by decide) rfl (fun ls hl => ?_)
    have hl : lv_has ls 7 [(5, .int ((nI n) - 1)), (4, .int (nI n)), (3, .int (nI b)), (2, .int (nI a)), (1, .int sg), (0, .ref h)] := hl
    have L27 : ∀ (k9 : Nat) (k : Nat) (j : Nat) (i2 : Nat → Bool) (c2 : Nat → Int64) (k1 : k + j = n) (ie : spG sg (x.isCell, x.cells) a b n x.windows j = (i2, c2)) (hk9 : k = k9), ∀ (H : Heap) (locs : List Loc) (ls : Array Slot) (hP : va_P D vwCl (MW dA h ad (MS.s_isCell (MS.s_cells x c2) i2)) H) (hD : va_D A (MW dA h ad (MS.s_isCell (MS.s_cells x c2) i2))) (hS : va_S A s.heap H locs) (hl : lv_has ls 7 [(5, .int (nI k - 1)), (4, .int (nI n)), (3, .int (nI b)), (2, .int (nI a)), (1, .int sg), (0, .ref h)]), W p l e ({ frames := 2, cells := 0, slots := 0, locals := 29 } : Room) s m ([.ref h, .int sg, .int (nI a), .int (nI b)] : List Value).toArray below meth c H locs 0 0 (MQ below (va_Qv (fun (u9 : Unit) => True) (fun (u9 : Unit) t9 => bW D A (MW dA h ad (MS.s_isCell (MS.s_cells (MS.s_rowSeries (MS.s_tableRows (MS.s_nameLengths (MS.s_nameFroms (MS.s_tableNames x (va_up x.tableNames a (x.tableNames b))) (mvG x.nameFroms (6 * a) (6 * b) 6)) (mvG x.nameLengths (6 * a) (6 * b) 6)) (va_up x.tableRows a n)) (mvG x.rowSeries (256 * a) (256 * b) n)) c9) i9)) t9) A) ([.ref h, .int sg, .int (nI a), .int (nI b)] : List Value).toArray s 0 0 A) (F0 m 27 ls []) := by
      intro k9
      induction k9 using Nat.strongRecOn with
      | ind k9 ih27 =>
        intro k j i2 c2 k1 ie hk9 H locs ls hP hD hS hl
        rcases (Nat.eq_zero_or_pos k) with z0 | z0
        · refine lv_iload hx hb d_M_spread_27 (lv_at hl 0 rfl) ?_
          refine lv_if_lt hx hb d_M_spread_29 (tgt := 84) rfl (fun _ => ?_) (fun h9 => absurd (by rw [z0]; decide) h9)
          have e9 : (MS.s_isCell (MS.s_cells x c2) i2 : MS) = MS.s_isCell (MS.s_cells x c9) i9 := by rw [show c9 = c2 from (congrArg Prod.snd (hsp.symm.trans ((congrArg (spG sg (x.isCell, x.cells) a b n x.windows) (show n = j by omega)).trans ie))), show i9 = i2 from (congrArg Prod.fst (hsp.symm.trans ((congrArg (spG sg (x.isCell, x.cells) a b n x.windows) (show n = j by omega)).trans ie)))] <;> rfl
          exact J84  H _ ls (cvP e9 hP) (cvD e9 hD) hS (lv_sub hl [1, 2, 3, 4, 5] rfl)
        · refine lv_iload hx hb d_M_spread_27 (lv_at hl 0 rfl) ?_
          refine tpi (y := nI (k - 1)) (nI_m1 z0) ?_
          refine lv_if_lt hx hb d_M_spread_29 (tgt := 84) rfl (fun h9 => absurd h9 (nI_pos (n := k - 1) (by omega))) (fun _ => ?_)
          refine lv_iconst (v := 0) hx hb d_M_spread_32 (by decide) ?_
          refine lv_istore hx hb d_M_spread_33 hl (by decide) rfl (fun ls hl => ?_)
          have hl : lv_has ls 7 [(6, .int 0), (5, .int (nI k - 1)), (4, .int (nI n)), (3, .int (nI b)), (2, .int (nI a)), (1, .int sg), (0, .ref h)] := hl
          have L35 : ∀ (k9 : Nat) (r : Nat) (i3 : Nat → Bool) (c3 : Nat → Int64) (i4 : r ≤ x.windows) (i5 : jrG sg (i2, c2) (cA a (k - 1)) (cA a 0) (cA b (k - 1)) r = (i3, c3)) (hk9 : x.windows - r = k9), ∀ (H : Heap) (locs : List Loc) (ls : Array Slot) (hP : va_P D vwCl (MW dA h ad (MS.s_isCell (MS.s_cells x c3) i3)) H) (hD : va_D A (MW dA h ad (MS.s_isCell (MS.s_cells x c3) i3))) (hS : va_S A s.heap H locs) (hl : lv_has ls 7 [(6, .int (nI r)), (5, .int (nI k - 1)), (4, .int (nI n)), (3, .int (nI b)), (2, .int (nI a)), (1, .int sg), (0, .ref h)]), W p l e ({ frames := 2, cells := 0, slots := 0, locals := 29 } : Room) s m ([.ref h, .int sg, .int (nI a), .int (nI b)] : List Value).toArray below meth c H locs 0 0 (MQ below (va_Qv (fun (u9 : Unit) => True) (fun (u9 : Unit) t9 => bW D A (MW dA h ad (MS.s_isCell (MS.s_cells (MS.s_rowSeries (MS.s_tableRows (MS.s_nameLengths (MS.s_nameFroms (MS.s_tableNames x (va_up x.tableNames a (x.tableNames b))) (mvG x.nameFroms (6 * a) (6 * b) 6)) (mvG x.nameLengths (6 * a) (6 * b) 6)) (va_up x.tableRows a n)) (mvG x.rowSeries (256 * a) (256 * b) n)) c9) i9)) t9) A) ([.ref h, .int sg, .int (nI a), .int (nI b)] : List Value).toArray s 0 0 A) (F0 m 35 ls []) := by
            intro k9
            induction k9 using Nat.strongRecOn with
            | ind k9 ih35 =>
              intro r i3 c3 i4 i5 hk9 H locs ls hP hD hS hl
              refine lv_iload hx hb d_M_spread_35 (lv_at hl 0 rfl) ?_
              refine lv_aload_n hx hb d_M_spread_37 rfl (lv_at hl 6 rfl) ?_
              refine gF (v := .int (nI x.windows)) hx hb hown hE hK hP 0 rfl rfl layM 59 (by decide) w489 rfl d_M_spread_38 ?_
              refine lv_icmp_ge hx hb d_M_spread_41 (tgt := 78) rfl (fun g3 => ?_) (fun g3 => ?_)
              · have g3 := (nI_leI (a := x.windows) (b := r) (by omega) (by omega)).mp g3
                refine lv_iinc (k := 1) (v := nI (k - 1) - 1) hx hb d_M_spread_78 hl rfl (nI_mm z0) (by decide) rfl (fun ls hl => ?_)
                have hl : lv_has ls 7 [(5, .int (nI (k - 1) - 1)), (6, .int (nI r)), (4, .int (nI n)), (3, .int (nI b)), (2, .int (nI a)), (1, .int sg), (0, .ref h)] := hl
                refine lv_goto hx hb d_M_spread_81 (tgt := 27) rfl ?_
                exact ih27 _ (by omega) (k - 1) (j + 1) i3 c3 (by omega) (by show jrG sg (spG sg (x.isCell, x.cells) a b n x.windows j) (cA a (n - 1 - j)) (cA a 0) (cA b (n - 1 - j)) x.windows = _; rw [ie, show n - 1 - j = k - 1 by omega, ← show r = x.windows by omega]; exact i5) rfl H _ ls hP hD hS (lv_sub hl [0, 2, 3, 4, 5, 6] rfl)
              · have g3 := mt (nI_leI (a := x.windows) (b := r) (by omega) (by omega)).mpr g3
                refine lv_aload_n hx hb d_M_spread_44 rfl (lv_at hl 6 rfl) ?_
                refine lv_iload_n hx hb d_M_spread_45 rfl (lv_at hl 5 rfl) ?_
                refine lv_iload_n hx hb d_M_spread_46 rfl (lv_at hl 4 rfl) ?_
                refine lv_iload hx hb d_M_spread_47 (lv_at hl 1 rfl) ?_
                refine tpi (y := nI (k - 1)) (nI_m1 z0) ?_
                refine lv_iload hx hb d_M_spread_49 (lv_at hl 0 rfl) ?_
                have hPc := hP.sub (ws' := []) [] rfl
                have hDc := hD.sub (ws' := []) [] (by decide) rfl
                refine jnI (rnS (As := [.int (nI a), .int (nI (k - 1)), .int (nI r)]) (rest := [.int sg, .ref h]) hx hb hml hown hE hK (hN _ _ hS) hPc hDc (k_cellAt l D dA H.size a (k - 1) r) w971 w970 w972 w328 rfl rfl ⟨⟨by decide, by decide⟩, rfl⟩ ⟨(Nat.le_of_ble_eq_true rfl), (Nat.le_of_ble_eq_true rfl)⟩ rfl hl.1 rfl (Nat.le_of_ble_eq_true rfl) d_M_spread_51 ⟨(Nat.le_of_ble_eq_true rfl), (Nat.le_of_ble_eq_true rfl)⟩) hP hD hS hA [] [0, 1, 2, 3, 4, 5, 6, 7, 8, 9, 10, 11, 12, 13, 14, 15, 16, 17, 18, 19, 20, 21, 22, 23, 24, 25, 26, 27, 28, 29, 30, 31, 32, 33, 34, 35, 36, 37, 38] (wr := MW dA h ad (MS.s_isCell (MS.s_cells x c3) i3)) rfl rfl (by decide) (by decide) (fun r4 u9 H locs hp9 hP hD hS => ?_)
                have hP : va_P D vwCl (MW dA h ad (MS.s_isCell (MS.s_cells x c3) i3)) H := hP
                have hD : va_D A (MW dA h ad (MS.s_isCell (MS.s_cells x c3) i3)) := hD
                replace hp9 : nI ((a * 256 + (k - 1)) * 64 + r) = r4 := Eq.symm hp9
                subst hp9
                refine lv_iload_n hx hb d_M_spread_54 rfl (lv_at hl 4 rfl) ?_
                refine lv_iconst (v := 0) hx hb d_M_spread_55 (by decide) ?_
                refine lv_iload hx hb d_M_spread_56 (lv_at hl 0 rfl) ?_
                have hPc := hP.sub (ws' := []) [] rfl
                have hDc := hD.sub (ws' := []) [] (by decide) rfl
                refine jnI (rnS (As := [.int (nI a), .int 0, .int (nI r)]) (rest := [.int (nI ((a * 256 + (k - 1)) * 64 + r)), .int sg, .ref h]) hx hb hml hown hE hK (hN _ _ hS) hPc hDc (k_cellAt l D dA H.size a 0 r) w971 w970 w972 w328 rfl rfl ⟨⟨by decide, by decide⟩, rfl⟩ ⟨(Nat.le_of_ble_eq_true rfl), (Nat.le_of_ble_eq_true rfl)⟩ rfl hl.1 rfl (Nat.le_of_ble_eq_true rfl) d_M_spread_58 ⟨(Nat.le_of_ble_eq_true rfl), (Nat.le_of_ble_eq_true rfl)⟩) hP hD hS hA [] [0, 1, 2, 3, 4, 5, 6, 7, 8, 9, 10, 11, 12, 13, 14, 15, 16, 17, 18, 19, 20, 21, 22, 23, 24, 25, 26, 27, 28, 29, 30, 31, 32, 33, 34, 35, 36, 37, 38] (wr := MW dA h ad (MS.s_isCell (MS.s_cells x c3) i3)) rfl rfl (by decide) (by decide) (fun r6 u9 H locs hp9 hP hD hS => ?_)
                have hP : va_P D vwCl (MW dA h ad (MS.s_isCell (MS.s_cells x c3) i3)) H := hP
                have hD : va_D A (MW dA h ad (MS.s_isCell (MS.s_cells x c3) i3)) := hD
                replace hp9 : nI ((a * 256 + 0) * 64 + r) = r6 := Eq.symm hp9
                subst hp9
                refine lv_iload_n hx hb d_M_spread_61 rfl (lv_at hl 3 rfl) ?_
                refine lv_iload hx hb d_M_spread_62 (lv_at hl 1 rfl) ?_
                refine tpi (y := nI (k - 1)) (nI_m1 z0) ?_
                refine lv_iload hx hb d_M_spread_64 (lv_at hl 0 rfl) ?_
                have hPc := hP.sub (ws' := []) [] rfl
                have hDc := hD.sub (ws' := []) [] (by decide) rfl
                refine jnI (rnS (As := [.int (nI b), .int (nI (k - 1)), .int (nI r)]) (rest := [.int (nI ((a * 256 + 0) * 64 + r)), .int (nI ((a * 256 + (k - 1)) * 64 + r)), .int sg, .ref h]) hx hb hml hown hE hK (hN _ _ hS) hPc hDc (k_cellAt l D dA H.size b (k - 1) r) w971 w970 w972 w328 rfl rfl ⟨⟨by decide, by decide⟩, rfl⟩ ⟨(Nat.le_of_ble_eq_true rfl), (Nat.le_of_ble_eq_true rfl)⟩ rfl hl.1 rfl (Nat.le_of_ble_eq_true rfl) d_M_spread_66 ⟨(Nat.le_of_ble_eq_true rfl), (Nat.le_of_ble_eq_true rfl)⟩) hP hD hS hA [] [0, 1, 2, 3, 4, 5, 6, 7, 8, 9, 10, 11, 12, 13, 14, 15, 16, 17, 18, 19, 20, 21, 22, 23, 24, 25, 26, 27, 28, 29, 30, 31, 32, 33, 34, 35, 36, 37, 38] (wr := MW dA h ad (MS.s_isCell (MS.s_cells x c3) i3)) rfl rfl (by decide) (by decide) (fun r8 u9 H locs hp9 hP hD hS => ?_)
                have hP : va_P D vwCl (MW dA h ad (MS.s_isCell (MS.s_cells x c3) i3)) H := hP
                have hD : va_D A (MW dA h ad (MS.s_isCell (MS.s_cells x c3) i3)) := hD
                replace hp9 : nI ((b * 256 + (k - 1)) * 64 + r) = r8 := Eq.symm hp9
                subst hp9
                refine jfV (rnV (As := [.int sg, .int (nI ((a * 256 + (k - 1)) * 64 + r)), .int (nI ((a * 256 + 0) * 64 + r)), .int (nI ((b * 256 + (k - 1)) * 64 + r))]) (rest := []) hx hb hml hown hE hK (hN _ _ hS) hP hD (k_join l D dA H.size h ad (MS.s_isCell (MS.s_cells x c3) i3) sg ((a * 256 + (k - 1)) * 64 + r) ((a * 256 + 0) * 64 + r) ((b * 256 + (k - 1)) * 64 + r) hsg (show ((a * 256 + (k - 1)) * 64 + r) < 327680 from by omega) (show ((a * 256 + 0) * 64 + r) < 327680 from by omega) (show ((b * 256 + (k - 1)) * 64 + r) < 327680 from by omega)) (q0 := 0) rfl rfl w974 w973 w975 w976 w328 rfl rfl ⟨⟨by decide, by decide⟩, rfl⟩ ⟨(Nat.le_of_ble_eq_true rfl), (Nat.le_of_ble_eq_true rfl)⟩ rfl hl.1 rfl (Nat.le_of_ble_eq_true rfl) d_M_spread_69 ⟨(Nat.le_of_ble_eq_true rfl), (Nat.le_of_ble_eq_true rfl)⟩) hP hD hS hA (fun u11 H locs hp9 hP hD hS => ?_)
                have hP : va_P D vwCl (MW dA h ad (MS.s_isCell (MS.s_cells x (va_up c3 ((a * 256 + (k - 1)) * 64 + r) (jnW sg (jnB sg (i3 ((a * 256 + 0) * 64 + r)) (i3 ((b * 256 + (k - 1)) * 64 + r)) (c3 ((b * 256 + (k - 1)) * 64 + r))) (c3 ((a * 256 + 0) * 64 + r)) (c3 ((b * 256 + (k - 1)) * 64 + r))))) (va_up i3 ((a * 256 + (k - 1)) * 64 + r) (jnB sg (i3 ((a * 256 + 0) * 64 + r)) (i3 ((b * 256 + (k - 1)) * 64 + r)) (c3 ((b * 256 + (k - 1)) * 64 + r)))))) H := hP
                have hD : va_D A (MW dA h ad (MS.s_isCell (MS.s_cells x (va_up c3 ((a * 256 + (k - 1)) * 64 + r) (jnW sg (jnB sg (i3 ((a * 256 + 0) * 64 + r)) (i3 ((b * 256 + (k - 1)) * 64 + r)) (c3 ((b * 256 + (k - 1)) * 64 + r))) (c3 ((a * 256 + 0) * 64 + r)) (c3 ((b * 256 + (k - 1)) * 64 + r))))) (va_up i3 ((a * 256 + (k - 1)) * 64 + r) (jnB sg (i3 ((a * 256 + 0) * 64 + r)) (i3 ((b * 256 + (k - 1)) * 64 + r)) (c3 ((b * 256 + (k - 1)) * 64 + r)))))) := hD
                refine lv_iinc (k := 0) (v := nI (r + 1)) hx hb d_M_spread_72 hl rfl (iincN (r) 1 1 (by decide)) (by decide) rfl (fun ls hl => ?_)
                have hl : lv_has ls 7 [(6, .int (nI (r + 1))), (5, .int (nI k - 1)), (4, .int (nI n)), (3, .int (nI b)), (2, .int (nI a)), (1, .int sg), (0, .ref h)] := hl
                refine lv_goto hx hb d_M_spread_75 (tgt := 35) rfl ?_
                exact ih35 _ (by omega) (r + 1) (va_up i3 ((a * 256 + (k - 1)) * 64 + r) (jnB sg (i3 ((a * 256 + 0) * 64 + r)) (i3 ((b * 256 + (k - 1)) * 64 + r)) (c3 ((b * 256 + (k - 1)) * 64 + r)))) (va_up c3 ((a * 256 + (k - 1)) * 64 + r) (jnW sg (jnB sg (i3 ((a * 256 + 0) * 64 + r)) (i3 ((b * 256 + (k - 1)) * 64 + r)) (c3 ((b * 256 + (k - 1)) * 64 + r))) (c3 ((a * 256 + 0) * 64 + r)) (c3 ((b * 256 + (k - 1)) * 64 + r)))) (by omega) (jrG_s i5) rfl H _ ls hP hD hS (lv_sub hl [0, 1, 2, 3, 4, 5, 6] rfl)
          exact L35 _ 0 i2 c2 (Nat.zero_le _) rfl rfl H _ ls hP hD hS (lv_sub hl [0, 1, 2, 3, 4, 5, 6] rfl)
    exact L27 _ n 0 x.isCell x.cells (by omega) rfl rfl H _ ls hP hD hS (lv_sub hl [0, 1, 2, 3, 4, 5] rfl)
  refine lv_aload_n hx hb d_M_spread_0 rfl (lv_at hl 0 rfl) ?_
  refine gF (v := .ref (ad 51)) hx hb hown hE hK hP 0 rfl rfl layM 51 (by decide) w521 rfl d_M_spread_1 ?_
  refine lv_iload_n hx hb d_M_spread_4 rfl (lv_at hl 2 rfl) ?_
  refine nild (f := (fun z9 => nI (x.tableRows z9))) hx hb hK hP 24 1 rfl rfl (a) (by omega) (by decide) d_M_spread_5 ?_
  refine lv_if_le hx hb d_M_spread_6 (tgt := 18) rfl (fun g12 => ?_) (fun g12 => ?_)
  · have g12 := (nI_leI (a := x.tableRows a) (b := 0) (by omega) (by decide)).mp g12
    refine lv_iconst (v := 0) hx hb d_M_spread_18 (by decide) ?_
    refine tpi (y := nI n) (by rw [← hn, if_neg (by omega)]; rfl) ?_
    exact J19  H _ ls hP hD hS (lv_sub hl [3, 2, 1, 0] rfl)
  · have g12 := mt (nI_leI (a := x.tableRows a) (b := 0) (by omega) (by decide)).mpr g12
    refine lv_aload_n hx hb d_M_spread_9 rfl (lv_at hl 0 rfl) ?_
    refine gF (v := .ref (ad 51)) hx hb hown hE hK hP 0 rfl rfl layM 51 (by decide) w521 rfl d_M_spread_10 ?_
    refine lv_iload_n hx hb d_M_spread_13 rfl (lv_at hl 3 rfl) ?_
    refine nild (f := (fun z9 => nI (x.tableRows z9))) hx hb hK hP 24 1 rfl rfl (b) (by omega) (by decide) d_M_spread_14 ?_
    refine tpi (y := nI n) (congrArg nI (by rw [← hn, if_pos (by omega)])) ?_
    refine lv_goto hx hb d_M_spread_15 (tgt := 19) rfl ?_
    exact J19  H _ ls hP hD hS (lv_sub hl [3, 2, 1, 0] rfl)
end
section
def MS.isPar (x : MS) (k : Nat) : Bool := decide (x.signs k = 40)
def MS.opnB (x : MS) : Bool := anyB x.signCount x.isPar
theorem d_M_isOpen_0 : decode prog_14_method_87_code 0 = .ok (.iconst 0, 1) := by decide +kernel
theorem d_M_isOpen_1 : decode prog_14_method_87_code 1 = .ok (.istore_n 1, 1) := by decide +kernel
theorem d_M_isOpen_2 : decode prog_14_method_87_code 2 = .ok (.iconst 0, 1) := by decide +kernel
theorem d_M_isOpen_3 : decode prog_14_method_87_code 3 = .ok (.istore_n 2, 1) := by decide +kernel
theorem d_M_isOpen_4 : decode prog_14_method_87_code 4 = .ok (.iload_n 2, 1) := by decide +kernel
theorem d_M_isOpen_5 : decode prog_14_method_87_code 5 = .ok (.aload_n 0, 1) := by decide +kernel
theorem d_M_isOpen_6 : decode prog_14_method_87_code 6 = .ok (.getfield 439, 3) := by decide +kernel
theorem d_M_isOpen_9 : decode prog_14_method_87_code 9 = .ok (.if_icmp .ge 30, 3) := by decide +kernel
theorem d_M_isOpen_39 : decode prog_14_method_87_code 39 = .ok (.iload_n 1, 1) := by decide +kernel
theorem d_M_isOpen_40 : decode prog_14_method_87_code 40 = .ok (.ireturn, 1) := by decide +kernel
theorem d_M_isOpen_12 : decode prog_14_method_87_code 12 = .ok (.iload_n 1, 1) := by decide +kernel
theorem d_M_isOpen_13 : decode prog_14_method_87_code 13 = .ok (.ifCond .ne 14, 3) := by decide +kernel
theorem d_M_isOpen_27 : decode prog_14_method_87_code 27 = .ok (.iconst 1, 1) := by decide +kernel
theorem d_M_isOpen_28 : decode prog_14_method_87_code 28 = .ok (.goto 4, 3) := by decide +kernel
theorem d_M_isOpen_32 : decode prog_14_method_87_code 32 = .ok (.istore_n 1, 1) := by decide +kernel
theorem d_M_isOpen_33 : decode prog_14_method_87_code 33 = .ok (.iinc 2 1, 3) := by decide +kernel
theorem d_M_isOpen_36 : decode prog_14_method_87_code 36 = .ok (.goto (-32), 3) := by decide +kernel
theorem d_M_isOpen_16 : decode prog_14_method_87_code 16 = .ok (.aload_n 0, 1) := by decide +kernel
theorem d_M_isOpen_17 : decode prog_14_method_87_code 17 = .ok (.getfield 126, 3) := by decide +kernel
theorem d_M_isOpen_20 : decode prog_14_method_87_code 20 = .ok (.iload_n 2, 1) := by decide +kernel
theorem d_M_isOpen_21 : decode prog_14_method_87_code 21 = .ok (.iaload, 1) := by decide +kernel
theorem d_M_isOpen_22 : decode prog_14_method_87_code 22 = .ok (.bipush 40, 2) := by decide +kernel
theorem d_M_isOpen_24 : decode prog_14_method_87_code 24 = .ok (.if_icmp .ne 7, 3) := by decide +kernel
theorem d_M_isOpen_31 : decode prog_14_method_87_code 31 = .ok (.iconst 0, 1) := by decide +kernel
set_option maxHeartbeats 4000000 in
set_option maxRecDepth 100000 in
theorem k_isOpen (l : Launch) (D : va_G) (dA : Nat → ClassId) (sz : Nat) (h : Nat) (ad : Nat → Nat) (x : MS) (h1 : x.signCount ≤ 32) (h2 : ∀ k : Nat, k < x.signCount → x.signs k < 65536) : Met l ⟨"SeriesVaultModel", "isOpen", "()Z"⟩ [Cond.code ⟨"SeriesVaultModel", "isOpen", "()Z"⟩ prog_14_method_87_code 3 (some FieldType.boolean)] { frames := 1, cells := 0, slots := 0, locals := 0 } (pC D dA [.ref h] (MW dA h ad x) sz) (va_Qi (fun (r9 : Int32) (u9 : Unit) => r9 = bI x.opnB) (fun (u9 : Unit) t9 => bW D (va_A (MW dA h ad x) sz) (MW dA h ad x) t9) (va_A (MW dA h ad x) sz)) 0 0 (va_A (MW dA h ad x) sz) := by
  refine mkC (y := ⟨"SeriesVaultModel", "isOpen", "()Z"⟩) (cc := prog_14_method_87_code) (maxL := 3) (av := [.ref h]) (ws := MW dA h ad x) (sz := sz) (Qc := fun A => va_Qi (fun (r9 : Int32) (u9 : Unit) => r9 = bI x.opnB) (fun (u9 : Unit) t9 => bW D A (MW dA h ad x) t9) A) (by decide) (Nat.le_of_ble_eq_true rfl) ?_
  intro A p e s m below meth c ls hsz hB
  obtain ⟨hx, hb, hr, hml, hown, hin, hlk, hE, hK, hP, hD, hS, hA, hN, hl⟩ := hB
  have hown : s.vm.findClass "SeriesVaultModel" = some m.cls := hown
  have hl : lv_has ls 3 [(0, .ref h)] := hl
  obtain ⟨H, hH⟩ : ∃ z, z = s.heap := ⟨_, rfl⟩
  have hP : va_P D vwCl (MW dA h ad x) H := by rw [hH]; exact hP
  have hS : va_S A s.heap H [] := by rw [hH]; exact hS
  rw [← hH]
  refine lv_iconst (v := 0) hx hb d_M_isOpen_0 (by decide) ?_
  refine lv_istore_n hx hb d_M_isOpen_1 rfl hl (by decide) rfl (fun ls hl => ?_)
  have hl : lv_has ls 3 [(1, .int 0), (0, .ref h)] := hl
  refine lv_iconst (v := 0) hx hb d_M_isOpen_2 (by decide) ?_
  refine lv_istore_n hx hb d_M_isOpen_3 rfl hl (by decide) rfl (fun ls hl => ?_)
  have hl : lv_has ls 3 [(2, .int 0), (1, .int 0), (0, .ref h)] := hl
  have L4 : ∀ (k9 : Nat) (k : Nat) (v : Bool) (i1 : k ≤ x.signCount) (i2 : anyB k x.isPar = v) (hk9 : x.signCount - k = k9), ∀ (H : Heap) (locs : List Loc) (ls : Array Slot) (hP : va_P D vwCl (MW dA h ad x) H) (hD : va_D A (MW dA h ad x)) (hS : va_S A s.heap H locs) (hl : lv_has ls 3 [(2, .int (nI k)), (1, .int (bI v)), (0, .ref h)]), W p l e ({ frames := 1, cells := 0, slots := 0, locals := 0 } : Room) s m ([.ref h] : List Value).toArray below meth c H locs 0 0 (MQ below (va_Qi (fun (r9 : Int32) (u9 : Unit) => r9 = bI x.opnB) (fun (u9 : Unit) t9 => bW D A (MW dA h ad x) t9) A) ([.ref h] : List Value).toArray s 0 0 A) (F0 m 4 ls []) := by
    intro k9
    induction k9 using Nat.strongRecOn with
    | ind k9 ih4 =>
      intro k v i1 i2 hk9 H locs ls hP hD hS hl
      refine lv_iload_n hx hb d_M_isOpen_4 rfl (lv_at hl 0 rfl) ?_
      refine lv_aload_n hx hb d_M_isOpen_5 rfl (lv_at hl 2 rfl) ?_
      refine gF (v := .int (nI x.signCount)) hx hb hown hE hK hP 0 rfl rfl layM 68 (by decide) w477 rfl d_M_isOpen_6 ?_
      refine lv_icmp_ge hx hb d_M_isOpen_9 (tgt := 39) rfl (fun g1 => ?_) (fun g1 => ?_)
      · have g1 := (nI_leI (a := x.signCount) (b := k) (by omega) (by omega)).mp g1
        refine lv_iload_n hx hb d_M_isOpen_39 rfl (lv_at hl 1 rfl) ?_
        exact rfZ hx hb hr (bI_nar v) hlk hS () (by rw [← i2, show k = x.signCount by omega]; rfl) hP hD (Nat.le_of_ble_eq_true rfl) (Nat.le_of_ble_eq_true rfl) d_M_isOpen_40
      · have g1 := mt (nI_leI (a := x.signCount) (b := k) (by omega) (by omega)).mpr g1
        refine lv_iload_n hx hb d_M_isOpen_12 rfl (lv_at hl 1 rfl) ?_
        refine lv_if_ne hx hb d_M_isOpen_13 (tgt := 27) rfl (fun g2 => ?_) (fun g2 => ?_)
        · have g2 := bI_n0 g2
          refine lv_iconst (v := 1) hx hb d_M_isOpen_27 (by decide) ?_
          refine lv_goto hx hb d_M_isOpen_28 (tgt := 32) rfl ?_
          refine lv_istore_n hx hb d_M_isOpen_32 rfl hl (by decide) rfl (fun ls hl => ?_)
          have hl : lv_has ls 3 [(1, .int 1), (2, .int (nI k)), (0, .ref h)] := hl
          refine lv_iinc (k := 1) (v := nI (k + 1)) hx hb d_M_isOpen_33 hl rfl (iincN (k) 1 1 (by decide)) (by decide) rfl (fun ls hl => ?_)
          have hl : lv_has ls 3 [(2, .int (nI (k + 1))), (1, .int 1), (0, .ref h)] := hl
          refine lv_goto hx hb d_M_isOpen_36 (tgt := 4) rfl ?_
          exact ih4 _ (by omega) (k + 1) true (by omega) (by rw [anyB_s, i2, g2]; rfl) rfl H _ ls hP hD hS (lv_sub hl [0, 1, 2] rfl)
        · have g2 := bI_0 g2
          refine lv_aload_n hx hb d_M_isOpen_16 rfl (lv_at hl 2 rfl) ?_
          refine gF (v := .ref (ad 66)) hx hb hown hE hK hP 0 rfl rfl layM 66 (by decide) w532 rfl d_M_isOpen_17 ?_
          refine lv_iload_n hx hb d_M_isOpen_20 rfl (lv_at hl 0 rfl) ?_
          refine nild (f := (fun z9 => nI (x.signs z9))) hx hb hK hP 33 1 rfl rfl (k) (by omega) (by decide) d_M_isOpen_21 ?_
          refine lv_bipush (v := 40) hx hb d_M_isOpen_22 (by decide) ?_
          have b1 := h2 k (by omega)
          refine lv_icmp_ne hx hb d_M_isOpen_24 (tgt := 31) rfl (fun g3 => ?_) (fun g3 => ?_)
          · have g3 := mt (nI_eq (a := x.signs k) (b := 40) (by omega) (by omega)).mpr g3
            refine lv_iconst (v := 0) hx hb d_M_isOpen_31 (by decide) ?_
            refine lv_istore_n hx hb d_M_isOpen_32 rfl hl (by decide) rfl (fun ls hl => ?_)
            have hl : lv_has ls 3 [(1, .int 0), (2, .int (nI k)), (0, .ref h)] := hl
            refine lv_iinc (k := 1) (v := nI (k + 1)) hx hb d_M_isOpen_33 hl rfl (iincN (k) 1 1 (by decide)) (by decide) rfl (fun ls hl => ?_)
            have hl : lv_has ls 3 [(2, .int (nI (k + 1))), (1, .int 0), (0, .ref h)] := hl
            refine lv_goto hx hb d_M_isOpen_36 (tgt := 4) rfl ?_
            exact ih4 _ (by omega) (k + 1) false (by omega) (by rw [anyB_s, i2, g2, Bool.false_or]; exact decide_eq_false g3) rfl H _ ls hP hD hS (lv_sub hl [0, 1, 2] rfl)
          · have g3 := (nI_eq (a := x.signs k) (b := 40) (by omega) (by omega)).mp g3
            refine lv_iconst (v := 1) hx hb d_M_isOpen_27 (by decide) ?_
            refine lv_goto hx hb d_M_isOpen_28 (tgt := 32) rfl ?_
            refine lv_istore_n hx hb d_M_isOpen_32 rfl hl (by decide) rfl (fun ls hl => ?_)
            have hl : lv_has ls 3 [(1, .int 1), (2, .int (nI k)), (0, .ref h)] := hl
            refine lv_iinc (k := 1) (v := nI (k + 1)) hx hb d_M_isOpen_33 hl rfl (iincN (k) 1 1 (by decide)) (by decide) rfl (fun ls hl => ?_)
            have hl : lv_has ls 3 [(2, .int (nI (k + 1))), (1, .int 1), (0, .ref h)] := hl
            refine lv_goto hx hb d_M_isOpen_36 (tgt := 4) rfl ?_
            exact ih4 _ (by omega) (k + 1) true (by omega) (by rw [anyB_s, i2, g2, Bool.false_or]; exact decide_eq_true g3) rfl H _ ls hP hD hS (lv_sub hl [0, 1, 2] rfl)
  exact L4 _ 0 false (Nat.zero_le _) rfl rfl H _ ls hP hD hS (lv_sub hl [0, 1, 2] rfl)
end
