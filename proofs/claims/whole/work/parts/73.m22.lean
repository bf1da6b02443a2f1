/-- k places from b on filled -/
def filG {α : Type} (f : Nat → α) (b : Nat) (v : α) : Nat → Nat → α
  | 0 => f
  | k + 1 => va_up (filG f b v k) (b + k) v
def cA (t r : Nat) : Nat := (t * 256 + r) * 64
/-- k places from b on turned -/
def ngW (f : Nat → Int64) (b : Nat) : Nat → Nat → Int64
  | 0 => f
  | k + 1 => va_up (ngW f b k) (b + k) (-(ngW f b k (b + k)))
def ngR (f : Nat → Int64) (t n : Nat) : Nat → Nat → Int64
  | 0 => f
  | r + 1 => ngW (ngR f t n r) (cA t r) n
theorem d_M_number_566_0 : decode prog_14_method_72_code 0 = .ok (.aload_n 0, 1) := by decide +kernel
theorem d_M_number_566_1 : decode prog_14_method_72_code 1 = .ok (.getfield 88, 3) := by decide +kernel
theorem d_M_number_566_4 : decode prog_14_method_72_code 4 = .ok (.aload_n 0, 1) := by decide +kernel
theorem d_M_number_566_5 : decode prog_14_method_72_code 5 = .ok (.getfield 400, 3) := by decide +kernel
theorem d_M_number_566_8 : decode prog_14_method_72_code 8 = .ok (.iconst 0, 1) := by decide +kernel
theorem d_M_number_566_9 : decode prog_14_method_72_code 9 = .ok (.iastore, 1) := by decide +kernel
theorem d_M_number_566_10 : decode prog_14_method_72_code 10 = .ok (.aload_n 0, 1) := by decide +kernel
theorem d_M_number_566_11 : decode prog_14_method_72_code 11 = .ok (.getfield 97, 3) := by decide +kernel
theorem d_M_number_566_14 : decode prog_14_method_72_code 14 = .ok (.aload_n 0, 1) := by decide +kernel
theorem d_M_number_566_15 : decode prog_14_method_72_code 15 = .ok (.getfield 400, 3) := by decide +kernel
theorem d_M_number_566_18 : decode prog_14_method_72_code 18 = .ok (.iconst 1, 1) := by decide +kernel
theorem d_M_number_566_19 : decode prog_14_method_72_code 19 = .ok (.iastore, 1) := by decide +kernel
theorem d_M_number_566_20 : decode prog_14_method_72_code 20 = .ok (.aload_n 0, 1) := by decide +kernel
theorem d_M_number_566_21 : decode prog_14_method_72_code 21 = .ok (.getfield 100, 3) := by decide +kernel
theorem d_M_number_566_24 : decode prog_14_method_72_code 24 = .ok (.sipush 256, 3) := by decide +kernel
theorem d_M_number_566_27 : decode prog_14_method_72_code 27 = .ok (.aload_n 0, 1) := by decide +kernel
theorem d_M_number_566_28 : decode prog_14_method_72_code 28 = .ok (.getfield 400, 3) := by decide +kernel
theorem d_M_number_566_31 : decode prog_14_method_72_code 31 = .ok (.imul, 1) := by decide +kernel
theorem d_M_number_566_32 : decode prog_14_method_72_code 32 = .ok (.iconst 0, 1) := by decide +kernel
theorem d_M_number_566_33 : decode prog_14_method_72_code 33 = .ok (.iastore, 1) := by decide +kernel
theorem d_M_number_566_34 : decode prog_14_method_72_code 34 = .ok (.iconst 0, 1) := by decide +kernel
theorem d_M_number_566_35 : decode prog_14_method_72_code 35 = .ok (.istore_n 1, 1) := by decide +kernel
theorem d_M_number_566_36 : decode prog_14_method_72_code 36 = .ok (.iload_n 1, 1) := by decide +kernel
theorem d_M_number_566_37 : decode prog_14_method_72_code 37 = .ok (.aload_n 0, 1) := by decide +kernel
theorem d_M_number_566_38 : decode prog_14_method_72_code 38 = .ok (.getfield 412, 3) := by decide +kernel
theorem d_M_number_566_41 : decode prog_14_method_72_code 41 = .ok (.if_icmp .ge 42, 3) := by decide +kernel
theorem d_M_number_566_83 : decode prog_14_method_72_code 83 = .ok (.aload_n 0, 1) := by decide +kernel
theorem d_M_number_566_84 : decode prog_14_method_72_code 84 = .ok (.dup, 1) := by decide +kernel
theorem d_M_number_566_85 : decode prog_14_method_72_code 85 = .ok (.getfield 400, 3) := by decide +kernel
theorem d_M_number_566_88 : decode prog_14_method_72_code 88 = .ok (.iconst 1, 1) := by decide +kernel
theorem d_M_number_566_89 : decode prog_14_method_72_code 89 = .ok (.iadd, 1) := by decide +kernel
theorem d_M_number_566_90 : decode prog_14_method_72_code 90 = .ok (.putfield 400, 3) := by decide +kernel
theorem d_M_number_566_93 : decode prog_14_method_72_code 93 = .ok (.return_, 1) := by decide +kernel
theorem d_M_number_566_44 : decode prog_14_method_72_code 44 = .ok (.aload_n 0, 1) := by decide +kernel
theorem d_M_number_566_45 : decode prog_14_method_72_code 45 = .ok (.getfield 107, 3) := by decide +kernel
theorem d_M_number_566_48 : decode prog_14_method_72_code 48 = .ok (.aload_n 0, 1) := by decide +kernel
theorem d_M_number_566_49 : decode prog_14_method_72_code 49 = .ok (.getfield 400, 3) := by decide +kernel
theorem d_M_number_566_52 : decode prog_14_method_72_code 52 = .ok (.iconst 0, 1) := by decide +kernel
theorem d_M_number_566_53 : decode prog_14_method_72_code 53 = .ok (.iload_n 1, 1) := by decide +kernel
theorem d_M_number_566_54 : decode prog_14_method_72_code 54 = .ok (.invokestatic 397, 3) := by decide +kernel
theorem d_M_number_566_57 : decode prog_14_method_72_code 57 = .ok (.iconst 1, 1) := by decide +kernel
theorem d_M_number_566_58 : decode prog_14_method_72_code 58 = .ok (.bastore, 1) := by decide +kernel
theorem d_M_number_566_59 : decode prog_14_method_72_code 59 = .ok (.aload_n 0, 1) := by decide +kernel
theorem d_M_number_566_60 : decode prog_14_method_72_code 60 = .ok (.getfield 104, 3) := by decide +kernel
theorem d_M_number_566_63 : decode prog_14_method_72_code 63 = .ok (.aload_n 0, 1) := by decide +kernel
theorem d_M_number_566_64 : decode prog_14_method_72_code 64 = .ok (.getfield 400, 3) := by decide +kernel
theorem d_M_number_566_67 : decode prog_14_method_72_code 67 = .ok (.iconst 0, 1) := by decide +kernel
theorem d_M_number_566_68 : decode prog_14_method_72_code 68 = .ok (.iload_n 1, 1) := by decide +kernel
theorem d_M_number_566_69 : decode prog_14_method_72_code 69 = .ok (.invokestatic 397, 3) := by decide +kernel
theorem d_M_number_566_72 : decode prog_14_method_72_code 72 = .ok (.aload_n 0, 1) := by decide +kernel
theorem d_M_number_566_73 : decode prog_14_method_72_code 73 = .ok (.getfield 366, 3) := by decide +kernel
theorem d_M_number_566_76 : decode prog_14_method_72_code 76 = .ok (.lastore, 1) := by decide +kernel
theorem d_M_number_566_77 : decode prog_14_method_72_code 77 = .ok (.iinc 1 1, 3) := by decide +kernel
theorem d_M_number_566_80 : decode prog_14_method_72_code 80 = .ok (.goto (-44), 3) := by decide +kernel
theorem w970 : Cond.methodLink "SeriesVaultModel" 397 ⟨"SeriesVaultModel", "cellAt", "(III)I"⟩ ∈ aW := aw_of (tb_11 (List.mem_of_getElem? (i := 1) rfl)) rfl
theorem w971 : Cond.code ⟨"SeriesVaultModel", "cellAt", "(III)I"⟩ prog_14_method_64_code 3 (some FieldType.int) ∈ aW := aw_of (tb_11 (List.mem_of_getElem? (i := 3) rfl)) rfl
theorem w972 : Cond.static ⟨"SeriesVaultModel", "cellAt", "(III)I"⟩ ∈ aW := aw_of (tb_11 (List.mem_of_getElem? (i := 2) rfl)) rfl
set_option maxHeartbeats 4000000 in
set_option maxRecDepth 100000 in
theorem k_number_v (l : Launch) (D : va_G) (dA : Nat → ClassId) (sz : Nat) (h : Nat) (ad : Nat → Nat) (x : MS) (h1 : x.pile < 20) (h2 : x.windows ≤ 64) : Met l ⟨"SeriesVaultModel", "number", "()V"⟩ [Cond.code ⟨"SeriesVaultModel", "number", "()V"⟩ prog_14_method_72_code 2 none] { frames := 2, cells := 0, slots := 0, locals := 22 } (pC D dA [.ref h] (MW dA h ad x) sz) (va_Qv (fun (u9 : Unit) => True) (fun (u9 : Unit) t9 => bW D (va_A (MW dA h ad x) sz) (MW dA h ad (MS.s_pile (MS.s_isCell (MS.s_cells (MS.s_rowSeries (MS.s_tableRows (MS.s_tableNames x (va_up x.tableNames x.pile 0)) (va_up x.tableRows x.pile 1)) (va_up x.rowSeries (256 * x.pile) 0)) (filG x.cells (cA x.pile 0) x.amount x.windows)) (filG x.isCell (cA x.pile 0) true x.windows)) (x.pile + 1))) t9) (va_A (MW dA h ad x) sz)) 0 0 (va_A (MW dA h ad x) sz) := by
  refine mkC (y := ⟨"SeriesVaultModel", "number", "()V"⟩) (cc := prog_14_method_72_code) (maxL := 2) (av := [.ref h]) (ws := MW dA h ad x) (sz := sz) (Qc := fun A => va_Qv (fun (u9 : Unit) => True) (fun (u9 : Unit) t9 => bW D A (MW dA h ad (MS.s_pile (MS.s_isCell (MS.s_cells (MS.s_rowSeries (MS.s_tableRows (MS.s_tableNames x (va_up x.tableNames x.pile 0)) (va_up x.tableRows x.pile 1)) (va_up x.rowSeries (256 * x.pile) 0)) (filG x.cells (cA x.pile 0) x.amount x.windows)) (filG x.isCell (cA x.pile 0) true x.windows)) (x.pile + 1))) t9) A) (by decide) (Nat.le_of_ble_eq_true rfl) ?_
  intro A p e s m below meth c ls hsz hB
  obtain ⟨hx, hb, hr, hml, hown, hin, hlk, hE, hK, hP, hD, hS, hA, hN, hl⟩ := hB
  have hown : s.vm.findClass "SeriesVaultModel" = some m.cls := hown
  have hl : lv_has ls 2 [(0, .ref h)] := hl
  obtain ⟨H, hH⟩ : ∃ z, z = s.heap := ⟨_, rfl⟩
  have hP : va_P D vwCl (MW dA h ad x) H := by rw [hH]; exact hP
  have hS : va_S A s.heap H [] := by rw [hH]; exact hS
  rw [← hH]
  refine lv_aload_n hx hb d_M_number_566_0 rfl (lv_at hl 0 rfl) ?_
  refine gF (v := .ref (ad 48)) hx hb hown hE hK hP 0 rfl rfl layM 48 (by decide) w518 rfl d_M_number_566_1 ?_
  refine lv_aload_n hx hb d_M_number_566_4 rfl (lv_at hl 0 rfl) ?_
  refine gF (v := .int (nI x.pile)) hx hb hown hE hK hP 0 rfl rfl layM 55 (by decide) w476 rfl d_M_number_566_5 ?_
  refine lv_iconst (v := 0) hx hb d_M_number_566_8 (by decide) ?_
  refine nistN (v := 0) hx hb hK hP hD hS 21 1 rfl rfl (x.pile) (by omega) (by decide) d_M_number_566_9 (fun H locs hP hD hS => ?_)
  have hP : va_P D vwCl (MW dA h ad (MS.s_tableNames x (va_up x.tableNames x.pile 0))) H := hP
  have hD : va_D A (MW dA h ad (MS.s_tableNames x (va_up x.tableNames x.pile 0))) := hD
  refine lv_aload_n hx hb d_M_number_566_10 rfl (lv_at hl 0 rfl) ?_
  refine gF (v := .ref (ad 51)) hx hb hown hE hK hP 0 rfl rfl layM 51 (by decide) w521 rfl d_M_number_566_11 ?_
  refine lv_aload_n hx hb d_M_number_566_14 rfl (lv_at hl 0 rfl) ?_
  refine gF (v := .int (nI x.pile)) hx hb hown hE hK hP 0 rfl rfl layM 55 (by decide) w476 rfl d_M_number_566_15 ?_
  refine lv_iconst (v := 1) hx hb d_M_number_566_18 (by decide) ?_
  refine nistN (v := 1) hx hb hK hP hD hS 24 1 rfl rfl (x.pile) (by omega) (by decide) d_M_number_566_19 (fun H locs hP hD hS => ?_)
  have hP : va_P D vwCl (MW dA h ad (MS.s_tableRows (MS.s_tableNames x (va_up x.tableNames x.pile 0)) (va_up x.tableRows x.pile 1))) H := hP
  have hD : va_D A (MW dA h ad (MS.s_tableRows (MS.s_tableNames x (va_up x.tableNames x.pile 0)) (va_up x.tableRows x.pile 1))) := hD
  refine lv_aload_n hx hb d_M_number_566_20 rfl (lv_at hl 0 rfl) ?_
  refine gF (v := .ref (ad 52)) hx hb hown hE hK hP 0 rfl rfl layM 52 (by decide) w522 rfl d_M_number_566_21 ?_
  refine lv_sipush (v := 256) hx hb d_M_number_566_24 (by decide) ?_
  refine lv_aload_n hx hb d_M_number_566_27 rfl (lv_at hl 0 rfl) ?_
  refine gF (v := .int (nI x.pile)) hx hb hown hE hK hP 0 rfl rfl layM 55 (by decide) w476 rfl d_M_number_566_28 ?_
  refine lv_imul hx hb d_M_number_566_31 (tpi (y := nI (256 * x.pile)) (pk_mul (256) (x.pile)) ?_)
  refine lv_iconst (v := 0) hx hb d_M_number_566_32 (by decide) ?_
  refine nistN (v := 0) hx hb hK hP hD hS 25 1 rfl rfl (256 * x.pile) (by omega) (by decide) d_M_number_566_33 (fun H locs hP hD hS => ?_)
  have hP : va_P D vwCl (MW dA h ad (MS.s_rowSeries (MS.s_tableRows (MS.s_tableNames x (va_up x.tableNames x.pile 0)) (va_up x.tableRows x.pile 1)) (va_up x.rowSeries (256 * x.pile) 0))) H := hP
  have hD : va_D A (MW dA h ad (MS.s_rowSeries (MS.s_tableRows (MS.s_tableNames x (va_up x.tableNames x.pile 0)) (va_up x.tableRows x.pile 1)) (va_up x.rowSeries (256 * x.pile) 0))) := hD
  refine lv_iconst (v := 0) hx hb d_M_number_566_34 (by decide) ?_
  refine lv_istore_n hx hb d_M_number_566_35 rfl hl (by decide) rfl (fun ls hl => ?_)
  have hl : lv_has ls 2 [(1, .int 0), (0, .ref h)] := hl
  have L36 : ∀ (k9 : Nat) (k : Nat) (i1 : k ≤ x.windows) (hk9 : x.windows - k = k9), ∀ (H : Heap) (locs : List Loc) (ls : Array Slot) (hP : va_P D vwCl (MW dA h ad (MS.s_isCell (MS.s_cells (MS.s_rowSeries (MS.s_tableRows (MS.s_tableNames x (va_up x.tableNames x.pile 0)) (va_up x.tableRows x.pile 1)) (va_up x.rowSeries (256 * x.pile) 0)) (filG x.cells (cA x.pile 0) x.amount k)) (filG x.isCell (cA x.pile 0) true k))) H) (hD : va_D A (MW dA h ad (MS.s_isCell (MS.s_cells (MS.s_rowSeries (MS.s_tableRows (MS.s_tableNames x (va_up x.tableNames x.pile 0)) (va_up x.tableRows x.pile 1)) (va_up x.rowSeries (256 * x.pile) 0)) (filG x.cells (cA x.pile 0) x.amount k)) (filG x.isCell (cA x.pile 0) true k)))) (hS : va_S A s.heap H locs) (hl : lv_has ls 2 [(1, .int (nI k)), (0, .ref h)]), W p l e ({ frames := 2, cells := 0, slots := 0, locals := 22 } : Room) s m ([.ref h] : List Value).toArray below meth c H locs 0 0 (MQ below (va_Qv (fun (u9 : Unit) => True) (fun (u9 : Unit) t9 => bW D A (MW dA h ad (MS.s_pile (MS.s_isCell (MS.s_cells (MS.s_rowSeries (MS.s_tableRows (MS.s_tableNames x (va_up x.tableNames x.pile 0)) (va_up x.tableRows x.pile 1)) (va_up x.rowSeries (256 * x.pile) 0)) (filG x.cells (cA x.pile 0) x.amount x.windows)) (filG x.isCell (cA x.pile 0) true x.windows)) (x.pile + 1))) t9) A) ([.ref h] : List Value).toArray s 0 0 A) (F0 m 36 ls []) := by
    intro k9
    induction k9 using Nat.strongRecOn with
    | ind k9 ih36 =>
      intro k i1 hk9 H locs ls hP hD hS hl
      refine lv_iload_n hx hb d_M_number_566_36 rfl (lv_at hl 0 rfl) ?_
      refine lv_aload_n hx hb d_M_number_566_37 rfl (lv_at hl 1 rfl) ?_
      refine gF (v := .int (nI x.windows)) hx hb hown hE hK hP 0 rfl rfl layM 59 (by decide) w489 rfl d_M_number_566_38 ?_
      refine lv_icmp_ge hx hb d_M_number_566_41 (tgt := 83) rfl (fun g1 => ?_) (fun g1 => ?_)
      · have g1 := (nI_leI (a := x.windows) (b := k) (by omega) (by omega)).mp g1
        refine lv_aload_n hx hb d_M_number_566_83 rfl (lv_at hl 1 rfl) ?_
        refine lv_dup hx hb d_M_number_566_84 rfl ?_
        refine gF (v := .int (nI x.pile)) hx hb hown hE hK hP 0 rfl rfl layM 55 (by decide) w476 rfl d_M_number_566_85 ?_
        refine lv_iconst (v := 1) hx hb d_M_number_566_88 (by decide) ?_
        refine lv_iadd hx hb d_M_number_566_89 (tpi (y := nI (x.pile + 1)) (nI_add (x.pile) (1)) ?_)
        refine pF (v := .int (nI (x.pile + 1))) hx hb hown hE hK hP hD hS 0 rfl rfl layM tyM tokM nmM 55 (by decide) w476 rfl rfl rfl (Nat.le_of_ble_eq_true rfl) d_M_number_566_90 (fun H locs hP hD hS => ?_)
        have hP : va_P D vwCl (MW dA h ad (MS.s_pile (MS.s_isCell (MS.s_cells (MS.s_rowSeries (MS.s_tableRows (MS.s_tableNames x (va_up x.tableNames x.pile 0)) (va_up x.tableRows x.pile 1)) (va_up x.rowSeries (256 * x.pile) 0)) (filG x.cells (cA x.pile 0) x.amount k)) (filG x.isCell (cA x.pile 0) true k)) (x.pile + 1))) H := hP
        have hD : va_D A (MW dA h ad (MS.s_pile (MS.s_isCell (MS.s_cells (MS.s_rowSeries (MS.s_tableRows (MS.s_tableNames x (va_up x.tableNames x.pile 0)) (va_up x.tableRows x.pile 1)) (va_up x.rowSeries (256 * x.pile) 0)) (filG x.cells (cA x.pile 0) x.amount k)) (filG x.isCell (cA x.pile 0) true k)) (x.pile + 1))) := hD
        have e9 : (MS.s_pile (MS.s_isCell (MS.s_cells (MS.s_rowSeries (MS.s_tableRows (MS.s_tableNames x (va_up x.tableNames x.pile 0)) (va_up x.tableRows x.pile 1)) (va_up x.rowSeries (256 * x.pile) 0)) (filG x.cells (cA x.pile 0) x.amount k)) (filG x.isCell (cA x.pile 0) true k)) (x.pile + 1) : MS) = MS.s_pile (MS.s_isCell (MS.s_cells (MS.s_rowSeries (MS.s_tableRows (MS.s_tableNames x (va_up x.tableNames x.pile 0)) (va_up x.tableRows x.pile 1)) (va_up x.rowSeries (256 * x.pile) 0)) (filG x.cells (cA x.pile 0) x.amount x.windows)) (filG x.isCell (cA x.pile 0) true x.windows)) (x.pile + 1) := by rw [show (filG x.cells (cA x.pile 0) x.amount x.windows) = (filG x.cells (cA x.pile 0) x.amount k) from by (rw [show k = x.windows by omega]), show (filG x.isCell (cA x.pile 0) true x.windows) = (filG x.isCell (cA x.pile 0) true k) from by (rw [show k = x.windows by omega])] <;> rfl
        exact rfV hx hb hr hlk hS () trivial (cvP e9 hP) (cvD e9 hD) (Nat.le_of_ble_eq_true rfl) (Nat.le_of_ble_eq_true rfl) d_M_number_566_93
      · have g1 := mt (nI_leI (a := x.windows) (b := k) (by omega) (by omega)).mpr g1
        refine lv_aload_n hx hb d_M_number_566_44 rfl (lv_at hl 1 rfl) ?_
        refine gF (v := .ref (ad 54)) hx hb hown hE hK hP 0 rfl rfl layM 54 (by decide) w526 rfl d_M_number_566_45 ?_
        refine lv_aload_n hx hb d_M_number_566_48 rfl (lv_at hl 1 rfl) ?_
        refine gF (v := .int (nI x.pile)) hx hb hown hE hK hP 0 rfl rfl layM 55 (by decide) w476 rfl d_M_number_566_49 ?_
        refine lv_iconst (v := 0) hx hb d_M_number_566_52 (by decide) ?_
        refine lv_iload_n hx hb d_M_number_566_53 rfl (lv_at hl 0 rfl) ?_
        have hPc := hP.sub (ws' := []) [] rfl
        have hDc := hD.sub (ws' := []) [] (by decide) rfl
        refine jnI (rnS (As := [.int (nI x.pile), .int 0, .int (nI k)]) (rest := [.ref (ad 54)]) hx hb hml hown hE hK (hN _ _ hS) hPc hDc (k_cellAt l D dA H.size x.pile 0 k) w971 w970 w972 w328 rfl rfl ⟨⟨by decide, by decide⟩, rfl⟩ ⟨(Nat.le_of_ble_eq_true rfl), (Nat.le_of_ble_eq_true rfl)⟩ rfl hl.1 rfl (Nat.le_of_ble_eq_true rfl) d_M_number_566_54 ⟨(Nat.le_of_ble_eq_true rfl), (Nat.le_of_ble_eq_true rfl)⟩) hP hD hS hA [] [0, 1, 2, 3, 4, 5, 6, 7, 8, 9, 10, 11, 12, 13, 14, 15, 16, 17, 18, 19, 20, 21, 22, 23, 24, 25, 26, 27, 28, 29, 30, 31, 32, 33, 34, 35, 36, 37, 38] (wr := MW dA h ad (MS.s_isCell (MS.s_cells (MS.s_rowSeries (MS.s_tableRows (MS.s_tableNames x (va_up x.tableNames x.pile 0)) (va_up x.tableRows x.pile 1)) (va_up x.rowSeries (256 * x.pile) 0)) (filG x.cells (cA x.pile 0) x.amount k)) (filG x.isCell (cA x.pile 0) true k))) rfl rfl (by decide) (by decide) (fun r2 u9 H locs hp9 hP hD hS => ?_)
        have hP : va_P D vwCl (MW dA h ad (MS.s_isCell (MS.s_cells (MS.s_rowSeries (MS.s_tableRows (MS.s_tableNames x (va_up x.tableNames x.pile 0)) (va_up x.tableRows x.pile 1)) (va_up x.rowSeries (256 * x.pile) 0)) (filG x.cells (cA x.pile 0) x.amount k)) (filG x.isCell (cA x.pile 0) true k))) H := hP
        have hD : va_D A (MW dA h ad (MS.s_isCell (MS.s_cells (MS.s_rowSeries (MS.s_tableRows (MS.s_tableNames x (va_up x.tableNames x.pile 0)) (va_up x.tableRows x.pile 1)) (va_up x.rowSeries (256 * x.pile) 0)) (filG x.cells (cA x.pile 0) x.amount k)) (filG x.isCell (cA x.pile 0) true k))) := hD
        replace hp9 : nI ((x.pile * 256 + 0) * 64 + k) = r2 := Eq.symm hp9
        subst hp9
        refine lv_iconst (v := 1) hx hb d_M_number_566_57 (by decide) ?_
        refine nzstB (v := true) hx hb hK hP hD hS 27 3 rfl rfl ((x.pile * 256 + 0) * 64 + k) (by omega) (by decide) d_M_number_566_58 (fun H locs hP hD hS => ?_)
        have hP : va_P D vwCl (MW dA h ad (MS.s_isCell (MS.s_cells (MS.s_rowSeries (MS.s_tableRows (MS.s_tableNames x (va_up x.tableNames x.pile 0)) (va_up x.tableRows x.pile 1)) (va_up x.rowSeries (256 * x.pile) 0)) (filG x.cells (cA x.pile 0) x.amount k)) (va_up (filG x.isCell (cA x.pile 0) true k) ((x.pile * 256 + 0) * 64 + k) true))) H := hP
        have hD : va_D A (MW dA h ad (MS.s_isCell (MS.s_cells (MS.s_rowSeries (MS.s_tableRows (MS.s_tableNames x (va_up x.tableNames x.pile 0)) (va_up x.tableRows x.pile 1)) (va_up x.rowSeries (256 * x.pile) 0)) (filG x.cells (cA x.pile 0) x.amount k)) (va_up (filG x.isCell (cA x.pile 0) true k) ((x.pile * 256 + 0) * 64 + k) true))) := hD
        refine lv_aload_n hx hb d_M_number_566_59 rfl (lv_at hl 1 rfl) ?_
        refine gF (v := .ref (ad 53)) hx hb hown hE hK hP 0 rfl rfl layM 53 (by decide) w524 rfl d_M_number_566_60 ?_
        refine lv_aload_n hx hb d_M_number_566_63 rfl (lv_at hl 1 rfl) ?_
        refine gF (v := .int (nI x.pile)) hx hb hown hE hK hP 0 rfl rfl layM 55 (by decide) w476 rfl d_M_number_566_64 ?_
        refine lv_iconst (v := 0) hx hb d_M_number_566_67 (by decide) ?_
        refine lv_iload_n hx hb d_M_number_566_68 rfl (lv_at hl 0 rfl) ?_
        have hPc := hP.sub (ws' := []) [] rfl
        have hDc := hD.sub (ws' := []) [] (by decide) rfl
        refine jnI (rnS (As := [.int (nI x.pile), .int 0, .int (nI k)]) (rest := [.ref (ad 53)]) hx hb hml hown hE hK (hN _ _ hS) hPc hDc (k_cellAt l D dA H.size x.pile 0 k) w971 w970 w972 w328 rfl rfl ⟨⟨by decide, by decide⟩, rfl⟩ ⟨(Nat.le_of_ble_eq_true rfl), (Nat.le_of_ble_eq_true rfl)⟩ rfl hl.1 rfl (Nat.le_of_ble_eq_true rfl) d_M_number_566_69 ⟨(Nat.le_of_ble_eq_true rfl), (Nat.le_of_ble_eq_true rfl)⟩) hP hD hS hA [] [0, 1, 2, 3, 4, 5, 6, 7, 8, 9, 10, 11, 12, 13, 14, 15, 16, 17, 18, 19, 20, 21, 22, 23, 24, 25, 26, 27, 28, 29, 30, 31, 32, 33, 34, 35, 36, 37, 38] (wr := MW dA h ad (MS.s_isCell (MS.s_cells (MS.s_rowSeries (MS.s_tableRows (MS.s_tableNames x (va_up x.tableNames x.pile 0)) (va_up x.tableRows x.pile 1)) (va_up x.rowSeries (256 * x.pile) 0)) (filG x.cells (cA x.pile 0) x.amount k)) (va_up (filG x.isCell (cA x.pile 0) true k) ((x.pile * 256 + 0) * 64 + k) true))) rfl rfl (by decide) (by decide) (fun r4 u9 H locs hp9 hP hD hS => ?_)
        have hP : va_P D vwCl (MW dA h ad (MS.s_isCell (MS.s_cells (MS.s_rowSeries (MS.s_tableRows (MS.s_tableNames x (va_up x.tableNames x.pile 0)) (va_up x.tableRows x.pile 1)) (va_up x.rowSeries (256 * x.pile) 0)) (filG x.cells (cA x.pile 0) x.amount k)) (va_up (filG x.isCell (cA x.pile 0) true k) ((x.pile * 256 + 0) * 64 + k) true))) H := hP
        have hD : va_D A (MW dA h ad (MS.s_isCell (MS.s_cells (MS.s_rowSeries (MS.s_tableRows (MS.s_tableNames x (va_up x.tableNames x.pile 0)) (va_up x.tableRows x.pile 1)) (va_up x.rowSeries (256 * x.pile) 0)) (filG x.cells (cA x.pile 0) x.amount k)) (va_up (filG x.isCell (cA x.pile 0) true k) ((x.pile * 256 + 0) * 64 + k) true))) := hD
        replace hp9 : nI ((x.pile * 256 + 0) * 64 + k) = r4 := Eq.symm hp9
        subst hp9
        refine lv_aload_n hx hb d_M_number_566_72 rfl (lv_at hl 1 rfl) ?_
        refine gF (v := .long x.amount) hx hb hown hE hK hP 0 rfl rfl layM 47 (by decide) w953 rfl d_M_number_566_73 ?_
        refine nlst hx hb hK hP hD hS 26 2 rfl rfl ((x.pile * 256 + 0) * 64 + k) (by omega) (by decide) d_M_number_566_76 (fun H locs hP hD hS => ?_)
        have hP : va_P D vwCl (MW dA h ad (MS.s_isCell (MS.s_cells (MS.s_rowSeries (MS.s_tableRows (MS.s_tableNames x (va_up x.tableNames x.pile 0)) (va_up x.tableRows x.pile 1)) (va_up x.rowSeries (256 * x.pile) 0)) (va_up (filG x.cells (cA x.pile 0) x.amount k) ((x.pile * 256 + 0) * 64 + k) x.amount)) (va_up (filG x.isCell (cA x.pile 0) true k) ((x.pile * 256 + 0) * 64 + k) true))) H := hP
        have hD : va_D A (MW dA h ad (MS.s_isCell (MS.s_cells (MS.s_rowSeries (MS.s_tableRows (MS.s_tableNames x (va_up x.tableNames x.pile 0)) (va_up x.tableRows x.pile 1)) (va_up x.rowSeries (256 * x.pile) 0)) (va_up (filG x.cells (cA x.pile 0) x.amount k) ((x.pile * 256 + 0) * 64 + k) x.amount)) (va_up (filG x.isCell (cA x.pile 0) true k) ((x.pile * 256 + 0) * 64 + k) true))) := hD
        refine lv_iinc (k := 0) (v := nI (k + 1)) hx hb d_M_number_566_77 hl rfl (iincN (k) 1 1 (by decide)) (by decide) rfl (fun ls hl => ?_)
        have hl : lv_has ls 2 [(1, .int (nI (k + 1))), (0, .ref h)] := hl
        refine lv_goto hx hb d_M_number_566_80 (tgt := 36) rfl ?_
        exact ih36 _ (by omega) (k + 1) (by omega) rfl H _ ls hP hD hS (lv_sub hl [0, 1] rfl)
  exact L36 _ 0 (Nat.zero_le _) rfl H _ ls hP hD hS (lv_sub hl [0, 1] rfl)
theorem d_M_negate_0 : decode prog_14_method_78_code 0 = .ok (.aload_n 0, 1) := by decide +kernel
theorem d_M_negate_1 : decode prog_14_method_78_code 1 = .ok (.getfield 400, 3) := by decide +kernel
theorem d_M_negate_4 : decode prog_14_method_78_code 4 = .ok (.iconst 1, 1) := by decide +kernel
theorem d_M_negate_5 : decode prog_14_method_78_code 5 = .ok (.isub, 1) := by decide +kernel
theorem d_M_negate_6 : decode prog_14_method_78_code 6 = .ok (.istore_n 1, 1) := by decide +kernel
theorem d_M_negate_7 : decode prog_14_method_78_code 7 = .ok (.iconst 0, 1) := by decide +kernel
theorem d_M_negate_8 : decode prog_14_method_78_code 8 = .ok (.istore_n 2, 1) := by decide +kernel
theorem d_M_negate_9 : decode prog_14_method_78_code 9 = .ok (.iload_n 2, 1) := by decide +kernel
theorem d_M_negate_10 : decode prog_14_method_78_code 10 = .ok (.aload_n 0, 1) := by decide +kernel
theorem d_M_negate_11 : decode prog_14_method_78_code 11 = .ok (.getfield 97, 3) := by decide +kernel
theorem d_M_negate_14 : decode prog_14_method_78_code 14 = .ok (.iload_n 1, 1) := by decide +kernel
theorem d_M_negate_15 : decode prog_14_method_78_code 15 = .ok (.iaload, 1) := by decide +kernel
theorem d_M_negate_16 : decode prog_14_method_78_code 16 = .ok (.if_icmp .ge 48, 3) := by decide +kernel
theorem d_M_negate_64 : decode prog_14_method_78_code 64 = .ok (.return_, 1) := by decide +kernel
theorem d_M_negate_19 : decode prog_14_method_78_code 19 = .ok (.iconst 0, 1) := by decide +kernel
theorem d_M_negate_20 : decode prog_14_method_78_code 20 = .ok (.istore_n 3, 1) := by decide +kernel
theorem d_M_negate_21 : decode prog_14_method_78_code 21 = .ok (.iload_n 3, 1) := by decide +kernel
theorem d_M_negate_22 : decode prog_14_method_78_code 22 = .ok (.aload_n 0, 1) := by decide +kernel
theorem d_M_negate_23 : decode prog_14_method_78_code 23 = .ok (.getfield 412, 3) := by decide +kernel
theorem d_M_negate_26 : decode prog_14_method_78_code 26 = .ok (.if_icmp .ge 32, 3) := by decide +kernel
theorem d_M_negate_58 : decode prog_14_method_78_code 58 = .ok (.iinc 2 1, 3) := by decide +kernel
theorem d_M_negate_61 : decode prog_14_method_78_code 61 = .ok (.goto (-52), 3) := by decide +kernel
theorem d_M_negate_29 : decode prog_14_method_78_code 29 = .ok (.aload_n 0, 1) := by decide +kernel
theorem d_M_negate_30 : decode prog_14_method_78_code 30 = .ok (.getfield 104, 3) := by decide +kernel
theorem d_M_negate_33 : decode prog_14_method_78_code 33 = .ok (.iload_n 1, 1) := by decide +kernel
theorem d_M_negate_34 : decode prog_14_method_78_code 34 = .ok (.iload_n 2, 1) := by decide +kernel
theorem d_M_negate_35 : decode prog_14_method_78_code 35 = .ok (.iload_n 3, 1) := by decide +kernel
theorem d_M_negate_36 : decode prog_14_method_78_code 36 = .ok (.invokestatic 397, 3) := by decide +kernel
theorem d_M_negate_39 : decode prog_14_method_78_code 39 = .ok (.aload_n 0, 1) := by decide +kernel
theorem d_M_negate_40 : decode prog_14_method_78_code 40 = .ok (.getfield 104, 3) := by decide +kernel
theorem d_M_negate_43 : decode prog_14_method_78_code 43 = .ok (.iload_n 1, 1) := by decide +kernel
theorem d_M_negate_44 : decode prog_14_method_78_code 44 = .ok (.iload_n 2, 1) := by decide +kernel
theorem d_M_negate_45 : decode prog_14_method_78_code 45 = .ok (.iload_n 3, 1) := by decide +kernel
theorem d_M_negate_46 : decode prog_14_method_78_code 46 = .ok (.invokestatic 397, 3) := by decide +kernel
theorem d_M_negate_49 : decode prog_14_method_78_code 49 = .ok (.laload, 1) := by decide +kernel
theorem d_M_negate_50 : decode prog_14_method_78_code 50 = .ok (.lneg, 1) := by decide +kernel
theorem d_M_negate_51 : decode prog_14_method_78_code 51 = .ok (.lastore, 1) := by decide +kernel
theorem d_M_negate_52 : decode prog_14_method_78_code 52 = .ok (.iinc 3 1, 3) := by decide +kernel
theorem d_M_negate_55 : decode prog_14_method_78_code 55 = .ok (.goto (-34), 3) := by decide +kernel
set_option maxHeartbeats 4000000 in
set_option maxRecDepth 100000 in
theorem k_negate (l : Launch) (D : va_G) (dA : Nat → ClassId) (sz : Nat) (h : Nat) (ad : Nat → Nat) (x : MS) (h0 : 0 < x.pile) (h1 : x.pile ≤ 20) (h2 : x.windows ≤ 64) (h3 : x.tableRows (x.pile - 1) ≤ 256) : Met l ⟨"SeriesVaultModel", "negate", "()V"⟩ [Cond.code ⟨"SeriesVaultModel", "negate", "()V"⟩ prog_14_method_78_code 4 none] { frames := 2, cells := 0, slots := 0, locals := 22 } (pC D dA [.ref h] (MW dA h ad x) sz) (va_Qv (fun (u9 : Unit) => True) (fun (u9 : Unit) t9 => bW D (va_A (MW dA h ad x) sz) (MW dA h ad (MS.s_cells x (ngR x.cells (x.pile - 1) x.windows (x.tableRows (x.pile - 1))))) t9) (va_A (MW dA h ad x) sz)) 0 0 (va_A (MW dA h ad x) sz) := by
  refine mkC (y := ⟨"SeriesVaultModel", "negate", "()V"⟩) (cc := prog_14_method_78_code) (maxL := 4) (av := [.ref h]) (ws := MW dA h ad x) (sz := sz) (Qc := fun A => va_Qv (fun (u9 : Unit) => True) (fun (u9 : Unit) t9 => bW D A (MW dA h ad (MS.s_cells x (ngR x.cells (x.pile - 1) x.windows (x.tableRows (x.pile - 1))))) t9) A) (by decide) (Nat.le_of_ble_eq_true rfl) ?_
  intro A p e s m below meth c ls hsz hB
  obtain ⟨hx, hb, hr, hml, hown, hin, hlk, hE, hK, hP, hD, hS, hA, hN, hl⟩ := hB
  have hown : s.vm.findClass "SeriesVaultModel" = some m.cls := hown
  have hl : lv_has ls 4 [(0, .ref h)] := hl
  obtain ⟨H, hH⟩ : ∃ z, z = s.heap := ⟨_, rfl⟩
  have hP : va_P D vwCl (MW dA h ad x) H := by rw [hH]; exact hP
  have hS : va_S A s.heap H [] := by rw [hH]; exact hS
  rw [← hH]
  refine lv_aload_n hx hb d_M_negate_0 rfl (lv_at hl 0 rfl) ?_
  refine gF (v := .int (nI x.pile)) hx hb hown hE hK hP 0 rfl rfl layM 55 (by decide) w476 rfl d_M_negate_1 ?_
  refine lv_iconst (v := 1) hx hb d_M_negate_4 (by decide) ?_
  refine lv_isub hx hb d_M_negate_5 (tpi (y := nI (x.pile - 1)) (pk_sub (a := x.pile) (b := 1) (by omega)) ?_)
  refine lv_istore_n hx hb d_M_negate_6 rfl hl (by decide) rfl (fun ls hl => ?_)
  have hl : lv_has ls 4 [(1, .int (nI (x.pile - 1))), (0, .ref h)] := hl
  refine lv_iconst (v := 0) hx hb d_M_negate_7 (by decide) ?_
  refine lv_istore_n hx hb d_M_negate_8 rfl hl (by decide) rfl (fun ls hl => ?_)
  have hl : lv_has ls 4 [(2, .int 0), (1, .int (nI (x.pile - 1))), (0, .ref h)] := hl
  have L9 : ∀ (k9 : Nat) (r : Nat) (i1 : r ≤ x.tableRows (x.pile - 1)) (hk9 : x.tableRows (x.pile - 1) - r = k9), ∀ (H : Heap) (locs : List Loc) (ls : Array Slot) (hP : va_P D vwCl (MW dA h ad (MS.s_cells x (ngR x.cells (x.pile - 1) x.windows r))) H) (hD : va_D A (MW dA h ad (MS.s_cells x (ngR x.cells (x.pile - 1) x.windows r)))) (hS : va_S A s.heap H locs) (hl : lv_has ls 4 [(2, .int (nI r)), (1, .int (nI (x.pile - 1))), (0, .ref h)]), W p l e ({ frames := 2, cells := 0, slots := 0, locals := 22 } : Room) s m ([.ref h] : List Value).toArray below meth c H locs 0 0 (MQ below (va_Qv (fun (u9 : Unit) => True) (fun (u9 : Unit) t9 => bW D A (MW dA h ad (MS.s_cells x (ngR x.cells (x.pile - 1) x.windows (x.tableRows (x.pile - 1))))) t9) A) ([.ref h] : List Value).toArray s 0 0 A) (F0 m 9 ls []) := by
    intro k9
    induction k9 using Nat.strongRecOn with
    | ind k9 ih9 =>
      intro r i1 hk9 H locs ls hP hD hS hl
      refine lv_iload_n hx hb d_M_negate_9 rfl (lv_at hl 0 rfl) ?_
      refine lv_aload_n hx hb d_M_negate_10 rfl (lv_at hl 2 rfl) ?_
      refine gF (v := .ref (ad 51)) hx hb hown hE hK hP 0 rfl rfl layM 51 (by decide) w521 rfl d_M_negate_11 ?_
      refine lv_iload_n hx hb d_M_negate_14 rfl (lv_at hl 1 rfl) ?_
      refine nild (f := (fun z9 => nI (x.tableRows z9))) hx hb hK hP 24 1 rfl rfl (x.pile - 1) (by omega) (by decide) d_M_negate_15 ?_
      refine lv_icmp_ge hx hb d_M_negate_16 (tgt := 64) rfl (fun g1 => ?_) (fun g1 => ?_)
      · have g1 := (nI_leI (a := x.tableRows (x.pile - 1)) (b := r) (by omega) (by omega)).mp g1
        have e9 : (MS.s_cells x (ngR x.cells (x.pile - 1) x.windows r) : MS) = MS.s_cells x (ngR x.cells (x.pile - 1) x.windows (x.tableRows (x.pile - 1))) := by rw [show (ngR x.cells (x.pile - 1) x.windows (x.tableRows (x.pile - 1))) = (ngR x.cells (x.pile - 1) x.windows r) from by (rw [show r = x.tableRows (x.pile - 1) by omega])] <;> rfl
        exact rfV hx hb hr hlk hS () trivial (cvP e9 hP) (cvD e9 hD) (Nat.le_of_ble_eq_true rfl) (Nat.le_of_ble_eq_true rfl) d_M_negate_64
      · have g1 := mt (nI_leI (a := x.tableRows (x.pile - 1)) (b := r) (by omega) (by omega)).mpr g1
        refine lv_iconst (v := 0) hx hb d_M_negate_19 (by decide) ?_
        refine lv_istore_n hx hb d_M_negate_20 rfl hl (by decide) rfl (fun ls hl => ?_)
        have hl : lv_has ls 4 [(3, .int 0), (2, .int (nI r)), (1, .int (nI (x.pile - 1))), (0, .ref h)] := hl
        have L21 : ∀ (k9 : Nat) (k : Nat) (i2 : k ≤ x.windows) (hk9 : x.windows - k = k9), ∀ (H : Heap) (locs : List Loc) (ls : Array Slot) (hP : va_P D vwCl (MW dA h ad (MS.s_cells x (ngW (ngR x.cells (x.pile - 1) x.windows r) (cA (x.pile - 1) r) k))) H) (hD : va_D A (MW dA h ad (MS.s_cells x (ngW (ngR x.cells (x.pile - 1) x.windows r) (cA (x.pile - 1) r) k)))) (hS : va_S A s.heap H locs) (hl : lv_has ls 4 [(3, .int (nI k)), (2, .int (nI r)), (1, .int (nI (x.pile - 1))), (0, .ref h)]), W p l e ({ frames := 2, cells := 0, slots := 0, locals := 22 } : Room) s m ([.ref h] : List Value).toArray below meth c H locs 0 0 (MQ below (va_Qv (fun (u9 : Unit) => True) (fun (u9 : Unit) t9 => bW D A (MW dA h ad (MS.s_cells x (ngR x.cells (x.pile - 1) x.windows (x.tableRows (x.pile - 1))))) t9) A) ([.ref h] : List Value).toArray s 0 0 A) (F0 m 21 ls []) := by
          intro k9
          induction k9 using Nat.strongRecOn with
          | ind k9 ih21 =>
            intro k i2 hk9 H locs ls hP hD hS hl
            refine lv_iload_n hx hb d_M_negate_21 rfl (lv_at hl 0 rfl) ?_
            refine lv_aload_n hx hb d_M_negate_22 rfl (lv_at hl 3 rfl) ?_
            refine gF (v := .int (nI x.windows)) hx hb hown hE hK hP 0 rfl rfl layM 59 (by decide) w489 rfl d_M_negate_23 ?_
            refine lv_icmp_ge hx hb d_M_negate_26 (tgt := 58) rfl (fun g2 => ?_) (fun g2 => ?_)
            · have g2 := (nI_leI (a := x.windows) (b := k) (by omega) (by omega)).mp g2
              refine lv_iinc (k := 1) (v := nI (r + 1)) hx hb d_M_negate_58 hl rfl (iincN (r) 1 1 (by decide)) (by decide) rfl (fun ls hl => ?_)
              have hl : lv_has ls 4 [(2, .int (nI (r + 1))), (3, .int (nI k)), (1, .int (nI (x.pile - 1))), (0, .ref h)] := hl
              refine lv_goto hx hb d_M_negate_61 (tgt := 9) rfl ?_
              have e9 : (MS.s_cells x (ngW (ngR x.cells (x.pile - 1) x.windows r) (cA (x.pile - 1) r) k) : MS) = MS.s_cells x (ngR x.cells (x.pile - 1) x.windows (r + 1)) := by rw [show (ngR x.cells (x.pile - 1) x.windows (r + 1)) = (ngW (ngR x.cells (x.pile - 1) x.windows r) (cA (x.pile - 1) r) k) from (by rw [show k = x.windows by omega]; rfl)] <;> rfl
              exact ih9 _ (by omega) (r + 1) (by omega) rfl H _ ls (cvP e9 hP) (cvD e9 hD) hS (lv_sub hl [0, 2, 3] rfl)
            · have g2 := mt (nI_leI (a := x.windows) (b := k) (by omega) (by omega)).mpr g2
              refine lv_aload_n hx hb d_M_negate_29 rfl (lv_at hl 3 rfl) ?_
              refine gF (v := .ref (ad 53)) hx hb hown hE hK hP 0 rfl rfl layM 53 (by decide) w524 rfl d_M_negate_30 ?_
              refine lv_iload_n hx hb d_M_negate_33 rfl (lv_at hl 2 rfl) ?_
              refine lv_iload_n hx hb d_M_negate_34 rfl (lv_at hl 1 rfl) ?_
              refine lv_iload_n hx hb d_M_negate_35 rfl (lv_at hl 0 rfl) ?_
              have hPc := hP.sub (ws' := []) [] rfl
              have hDc := hD.sub (ws' := []) [] (by decide) rfl
              refine jnI (rnS (As := [.int (nI (x.pile - 1)), .int (nI r), .int (nI k)]) (rest := [.ref (ad 53)]) hx hb hml hown hE hK (hN _ _ hS) hPc hDc (k_cellAt l D dA H.size (x.pile - 1) r k) w971 w970 w972 w328 rfl rfl ⟨⟨by decide, by decide⟩, rfl⟩ ⟨(Nat.le_of_ble_eq_true rfl), (Nat.le_of_ble_eq_true rfl)⟩ rfl hl.1 rfl (Nat.le_of_ble_eq_true rfl) d_M_negate_36 ⟨(Nat.le_of_ble_eq_true rfl), (Nat.le_of_ble_eq_true rfl)⟩) hP hD hS hA [] [0, 1, 2, 3, 4, 5, 6, 7, 8, 9, 10, 11, 12, 13, 14, 15, 16, 17, 18, 19, 20, 21, 22, 23, 24, 25, 26, 27, 28, 29, 30, 31, 32, 33, 34, 35, 36, 37, 38] (wr := MW dA h ad (MS.s_cells x (ngW (ngR x.cells (x.pile - 1) x.windows r) (cA (x.pile - 1) r) k))) rfl rfl (by decide) (by decide) (fun r3 u9 H locs hp9 hP hD hS => ?_)
              have hP : va_P D vwCl (MW dA h ad (MS.s_cells x (ngW (ngR x.cells (x.pile - 1) x.windows r) (cA (x.pile - 1) r) k))) H := hP
              have hD : va_D A (MW dA h ad (MS.s_cells x (ngW (ngR x.cells (x.pile - 1) x.windows r) (cA (x.pile - 1) r) k))) := hD
              replace hp9 : nI (((x.pile - 1) * 256 + r) * 64 + k) = r3 := Eq.symm hp9
              subst hp9
              refine lv_aload_n hx hb d_M_negate_39 rfl (lv_at hl 3 rfl) ?_
              refine gF (v := .ref (ad 53)) hx hb hown hE hK hP 0 rfl rfl layM 53 (by decide) w524 rfl d_M_negate_40 ?_
              refine lv_iload_n hx hb d_M_negate_43 rfl (lv_at hl 2 rfl) ?_
              refine lv_iload_n hx hb d_M_negate_44 rfl (lv_at hl 1 rfl) ?_
              refine lv_iload_n hx hb d_M_negate_45 rfl (lv_at hl 0 rfl) ?_
              have hPc := hP.sub (ws' := []) [] rfl
              have hDc := hD.sub (ws' := []) [] (by decide) rfl
              refine jnI (rnS (As := [.int (nI (x.pile - 1)), .int (nI r), .int (nI k)]) (rest := [.ref (ad 53), .int (nI (((x.pile - 1) * 256 + r) * 64 + k)), .ref (ad 53)]) hx hb hml hown hE hK (hN _ _ hS) hPc hDc (k_cellAt l D dA H.size (x.pile - 1) r k) w971 w970 w972 w328 rfl rfl ⟨⟨by decide, by decide⟩, rfl⟩ ⟨(Nat.le_of_ble_eq_true rfl), (Nat.le_of_ble_eq_true rfl)⟩ rfl hl.1 rfl (Nat.le_of_ble_eq_true rfl) d_M_negate_46 ⟨(Nat.le_of_ble_eq_true rfl), (Nat.le_of_ble_eq_true rfl)⟩) hP hD hS hA [] [0, 1, 2, 3, 4, 5, 6, 7, 8, 9, 10, 11, 12, 13, 14, 15, 16, 17, 18, 19, 20, 21, 22, 23, 24, 25, 26, 27, 28, 29, 30, 31, 32, 33, 34, 35, 36, 37, 38] (wr := MW dA h ad (MS.s_cells x (ngW (ngR x.cells (x.pile - 1) x.windows r) (cA (x.pile - 1) r) k))) rfl rfl (by decide) (by decide) (fun r5 u9 H locs hp9 hP hD hS => ?_)
              have hP : va_P D vwCl (MW dA h ad (MS.s_cells x (ngW (ngR x.cells (x.pile - 1) x.windows r) (cA (x.pile - 1) r) k))) H := hP
              have hD : va_D A (MW dA h ad (MS.s_cells x (ngW (ngR x.cells (x.pile - 1) x.windows r) (cA (x.pile - 1) r) k))) := hD
              replace hp9 : nI (((x.pile - 1) * 256 + r) * 64 + k) = r5 := Eq.symm hp9
              subst hp9
              refine nlld (f := (ngW (ngR x.cells (x.pile - 1) x.windows r) (cA (x.pile - 1) r) k)) hx hb hK hP 26 2 rfl rfl (((x.pile - 1) * 256 + r) * 64 + k) (by omega) (by decide) d_M_negate_49 ?_
              refine lv_lneg hx hb d_M_negate_50 ?_
              refine nlst hx hb hK hP hD hS 26 2 rfl rfl (((x.pile - 1) * 256 + r) * 64 + k) (by omega) (by decide) d_M_negate_51 (fun H locs hP hD hS => ?_)
              have hP : va_P D vwCl (MW dA h ad (MS.s_cells x (va_up (ngW (ngR x.cells (x.pile - 1) x.windows r) (cA (x.pile - 1) r) k) (((x.pile - 1) * 256 + r) * 64 + k) (-((ngW (ngR x.cells (x.pile - 1) x.windows r) (cA (x.pile - 1) r) k) (((x.pile - 1) * 256 + r) * 64 + k)))))) H := hP
              have hD : va_D A (MW dA h ad (MS.s_cells x (va_up (ngW (ngR x.cells (x.pile - 1) x.windows r) (cA (x.pile - 1) r) k) (((x.pile - 1) * 256 + r) * 64 + k) (-((ngW (ngR x.cells (x.pile - 1) x.windows r) (cA (x.pile - 1) r) k) (((x.pile - 1) * 256 + r) * 64 + k)))))) := hD
              refine lv_iinc (k := 0) (v := nI (k + 1)) hx hb d_M_negate_52 hl rfl (iincN (k) 1 1 (by decide)) (by decide) rfl (fun ls hl => ?_)
              have hl : lv_has ls 4 [(3, .int (nI (k + 1))), (2, .int (nI r)), (1, .int (nI (x.pile - 1))), (0, .ref h)] := hl
              refine lv_goto hx hb d_M_negate_55 (tgt := 21) rfl ?_
              exact ih21 _ (by omega) (k + 1) (by omega) rfl H _ ls hP hD hS (lv_sub hl [0, 1, 2, 3] rfl)
        exact L21 _ 0 (Nat.zero_le _) rfl H _ ls hP hD hS (lv_sub hl [0, 1, 2, 3] rfl)
  have e9 : (x : MS) = MS.s_cells x (ngR x.cells (x.pile - 1) x.windows 0) := by rw [show (ngR x.cells (x.pile - 1) x.windows 0) = x.cells from rfl] <;> rfl
  exact L9 _ 0 (Nat.zero_le _) rfl H _ ls (cvP e9 hP) (cvD e9 hD) hS (lv_sub hl [0, 1, 2] rfl)
