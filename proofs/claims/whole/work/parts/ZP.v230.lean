/-! The question's string literals at the law's entry. -/
theorem w1985 : Cond.laysStatic "java/lang/String" "COMPACT_STRINGS" "Z" ∈ aW := aw_of (tb_4 (List.mem_of_getElem? (i := 12) rfl)) rfl
theorem w1986 : Cond.laysStatic "jdk/internal/util/Preconditions" "SIOOBE_FORMATTER" "Ljava/util/function/BiFunction;" ∈ aW := aw_of (tb_4 (List.mem_of_getElem? (i := 79) rfl)) rfl
theorem st_1 : ∀ i, i < 8 → (Cond.exactly (.string "SeriesVault$Question" (qsIx.getD i 0)) "java/lang/String") ∈ flatC (Jvm.Cond.and given_1 narrow_1) ∧ (Cond.eq (.field (.string "SeriesVault$Question" (qsIx.getD i 0)) "java/lang/String" "coder" "B") (.int 0)) ∈ flatC (Jvm.Cond.and given_1 narrow_1) ∧ (Cond.arrayOf (.field (.string "SeriesVault$Question" (qsIx.getD i 0)) "java/lang/String" "value" "[B") .byte) ∈ flatC (Jvm.Cond.and given_1 narrow_1) ∧ (Cond.eq (.length (.field (.string "SeriesVault$Question" (qsIx.getD i 0)) "java/lang/String" "value" "[B")) (.int (Int32.ofNat (qsLen.getD i 0)))) ∈ flatC (Jvm.Cond.and given_1 narrow_1) := by decide +kernel
theorem st_2 : ∀ i, i < 8 → ∀ j, j < qsLen.getD i 0 → (Cond.eq (.elem (.field (.string "SeriesVault$Question" (qsIx.getD i 0)) "java/lang/String" "value" "[B") (.int (Int32.ofNat j))) (.int ((qsByt.getD i []).getD j 0))) ∈ flatC (Jvm.Cond.and given_1 narrow_1) := by decide +kernel
theorem st_3 : ∀ i, i < 8 → ∀ j, j < 8 → ¬ i = j → (Cond.not (Cond.eq (.string "SeriesVault$Question" (qsIx.getD i 0)) (.string "SeriesVault$Question" (qsIx.getD j 0)))) ∈ flatC (Jvm.Cond.and given_1 narrow_1) ∨ (Cond.not (Cond.eq (.string "SeriesVault$Question" (qsIx.getD j 0)) (.string "SeriesVault$Question" (qsIx.getD i 0)))) ∈ flatC (Jvm.Cond.and given_1 narrow_1) := by decide +kernel
theorem st_4 : ∀ i, i < 8 → qsLen.getD i 0 < 2 ^ 31 := by decide
theorem st_5 : ∀ i, i < 8 → i = 0 ∨ i = 1 ∨ i = 2 ∨ i = 3 ∨ i = 4 ∨ i = 5 ∨ i = 6 ∨ i = 7 := by omega
theorem str_in {p : Program} {s : State} {m : MethodId} {meth : Method} {c : Code} {b L : Nat} {xs : Nat → Int32} (hE : eV s) (C0 : lw_At p s m meth c b L xs) : ∃ (mi : Nat) (kA vA : Nat → Nat) (fm : Nat), va_Mi "[Ljava/lang/Object;" mi s ∧ qS kA vA fm (fun q => s.heap.size ≤ q) s s.heap := by
  obtain ⟨-, -, -, -, -, hts, -, -, -, hgv⟩ := C0
  have hs := flat_of_before _ hgv
  have hA : ∀ a : Nat, a < s.heap.size → ¬ (fun q : Nat => s.heap.size ≤ q) a := fun a h => Nat.not_le.mpr h
  have hm : (Cond.isRef (.mirror "[Ljava/lang/Object;")).before #[Value.ref b] s = true := hs _ (by decide +kernel)
  obtain ⟨mi, hMi⟩ := va_Mi.of hm
  have hc1 : (Cond.eq (.static "java/lang/String" "COMPACT_STRINGS" "Z") (.int 1)).before #[Value.ref b] s = true := hs _ (by decide +kernel)
  have hZ1 := va_Zof (args := #[Value.ref b]) (A := fun q => s.heap.size ≤ q) (ho_1 (hE.1 _ w1985)) (hE.t w1596 rfl) (va_eqt hc1) hA
  have hf1 : (Cond.isRef (.static "jdk/internal/util/Preconditions" "SIOOBE_FORMATTER" "Ljava/util/function/BiFunction;")).before #[Value.ref b] s = true := hs _ (by decide +kernel)
  have hZ2 := va_Zqof (args := #[Value.ref b]) (A := fun q => s.heap.size ≤ q) (ho_1 (hE.1 _ w1986)) (hE.t w1445 rfl) hf1 hA
  obtain ⟨kA, vA, hV, hR⟩ := vk_Sof (args := #[Value.ref b]) (s := s) (N := 8) (tm := fun i => .string "SeriesVault$Question" (qsIx.getD i 0)) (len := qsLen) (byt := qsByt) (A := fun q => s.heap.size ≤ q) st_4 (fun i hi => hs _ (st_1 i hi).1) (fun i hi => hs _ (st_1 i hi).2.1) (fun i hi => hs _ (st_1 i hi).2.2.1) (fun i hi => hs _ (st_1 i hi).2.2.2) (fun i hi j hj => hs _ (st_2 i hi j hj)) (fun i j hi hj hne => (st_3 i hi j hj hne).imp (fun h => hs _ h) (fun h => hs _ h)) hA
  obtain ⟨fm, hZ3⟩ : ∃ fm, va_Z "jdk/internal/util/Preconditions" "SIOOBE_FORMATTER" "Ljava/util/function/BiFunction;" (fmV fm) (fun q => s.heap.size ≤ q) s s.heap := by
    rcases hZ2 with h | ⟨t, h⟩
    · exact ⟨0, h⟩
    · exact ⟨t + 1, h⟩
  refine ⟨mi, kA, vA, fm, hMi, hV, hZ1, hZ3, fun i hi => ?_⟩
  have hr := hR i hi
  rcases st_5 i hi with rfl | rfl | rfl | rfl | rfl | rfl | rfl | rfl
  · exact vk_R.of (hts _ (List.mem_append_right _ (tb_7 (List.mem_of_getElem? (i := 54) rfl)))) hr
  · exact vk_R.of (hts _ (List.mem_append_right _ (tb_7 (List.mem_of_getElem? (i := 82) rfl)))) hr
  · exact vk_R.of (hts _ (List.mem_append_right _ (tb_7 (List.mem_of_getElem? (i := 83) rfl)))) hr
  · exact vk_R.of (hts _ (List.mem_append_right _ (tb_7 (List.mem_of_getElem? (i := 84) rfl)))) hr
  · exact vk_R.of (hts _ (List.mem_append_right _ (tb_7 (List.mem_of_getElem? (i := 85) rfl)))) hr
  · exact vk_R.of (hts _ (List.mem_append_right _ (tb_7 (List.mem_of_getElem? (i := 86) rfl)))) hr
  · exact vk_R.of (hts _ (List.mem_append_right _ (tb_7 (List.mem_of_getElem? (i := 87) rfl)))) hr
  · exact vk_R.of (hts _ (List.mem_append_right _ (tb_7 (List.mem_of_getElem? (i := 88) rfl)))) hr
