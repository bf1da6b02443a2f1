set_option maxHeartbeats 4000000 in
set_option maxRecDepth 100000 in
theorem k8_count (l : Launch) (D : va_G) (dA : Nat → ClassId) (sz : Nat) (h : Nat) (ad : Nat → Nat) (o : Nat) (og : Nat → Int64) (x : VS) (p0 : Int32) (v9 : Int32) (F9 : VS → Prop) (fr : Nat) (lo : Nat) (mc9 : Nat) (ms9 : Nat) (hc9 : ∀ sz : Nat, Met l ⟨"SeriesVault", "count", "(I)I"⟩ [Cond.code ⟨"SeriesVault", "count", "(I)I"⟩ prog_1_method_43_code 2 (some FieldType.int)] { frames := fr, cells := mc9, slots := ms9, locals := lo } (pC D dA [.ref h, .int p0] (VW dA h ad x) sz) (va_Qi (fun (r9 : Int32) (u9 : VS) => r9 = v9 ∧ F9 u9) (fun (u9 : VS) t9 => bW D (va_A (VW dA h ad x) sz) (VW dA h ad u9) t9) (va_A (VW dA h ad x) sz)) mc9 ms9 (va_A (VW dA h ad x) sz)) : Met l ⟨"SeriesVaultLaw", "count", "(LSeriesVault;I[J)I"⟩ [Cond.codeWith ⟨"SeriesVaultLaw", "count", "(LSeriesVault;I[J)I"⟩ method_20_code 4 (some FieldType.int) [(0, 9, 12, 29), (0, 9, 15, 19)]] { frames := fr + 1, cells := mc9, slots := ms9, locals := lo + 21 } (pC D dA [.ref h, .int p0, .ref o] ([(o, .inl (dA 2, 1, .inr (.inl og)))] ++ (VW dA h ad x)) sz) (va_Qi (fun (r9 : Int32) (u9 : VS) => r9 = 0 ∧ F9 u9) (fun (u9 : VS) t9 => bW D (va_A ([(o, .inl (dA 2, 1, .inr (.inl og)))] ++ (VW dA h ad x)) sz) ([(o, .inl (dA 2, 1, .inr (.inl (va_up og 0 (v9.toInt64)))))] ++ (VW dA h ad u9)) t9) (va_A ([(o, .inl (dA 2, 1, .inr (.inl og)))] ++ (VW dA h ad x)) sz)) mc9 ms9 (va_A ([(o, .inl (dA 2, 1, .inr (.inl og)))] ++ (VW dA h ad x)) sz) := by
  refine mkW (y := ⟨"SeriesVaultLaw", "count", "(LSeriesVault;I[J)I"⟩) (cc := method_20_code) (maxL := 4) (av := [.ref h, .int p0, .ref o]) (ws := [(o, .inl (dA 2, 1, .inr (.inl og)))] ++ (VW dA h ad x)) (sz := sz) (Qc := fun A => va_Qi (fun (r9 : Int32) (u9 : VS) => r9 = 0 ∧ F9 u9) (fun (u9 : VS) t9 => bW D A ([(o, .inl (dA 2, 1, .inr (.inl (va_up og 0 (v9.toInt64)))))] ++ (VW dA h ad u9)) t9) A) (by decide) (Nat.le_of_ble_eq_true rfl) ?_
  intro A p e s m below meth c ls hsz htab hB
  obtain ⟨hx, hb, hr, hml, hown, hin, hlk, hE, hK, hP, hD, hS, hA, hN, hl⟩ := hB
  have hown : s.vm.findClass "SeriesVaultLaw" = some m.cls := hown
  have hl : lv_has ls 4 [(0, .ref h), (1, .int p0), (2, .ref o)] := hl
  obtain ⟨H, hH⟩ : ∃ z, z = s.heap := ⟨_, rfl⟩
  have hP : va_P D vwCl ([(o, .inl (dA 2, 1, .inr (.inl og)))] ++ (VW dA h ad x)) H := by rw [hH]; exact hP
  have hS : va_S A s.heap H [] := by rw [hH]; exact hS
  rw [← hH]
  refine lv_aload_n hx hb d_SeriesVaultLaw_count_0 rfl (lv_at hl 2 rfl) ?_
  refine lv_iconst (v := 0) hx hb d_SeriesVaultLaw_count_1 (by decide) ?_
  refine lv_aload_n hx hb d_SeriesVaultLaw_count_2 rfl (lv_at hl 0 rfl) ?_
  refine lv_iload_n hx hb d_SeriesVaultLaw_count_3 rfl (lv_at hl 1 rfl) ?_
  have hPc : va_P D vwCl (VW dA h ad x) H := spP (wr := [(o, .inl (dA 2, 1, .inr (.inl og)))]) hP
  have hDc : va_D A (VW dA h ad x) := spD (wr := [(o, .inl (dA 2, 1, .inr (.inl og)))]) hD
  refine jkI (wr := [(o, .inl (dA 2, 1, .inr (.inl og)))]) (rnV (As := [.int p0]) (rest := [.int 0, .ref o]) hx hb hml hown hE hK (hN _ _ hS) hPc hDc ((fun (_ : Launch) (_ : va_G) (_ : Nat → ClassId) (sz9 : Nat) (_ : Nat) (_ : Nat → Nat) (_ : VS) (_ : Int32) => hc9 sz9) l D dA H.size h ad x p0) (q0 := 0) rfl rfl w703 w702 w704 w705 w277 rfl rfl ⟨⟨by decide, by decide⟩, rfl⟩ ⟨(by first | exact Nat.le_of_ble_eq_true rfl | (dsimp only; omega)), (by first | exact Nat.le_of_ble_eq_true rfl | (dsimp only; omega))⟩ rfl hl.1 rfl (by first | exact Nat.le_of_ble_eq_true rfl | (dsimp only; omega)) d_SeriesVaultLaw_count_4 ⟨(show 0 + mc9 ≤ mc9 by omega), (show 0 + ms9 ≤ ms9 by omega)⟩) hP hD hS hA (fun r1 u2 H locs hp9 hP hD hS => ?_)
  obtain ⟨u8, h9u⟩ : ∃ z9, z9 = u2 := ⟨_, rfl⟩
  subst h9u
  have hP : va_P D vwCl ([(o, .inl (dA 2, 1, .inr (.inl og)))] ++ (VW dA h ad u8)) H := hP
  have hD : va_D A ([(o, .inl (dA 2, 1, .inr (.inl og)))] ++ (VW dA h ad u8)) := hD
  obtain ⟨hp9, f_f_3⟩ := hp9
  replace hp9 : v9 = r1 := Eq.symm hp9
  subst hp9
  refine lv_i2l hx hb d_SeriesVaultLaw_count_7 rfl ?_
  refine nlst (n := 1) hx hb hK hP hD hS (0) 2 rfl rfl (0) (by omega) (by decide) d_SeriesVaultLaw_count_8 (fun H locs hP hD hS => ?_)
  have hP : va_P D vwCl ([(o, .inl (dA 2, 1, .inr (.inl (va_up og 0 v9.toInt64))))] ++ (VW dA h ad u8)) H := hP
  have hD : va_D A ([(o, .inl (dA 2, 1, .inr (.inl (va_up og 0 v9.toInt64))))] ++ (VW dA h ad u8)) := hD
  refine lv_goto hx hb d_SeriesVaultLaw_count_9 (tgt := 18) rfl ?_
  refine lv_iconst (v := 0) hx hb d_SeriesVaultLaw_count_18 (by decide) ?_
  exact rfI hx hb hr hlk hS u8 ⟨rfl, f_f_3⟩ hP hD (show 0 + mc9 ≤ mc9 by omega) (show 0 + ms9 ≤ ms9 by omega) d_SeriesVaultLaw_count_19
theorem d_SeriesVaultLaw_count_12 : decode method_20_code 12 = .ok (.astore_n 3, 1) := by decide +kernel
theorem d_SeriesVaultLaw_count_13 : decode method_20_code 13 = .ok (.iconst 1, 1) := by decide +kernel
theorem d_SeriesVaultLaw_count_14 : decode method_20_code 14 = .ok (.ireturn, 1) := by decide +kernel
set_option maxHeartbeats 4000000 in
set_option maxRecDepth 100000 in
theorem k8_count_1 (l : Launch) (D : va_G) (dA : Nat → ClassId) (sz : Nat) (h : Nat) (ad : Nat → Nat) (o : Nat) (og : Nat → Int64) (x : VS) (p0 : Int32) (F9 : VS → Prop) (fr : Nat) (lo : Nat) (mc9 : Nat) (ms9 : Nat) (hc9 : ∀ sz : Nat, mX l ⟨"SeriesVault", "count", "(I)I"⟩ [Cond.code ⟨"SeriesVault", "count", "(I)I"⟩ prog_1_method_43_code 2 (some FieldType.int)] { frames := fr, cells := mc9, slots := ms9, locals := lo } (pC D dA [.ref h, .int p0] (VW dA h ad x) sz) "java/lang/IllegalStateException" (fun st9 t9 => va_F (va_A (VW dA h ad x) sz) st9 t9 ∧ ∃ u9 : VS, F9 u9 ∧ bW D (va_A (VW dA h ad x) sz) (VW dA h ad u9) t9) mc9 ms9 (va_A (VW dA h ad x) sz)) : Met l ⟨"SeriesVaultLaw", "count", "(LSeriesVault;I[J)I"⟩ [Cond.codeWith ⟨"SeriesVaultLaw", "count", "(LSeriesVault;I[J)I"⟩ method_20_code 4 (some FieldType.int) [(0, 9, 12, 29), (0, 9, 15, 19)]] { frames := fr + 1, cells := mc9, slots := ms9, locals := lo + 21 } (pC D dA [.ref h, .int p0, .ref o] ([(o, .inl (dA 2, 1, .inr (.inl og)))] ++ (VW dA h ad x)) sz) (va_Qi (fun (r9 : Int32) (u9 : VS) => r9 = 1 ∧ F9 u9) (fun (u9 : VS) t9 => bW D (va_A ([(o, .inl (dA 2, 1, .inr (.inl og)))] ++ (VW dA h ad x)) sz) ([(o, .inl (dA 2, 1, .inr (.inl og)))] ++ (VW dA h ad u9)) t9) (va_A ([(o, .inl (dA 2, 1, .inr (.inl og)))] ++ (VW dA h ad x)) sz)) mc9 ms9 (va_A ([(o, .inl (dA 2, 1, .inr (.inl og)))] ++ (VW dA h ad x)) sz) := by
  refine mkW (y := ⟨"SeriesVaultLaw", "count", "(LSeriesVault;I[J)I"⟩) (cc := method_20_code) (maxL := 4) (av := [.ref h, .int p0, .ref o]) (ws := [(o, .inl (dA 2, 1, .inr (.inl og)))] ++ (VW dA h ad x)) (sz := sz) (Qc := fun A => va_Qi (fun (r9 : Int32) (u9 : VS) => r9 = 1 ∧ F9 u9) (fun (u9 : VS) t9 => bW D A ([(o, .inl (dA 2, 1, .inr (.inl og)))] ++ (VW dA h ad u9)) t9) A) (by decide) (Nat.le_of_ble_eq_true rfl) ?_
  intro A p e s m below meth c ls hsz htab hB
  obtain ⟨hx, hb, hr, hml, hown, hin, hlk, hE, hK, hP, hD, hS, hA, hN, hl⟩ := hB
  have hown : s.vm.findClass "SeriesVaultLaw" = some m.cls := hown
  have hl : lv_has ls 4 [(0, .ref h), (1, .int p0), (2, .ref o)] := hl
  obtain ⟨H, hH⟩ : ∃ z, z = s.heap := ⟨_, rfl⟩
  have hP : va_P D vwCl ([(o, .inl (dA 2, 1, .inr (.inl og)))] ++ (VW dA h ad x)) H := by rw [hH]; exact hP
  have hS : va_S A s.heap H [] := by rw [hH]; exact hS
  rw [← hH]
  refine lv_aload_n hx hb d_SeriesVaultLaw_count_0 rfl (lv_at hl 2 rfl) ?_
  refine lv_iconst (v := 0) hx hb d_SeriesVaultLaw_count_1 (by decide) ?_
  refine lv_aload_n hx hb d_SeriesVaultLaw_count_2 rfl (lv_at hl 0 rfl) ?_
  refine lv_iload_n hx hb d_SeriesVaultLaw_count_3 rfl (lv_at hl 1 rfl) ?_
  refine xkV (S := VS) (F := F9) (w1 := fun u => VW dA h ad u) (wr := [(o, .inl (dA 2, 1, .inr (.inl og)))]) (As := [.int p0]) (rest := [.int 0, .ref o]) hx hb hml hown hE hK (hN _ _ hS) (hc9 H.size) (q0 := 0) rfl rfl w703 w702 w704 w705 w277 rfl rfl ⟨⟨by decide, by decide⟩, rfl⟩ ⟨(by first | exact Nat.le_of_ble_eq_true rfl | (dsimp only; omega)), (by first | exact Nat.le_of_ble_eq_true rfl | (dsimp only; omega))⟩ rfl hl.1 rfl (by first | exact Nat.le_of_ble_eq_true rfl | (dsimp only; omega)) d_SeriesVaultLaw_count_4 ⟨(show 0 + mc9 ≤ mc9 by omega), (show 0 + ms9 ≤ ms9 by omega)⟩ hP hD hS hA (fun u2 xa1 ce H locs hf9 hP hD hS hce hcv hcl => ?_)
  have hP : va_P D vwCl ([(o, .inl (dA 2, 1, .inr (.inl og)))] ++ (VW dA h ad u2)) H := hP
  have hD : va_D A ([(o, .inl (dA 2, 1, .inr (.inl og)))] ++ (VW dA h ad u2)) := hD
  refine xCatch (E := "java/lang/IllegalStateException") hown hE [] ⟨0, 9, 12, 29⟩ [⟨0, 9, 15, 19⟩] htab (fun _ h => absurd h List.not_mem_nil) (by decide) (by decide) w363 w289 hce hcv hcl ?_
  refine lv_astore_n hx hb d_SeriesVaultLaw_count_12 rfl hl (by decide) rfl (fun ls hl => ?_)
  have hl : lv_has ls 4 [(3, .ref xa1), (0, .ref h), (1, .int p0), (2, .ref o)] := hl
  refine lv_iconst (v := 1) hx hb d_SeriesVaultLaw_count_13 (by decide) ?_
  exact rfI hx hb hr hlk hS u2 ⟨rfl, hf9⟩ hP hD (show 0 + mc9 ≤ mc9 by omega) (show 0 + ms9 ≤ ms9 by omega) d_SeriesVaultLaw_count_14
set_option maxHeartbeats 4000000 in
set_option maxRecDepth 100000 in
theorem k8_count_2 (l : Launch) (D : va_G) (dA : Nat → ClassId) (sz : Nat) (h : Nat) (ad : Nat → Nat) (o : Nat) (og : Nat → Int64) (x : VS) (p0 : Int32) (F9 : VS → Prop) (fr : Nat) (lo : Nat) (mc9 : Nat) (ms9 : Nat) (hc9 : ∀ sz : Nat, mX l ⟨"SeriesVault", "count", "(I)I"⟩ [Cond.code ⟨"SeriesVault", "count", "(I)I"⟩ prog_1_method_43_code 2 (some FieldType.int)] { frames := fr, cells := mc9, slots := ms9, locals := lo } (pC D dA [.ref h, .int p0] (VW dA h ad x) sz) "java/lang/IllegalArgumentException" (fun st9 t9 => va_F (va_A (VW dA h ad x) sz) st9 t9 ∧ ∃ u9 : VS, F9 u9 ∧ bW D (va_A (VW dA h ad x) sz) (VW dA h ad u9) t9) mc9 ms9 (va_A (VW dA h ad x) sz)) : Met l ⟨"SeriesVaultLaw", "count", "(LSeriesVault;I[J)I"⟩ [Cond.codeWith ⟨"SeriesVaultLaw", "count", "(LSeriesVault;I[J)I"⟩ method_20_code 4 (some FieldType.int) [(0, 9, 12, 29), (0, 9, 15, 19)]] { frames := fr + 1, cells := mc9, slots := ms9, locals := lo + 21 } (pC D dA [.ref h, .int p0, .ref o] ([(o, .inl (dA 2, 1, .inr (.inl og)))] ++ (VW dA h ad x)) sz) (va_Qi (fun (r9 : Int32) (u9 : VS) => r9 = 2 ∧ F9 u9) (fun (u9 : VS) t9 => bW D (va_A ([(o, .inl (dA 2, 1, .inr (.inl og)))] ++ (VW dA h ad x)) sz) ([(o, .inl (dA 2, 1, .inr (.inl og)))] ++ (VW dA h ad u9)) t9) (va_A ([(o, .inl (dA 2, 1, .inr (.inl og)))] ++ (VW dA h ad x)) sz)) mc9 ms9 (va_A ([(o, .inl (dA 2, 1, .inr (.inl og)))] ++ (VW dA h ad x)) sz) := by
  refine mkW (y := ⟨"SeriesVaultLaw", "count", "(LSeriesVault;I[J)I"⟩) (cc := method_20_code) (maxL := 4) (av := [.ref h, .int p0, .ref o]) (ws := [(o, .inl (dA 2, 1, .inr (.inl og)))] ++ (VW dA h ad x)) (sz := sz) (Qc := fun A => va_Qi (fun (r9 : Int32) (u9 : VS) => r9 = 2 ∧ F9 u9) (fun (u9 : VS) t9 => bW D A ([(o, .inl (dA 2, 1, .inr (.inl og)))] ++ (VW dA h ad u9)) t9) A) (by decide) (Nat.le_of_ble_eq_true rfl) ?_
  intro A p e s m below meth c ls hsz htab hB
  obtain ⟨hx, hb, hr, hml, hown, hin, hlk, hE, hK, hP, hD, hS, hA, hN, hl⟩ := hB
  have hown : s.vm.findClass "SeriesVaultLaw" = some m.cls := hown
  have hl : lv_has ls 4 [(0, .ref h), (1, .int p0), (2, .ref o)] := hl
  obtain ⟨H, hH⟩ : ∃ z, z = s.heap := ⟨_, rfl⟩
  have hP : va_P D vwCl ([(o, .inl (dA 2, 1, .inr (.inl og)))] ++ (VW dA h ad x)) H := by rw [hH]; exact hP
  have hS : va_S A s.heap H [] := by rw [hH]; exact hS
  rw [← hH]
  refine lv_aload_n hx hb d_SeriesVaultLaw_count_0 rfl (lv_at hl 2 rfl) ?_
  refine lv_iconst (v := 0) hx hb d_SeriesVaultLaw_count_1 (by decide) ?_
  refine lv_aload_n hx hb d_SeriesVaultLaw_count_2 rfl (lv_at hl 0 rfl) ?_
  refine lv_iload_n hx hb d_SeriesVaultLaw_count_3 rfl (lv_at hl 1 rfl) ?_
  refine xkV (S := VS) (F := F9) (w1 := fun u => VW dA h ad u) (wr := [(o, .inl (dA 2, 1, .inr (.inl og)))]) (As := [.int p0]) (rest := [.int 0, .ref o]) hx hb hml hown hE hK (hN _ _ hS) (hc9 H.size) (q0 := 0) rfl rfl w703 w702 w704 w705 w277 rfl rfl ⟨⟨by decide, by decide⟩, rfl⟩ ⟨(by first | exact Nat.le_of_ble_eq_true rfl | (dsimp only; omega)), (by first | exact Nat.le_of_ble_eq_true rfl | (dsimp only; omega))⟩ rfl hl.1 rfl (by first | exact Nat.le_of_ble_eq_true rfl | (dsimp only; omega)) d_SeriesVaultLaw_count_4 ⟨(show 0 + mc9 ≤ mc9 by omega), (show 0 + ms9 ≤ ms9 by omega)⟩ hP hD hS hA (fun u2 xa1 ce H locs hf9 hP hD hS hce hcv hcl => ?_)
  have hP : va_P D vwCl ([(o, .inl (dA 2, 1, .inr (.inl og)))] ++ (VW dA h ad u2)) H := hP
  have hD : va_D A ([(o, .inl (dA 2, 1, .inr (.inl og)))] ++ (VW dA h ad u2)) := hD
  refine xCatch (E := "java/lang/IllegalArgumentException") hown hE [⟨0, 9, 12, 29⟩] ⟨0, 9, 15, 19⟩ [] htab (List.forall_mem_cons.mpr ⟨⟨by decide, "java/lang/IllegalStateException", w363, by decide⟩, fun _ h => absurd h List.not_mem_nil⟩) (by decide) (by decide) w349 w267 hce hcv hcl ?_
  refine lv_astore_n hx hb d_SeriesVaultLaw_count_15 rfl hl (by decide) rfl (fun ls hl => ?_)
  have hl : lv_has ls 4 [(3, .ref xa1), (0, .ref h), (1, .int p0), (2, .ref o)] := hl
  refine lv_iconst (v := 2) hx hb d_SeriesVaultLaw_count_16 (by decide) ?_
  exact rfI hx hb hr hlk hS u2 ⟨rfl, hf9⟩ hP hD (show 0 + mc9 ≤ mc9 by omega) (show 0 + ms9 ≤ ms9 by omega) d_SeriesVaultLaw_count_17
theorem d_SeriesVaultLaw_parcel_8 : decode method_21_code 8 = .ok (.i2l, 1) := by decide +kernel
theorem d_SeriesVaultLaw_parcel_9 : decode method_21_code 9 = .ok (.lastore, 1) := by decide +kernel
theorem d_SeriesVaultLaw_parcel_10 : decode method_21_code 10 = .ok (.goto 15, 3) := by decide +kernel
theorem d_SeriesVaultLaw_parcel_25 : decode method_21_code 25 = .ok (.iconst 0, 1) := by decide +kernel
theorem d_SeriesVaultLaw_parcel_26 : decode method_21_code 26 = .ok (.ireturn, 1) := by decide +kernel
set_option maxHeartbeats 4000000 in
set_option maxRecDepth 100000 in
theorem k8_parcel (l : Launch) (D : va_G) (dA : Nat → ClassId) (sz : Nat) (h : Nat) (ad : Nat → Nat) (o : Nat) (og : Nat → Int64) (x : VS) (p0 : Int32) (p1 : Int32) (v9 : Int32) (F9 : VS → Prop) (fr : Nat) (lo : Nat) (mc9 : Nat) (ms9 : Nat) (hc9 : ∀ sz : Nat, Met l ⟨"SeriesVault", "parcel", "(II)I"⟩ [Cond.code ⟨"SeriesVault", "parcel", "(II)I"⟩ prog_1_method_44_code 4 (some FieldType.int)] { frames := fr, cells := mc9, slots := ms9, locals := lo } (pC D dA [.ref h, .int p0, .int p1] (VW dA h ad x) sz) (va_Qi (fun (r9 : Int32) (u9 : VS) => r9 = v9 ∧ F9 u9) (fun (u9 : VS) t9 => bW D (va_A (VW dA h ad x) sz) (VW dA h ad u9) t9) (va_A (VW dA h ad x) sz)) mc9 ms9 (va_A (VW dA h ad x) sz)) : Met l ⟨"SeriesVaultLaw", "parcel", "(LSeriesVault;II[J)I"⟩ [Cond.codeWith ⟨"SeriesVaultLaw", "parcel", "(LSeriesVault;II[J)I"⟩ method_21_code 5 (some FieldType.int) [(0, 10, 13, 29), (0, 10, 17, 35), (0, 10, 21, 19)]] { frames := fr + 1, cells := mc9, slots := ms9, locals := lo + 23 } (pC D dA [.ref h, .int p0, .int p1, .ref o] ([(o, .inl (dA 2, 1, .inr (.inl og)))] ++ (VW dA h ad x)) sz) (va_Qi (fun (r9 : Int32) (u9 : VS) => r9 = 0 ∧ F9 u9) (fun (u9 : VS) t9 => bW D (va_A ([(o, .inl (dA 2, 1, .inr (.inl og)))] ++ (VW dA h ad x)) sz) ([(o, .inl (dA 2, 1, .inr (.inl (va_up og 0 (v9.toInt64)))))] ++ (VW dA h ad u9)) t9) (va_A ([(o, .inl (dA 2, 1, .inr (.inl og)))] ++ (VW dA h ad x)) sz)) mc9 ms9 (va_A ([(o, .inl (dA 2, 1, .inr (.inl og)))] ++ (VW dA h ad x)) sz) := by
  refine mkW (y := ⟨"SeriesVaultLaw", "parcel", "(LSeriesVault;II[J)I"⟩) (cc := method_21_code) (maxL := 5) (av := [.ref h, .int p0, .int p1, .ref o]) (ws := [(o, .inl (dA 2, 1, .inr (.inl og)))] ++ (VW dA h ad x)) (sz := sz) (Qc := fun A => va_Qi (fun (r9 : Int32) (u9 : VS) => r9 = 0 ∧ F9 u9) (fun (u9 : VS) t9 => bW D A ([(o, .inl (dA 2, 1, .inr (.inl (va_up og 0 (v9.toInt64)))))] ++ (VW dA h ad u9)) t9) A) (by decide) (Nat.le_of_ble_eq_true rfl) ?_
  intro A p e s m below meth c ls hsz htab hB
  obtain ⟨hx, hb, hr, hml, hown, hin, hlk, hE, hK, hP, hD, hS, hA, hN, hl⟩ := hB
  have hown : s.vm.findClass "SeriesVaultLaw" = some m.cls := hown
  have hl : lv_has ls 5 [(0, .ref h), (1, .int p0), (2, .int p1), (3, .ref o)] := hl
  obtain ⟨H, hH⟩ : ∃ z, z = s.heap := ⟨_, rfl⟩
  have hP : va_P D vwCl ([(o, .inl (dA 2, 1, .inr (.inl og)))] ++ (VW dA h ad x)) H := by rw [hH]; exact hP
  have hS : va_S A s.heap H [] := by rw [hH]; exact hS
  rw [← hH]
  refine lv_aload_n hx hb d_SeriesVaultLaw_parcel_0 rfl (lv_at hl 3 rfl) ?_
  refine lv_iconst (v := 0) hx hb d_SeriesVaultLaw_parcel_1 (by decide) ?_
  refine lv_aload_n hx hb d_SeriesVaultLaw_parcel_2 rfl (lv_at hl 0 rfl) ?_
  refine lv_iload_n hx hb d_SeriesVaultLaw_parcel_3 rfl (lv_at hl 1 rfl) ?_
  refine lv_iload_n hx hb d_SeriesVaultLaw_parcel_4 rfl (lv_at hl 2 rfl) ?_
  have hPc : va_P D vwCl (VW dA h ad x) H := spP (wr := [(o, .inl (dA 2, 1, .inr (.inl og)))]) hP
  have hDc : va_D A (VW dA h ad x) := spD (wr := [(o, .inl (dA 2, 1, .inr (.inl og)))]) hD
  refine jkI (wr := [(o, .inl (dA 2, 1, .inr (.inl og)))]) (rnV (As := [.int p0, .int p1]) (rest := [.int 0, .ref o]) hx hb hml hown hE hK (hN _ _ hS) hPc hDc ((fun (_ : Launch) (_ : va_G) (_ : Nat → ClassId) (sz9 : Nat) (_ : Nat) (_ : Nat → Nat) (_ : VS) (_ : Int32) (_ : Int32) => hc9 sz9) l D dA H.size h ad x p0 p1) (q0 := 0) rfl rfl w393 w392 w394 w395 w277 rfl rfl ⟨⟨by decide, by decide⟩, rfl⟩ ⟨(by first | exact Nat.le_of_ble_eq_true rfl | (dsimp only; omega)), (by first | exact Nat.le_of_ble_eq_true rfl | (dsimp only; omega))⟩ rfl hl.1 rfl (by first | exact Nat.le_of_ble_eq_true rfl | (dsimp only; omega)) d_SeriesVaultLaw_parcel_5 ⟨(show 0 + mc9 ≤ mc9 by omega), (show 0 + ms9 ≤ ms9 by omega)⟩) hP hD hS hA (fun r1 u2 H locs hp9 hP hD hS => ?_)
  obtain ⟨u8, h9u⟩ : ∃ z9, z9 = u2 := ⟨_, rfl⟩
  subst h9u
  have hP : va_P D vwCl ([(o, .inl (dA 2, 1, .inr (.inl og)))] ++ (VW dA h ad u8)) H := hP
  have hD : va_D A ([(o, .inl (dA 2, 1, .inr (.inl og)))] ++ (VW dA h ad u8)) := hD
  obtain ⟨hp9, f_f_3⟩ := hp9
  replace hp9 : v9 = r1 := Eq.symm hp9
  subst hp9
  refine lv_i2l hx hb d_SeriesVaultLaw_parcel_8 rfl ?_
  refine nlst (n := 1) hx hb hK hP hD hS (0) 2 rfl rfl (0) (by omega) (by decide) d_SeriesVaultLaw_parcel_9 (fun H locs hP hD hS => ?_)
  have hP : va_P D vwCl ([(o, .inl (dA 2, 1, .inr (.inl (va_up og 0 v9.toInt64))))] ++ (VW dA h ad u8)) H := hP
  have hD : va_D A ([(o, .inl (dA 2, 1, .inr (.inl (va_up og 0 v9.toInt64))))] ++ (VW dA h ad u8)) := hD
  refine lv_goto hx hb d_SeriesVaultLaw_parcel_10 (tgt := 25) rfl ?_
  refine lv_iconst (v := 0) hx hb d_SeriesVaultLaw_parcel_25 (by decide) ?_
  exact rfI hx hb hr hlk hS u8 ⟨rfl, f_f_3⟩ hP hD (show 0 + mc9 ≤ mc9 by omega) (show 0 + ms9 ≤ ms9 by omega) d_SeriesVaultLaw_parcel_26
theorem d_SeriesVaultLaw_parcel_13 : decode method_21_code 13 = .ok (.astore 4, 2) := by decide +kernel
theorem d_SeriesVaultLaw_parcel_15 : decode method_21_code 15 = .ok (.iconst 1, 1) := by decide +kernel
theorem d_SeriesVaultLaw_parcel_16 : decode method_21_code 16 = .ok (.ireturn, 1) := by decide +kernel
set_option maxHeartbeats 4000000 in
set_option maxRecDepth 100000 in
theorem k8_parcel_1 (l : Launch) (D : va_G) (dA : Nat → ClassId) (sz : Nat) (h : Nat) (ad : Nat → Nat) (o : Nat) (og : Nat → Int64) (x : VS) (p0 : Int32) (p1 : Int32) (F9 : VS → Prop) (fr : Nat) (lo : Nat) (mc9 : Nat) (ms9 : Nat) (hc9 : ∀ sz : Nat, mX l ⟨"SeriesVault", "parcel", "(II)I"⟩ [Cond.code ⟨"SeriesVault", "parcel", "(II)I"⟩ prog_1_method_44_code 4 (some FieldType.int)] { frames := fr, cells := mc9, slots := ms9, locals := lo } (pC D dA [.ref h, .int p0, .int p1] (VW dA h ad x) sz) "java/lang/IllegalStateException" (fun st9 t9 => va_F (va_A (VW dA h ad x) sz) st9 t9 ∧ ∃ u9 : VS, F9 u9 ∧ bW D (va_A (VW dA h ad x) sz) (VW dA h ad u9) t9) mc9 ms9 (va_A (VW dA h ad x) sz)) : Met l ⟨"SeriesVaultLaw", "parcel", "(LSeriesVault;II[J)I"⟩ [Cond.codeWith ⟨"SeriesVaultLaw", "parcel", "(LSeriesVault;II[J)I"⟩ method_21_code 5 (some FieldType.int) [(0, 10, 13, 29), (0, 10, 17, 35), (0, 10, 21, 19)]] { frames := fr + 1, cells := mc9, slots := ms9, locals := lo + 23 } (pC D dA [.ref h, .int p0, .int p1, .ref o] ([(o, .inl (dA 2, 1, .inr (.inl og)))] ++ (VW dA h ad x)) sz) (va_Qi (fun (r9 : Int32) (u9 : VS) => r9 = 1 ∧ F9 u9) (fun (u9 : VS) t9 => bW D (va_A ([(o, .inl (dA 2, 1, .inr (.inl og)))] ++ (VW dA h ad x)) sz) ([(o, .inl (dA 2, 1, .inr (.inl og)))] ++ (VW dA h ad u9)) t9) (va_A ([(o, .inl (dA 2, 1, .inr (.inl og)))] ++ (VW dA h ad x)) sz)) mc9 ms9 (va_A ([(o, .inl (dA 2, 1, .inr (.inl og)))] ++ (VW dA h ad x)) sz) := by
  refine mkW (y := ⟨"SeriesVaultLaw", "parcel", "(LSeriesVault;II[J)I"⟩) (cc := method_21_code) (maxL := 5) (av := [.ref h, .int p0, .int p1, .ref o]) (ws := [(o, .inl (dA 2, 1, .inr (.inl og)))] ++ (VW dA h ad x)) (sz := sz) (Qc := fun A => va_Qi (fun (r9 : Int32) (u9 : VS) => r9 = 1 ∧ F9 u9) (fun (u9 : VS) t9 => bW D A ([(o, .inl (dA 2, 1, .inr (.inl og)))] ++ (VW dA h ad u9)) t9) A) (by decide) (Nat.le_of_ble_eq_true rfl) ?_
  intro A p e s m below meth c ls hsz htab hB
  obtain ⟨hx, hb, hr, hml, hown, hin, hlk, hE, hK, hP, hD, hS, hA, hN, hl⟩ := hB
  have hown : s.vm.findClass "SeriesVaultLaw" = some m.cls := hown
  have hl : lv_has ls 5 [(0, .ref h), (1, .int p0), (2, .int p1), (3, .ref o)] := hl
  obtain ⟨H, hH⟩ : ∃ z, z = s.heap := ⟨_, rfl⟩
  have hP : va_P D vwCl ([(o, .inl (dA 2, 1, .inr (.inl og)))] ++ (VW dA h ad x)) H := by rw [hH]; exact hP
  have hS : va_S A s.heap H [] := by rw [hH]; exact hS
  rw [← hH]
  refine lv_aload_n hx hb d_SeriesVaultLaw_parcel_0 rfl (lv_at hl 3 rfl) ?_
  refine lv_iconst (v := 0) hx hb d_SeriesVaultLaw_parcel_1 (by decide) ?_
  refine lv_aload_n hx hb d_SeriesVaultLaw_parcel_2 rfl (lv_at hl 0 rfl) ?_
  refine lv_iload_n hx hb d_SeriesVaultLaw_parcel_3 rfl (lv_at hl 1 rfl) ?_
  refine lv_iload_n hx hb d_SeriesVaultLaw_parcel_4 rfl (lv_at hl 2 rfl) ?_
  refine xkV (S := VS) (F := F9) (w1 := fun u => VW dA h ad u) (wr := [(o, .inl (dA 2, 1, .inr (.inl og)))]) (As := [.int p0, .int p1]) (rest := [.int 0, .ref o]) hx hb hml hown hE hK (hN _ _ hS) (hc9 H.size) (q0 := 0) rfl rfl w393 w392 w394 w395 w277 rfl rfl ⟨⟨by decide, by decide⟩, rfl⟩ ⟨(by first | exact Nat.le_of_ble_eq_true rfl | (dsimp only; omega)), (by first | exact Nat.le_of_ble_eq_true rfl | (dsimp only; omega))⟩ rfl hl.1 rfl (by first | exact Nat.le_of_ble_eq_true rfl | (dsimp only; omega)) d_SeriesVaultLaw_parcel_5 ⟨(show 0 + mc9 ≤ mc9 by omega), (show 0 + ms9 ≤ ms9 by omega)⟩ hP hD hS hA (fun u2 xa1 ce H locs hf9 hP hD hS hce hcv hcl => ?_)
  have hP : va_P D vwCl ([(o, .inl (dA 2, 1, .inr (.inl og)))] ++ (VW dA h ad u2)) H := hP
  have hD : va_D A ([(o, .inl (dA 2, 1, .inr (.inl og)))] ++ (VW dA h ad u2)) := hD
  refine xCatch (E := "java/lang/IllegalStateException") hown hE [] ⟨0, 10, 13, 29⟩ [⟨0, 10, 17, 35⟩, ⟨0, 10, 21, 19⟩] htab (fun _ h => absurd h List.not_mem_nil) (by decide) (by decide) w363 w289 hce hcv hcl ?_
  refine lv_astore hx hb d_SeriesVaultLaw_parcel_13 hl (by decide) rfl (fun ls hl => ?_)
  have hl : lv_has ls 5 [(4, .ref xa1), (0, .ref h), (1, .int p0), (2, .int p1), (3, .ref o)] := hl
  refine lv_iconst (v := 1) hx hb d_SeriesVaultLaw_parcel_15 (by decide) ?_
  exact rfI hx hb hr hlk hS u2 ⟨rfl, hf9⟩ hP hD (show 0 + mc9 ≤ mc9 by omega) (show 0 + ms9 ≤ ms9 by omega) d_SeriesVaultLaw_parcel_16
set_option maxHeartbeats 4000000 in
set_option maxRecDepth 100000 in
theorem k8_parcel_2 (l : Launch) (D : va_G) (dA : Nat → ClassId) (sz : Nat) (h : Nat) (ad : Nat → Nat) (o : Nat) (og : Nat → Int64) (x : VS) (p0 : Int32) (p1 : Int32) (F9 : VS → Prop) (fr : Nat) (lo : Nat) (mc9 : Nat) (ms9 : Nat) (hc9 : ∀ sz : Nat, mX l ⟨"SeriesVault", "parcel", "(II)I"⟩ [Cond.code ⟨"SeriesVault", "parcel", "(II)I"⟩ prog_1_method_44_code 4 (some FieldType.int)] { frames := fr, cells := mc9, slots := ms9, locals := lo } (pC D dA [.ref h, .int p0, .int p1] (VW dA h ad x) sz) "java/lang/IndexOutOfBoundsException" (fun st9 t9 => va_F (va_A (VW dA h ad x) sz) st9 t9 ∧ ∃ u9 : VS, F9 u9 ∧ bW D (va_A (VW dA h ad x) sz) (VW dA h ad u9) t9) mc9 ms9 (va_A (VW dA h ad x) sz)) : Met l ⟨"SeriesVaultLaw", "parcel", "(LSeriesVault;II[J)I"⟩ [Cond.codeWith ⟨"SeriesVaultLaw", "parcel", "(LSeriesVault;II[J)I"⟩ method_21_code 5 (some FieldType.int) [(0, 10, 13, 29), (0, 10, 17, 35), (0, 10, 21, 19)]] { frames := fr + 1, cells := mc9, slots := ms9, locals := lo + 23 } (pC D dA [.ref h, .int p0, .int p1, .ref o] ([(o, .inl (dA 2, 1, .inr (.inl og)))] ++ (VW dA h ad x)) sz) (va_Qi (fun (r9 : Int32) (u9 : VS) => r9 = 2 ∧ F9 u9) (fun (u9 : VS) t9 => bW D (va_A ([(o, .inl (dA 2, 1, .inr (.inl og)))] ++ (VW dA h ad x)) sz) ([(o, .inl (dA 2, 1, .inr (.inl og)))] ++ (VW dA h ad u9)) t9) (va_A ([(o, .inl (dA 2, 1, .inr (.inl og)))] ++ (VW dA h ad x)) sz)) mc9 ms9 (va_A ([(o, .inl (dA 2, 1, .inr (.inl og)))] ++ (VW dA h ad x)) sz) := by
  refine mkW (y := ⟨"SeriesVaultLaw", "parcel", "(LSeriesVault;II[J)I"⟩) (cc := method_21_code) (maxL := 5) (av := [.ref h, .int p0, .int p1, .ref o]) (ws := [(o, .inl (dA 2, 1, .inr (.inl og)))] ++ (VW dA h ad x)) (sz := sz) (Qc := fun A => va_Qi (fun (r9 : Int32) (u9 : VS) => r9 = 2 ∧ F9 u9) (fun (u9 : VS) t9 => bW D A ([(o, .inl (dA 2, 1, .inr (.inl og)))] ++ (VW dA h ad u9)) t9) A) (by decide) (Nat.le_of_ble_eq_true rfl) ?_
  intro A p e s m below meth c ls hsz htab hB
  obtain ⟨hx, hb, hr, hml, hown, hin, hlk, hE, hK, hP, hD, hS, hA, hN, hl⟩ := hB
  have hown : s.vm.findClass "SeriesVaultLaw" = some m.cls := hown
  have hl : lv_has ls 5 [(0, .ref h), (1, .int p0), (2, .int p1), (3, .ref o)] := hl
  obtain ⟨H, hH⟩ : ∃ z, z = s.heap := ⟨_, rfl⟩
  have hP : va_P D vwCl ([(o, .inl (dA 2, 1, .inr (.inl og)))] ++ (VW dA h ad x)) H := by rw [hH]; exact hP
  have hS : va_S A s.heap H [] := by rw [hH]; exact hS
  rw [← hH]
  refine lv_aload_n hx hb d_SeriesVaultLaw_parcel_0 rfl (lv_at hl 3 rfl) ?_
  refine lv_iconst (v := 0) hx hb d_SeriesVaultLaw_parcel_1 (by decide) ?_
  refine lv_aload_n hx hb d_SeriesVaultLaw_parcel_2 rfl (lv_at hl 0 rfl) ?_
  refine lv_iload_n hx hb d_SeriesVaultLaw_parcel_3 rfl (lv_at hl 1 rfl) ?_
  refine lv_iload_n hx hb d_SeriesVaultLaw_parcel_4 rfl (lv_at hl 2 rfl) ?_
  refine xkV (S := VS) (F := F9) (w1 := fun u => VW dA h ad u) (wr := [(o, .inl (dA 2, 1, .inr (.inl og)))]) (As := [.int p0, .int p1]) (rest := [.int 0, .ref o]) hx hb hml hown hE hK (hN _ _ hS) (hc9 H.size) (q0 := 0) rfl rfl w393 w392 w394 w395 w277 rfl rfl ⟨⟨by decide, by decide⟩, rfl⟩ ⟨(by first | exact Nat.le_of_ble_eq_true rfl | (dsimp only; omega)), (by first | exact Nat.le_of_ble_eq_true rfl | (dsimp only; omega))⟩ rfl hl.1 rfl (by first | exact Nat.le_of_ble_eq_true rfl | (dsimp only; omega)) d_SeriesVaultLaw_parcel_5 ⟨(show 0 + mc9 ≤ mc9 by omega), (show 0 + ms9 ≤ ms9 by omega)⟩ hP hD hS hA (fun u2 xa1 ce H locs hf9 hP hD hS hce hcv hcl => ?_)
  have hP : va_P D vwCl ([(o, .inl (dA 2, 1, .inr (.inl og)))] ++ (VW dA h ad u2)) H := hP
  have hD : va_D A ([(o, .inl (dA 2, 1, .inr (.inl og)))] ++ (VW dA h ad u2)) := hD
  refine xCatch (E := "java/lang/IndexOutOfBoundsException") hown hE [⟨0, 10, 13, 29⟩] ⟨0, 10, 17, 35⟩ [⟨0, 10, 21, 19⟩] htab (List.forall_mem_cons.mpr ⟨⟨by decide, "java/lang/IllegalStateException", w363, by decide⟩, fun _ h => absurd h List.not_mem_nil⟩) (by decide) (by decide) w354 w222 hce hcv hcl ?_
  refine lv_astore hx hb d_SeriesVaultLaw_parcel_17 hl (by decide) rfl (fun ls hl => ?_)
  have hl : lv_has ls 5 [(4, .ref xa1), (0, .ref h), (1, .int p0), (2, .int p1), (3, .ref o)] := hl
  refine lv_iconst (v := 2) hx hb d_SeriesVaultLaw_parcel_19 (by decide) ?_
  exact rfI hx hb hr hlk hS u2 ⟨rfl, hf9⟩ hP hD (show 0 + mc9 ≤ mc9 by omega) (show 0 + ms9 ≤ ms9 by omega) d_SeriesVaultLaw_parcel_20
theorem d_SeriesVaultLaw_parcel_21 : decode method_21_code 21 = .ok (.astore 4, 2) := by decide +kernel
theorem d_SeriesVaultLaw_parcel_23 : decode method_21_code 23 = .ok (.iconst 3, 1) := by decide +kernel
theorem d_SeriesVaultLaw_parcel_24 : decode method_21_code 24 = .ok (.ireturn, 1) := by decide +kernel
set_option maxHeartbeats 4000000 in
set_option maxRecDepth 100000 in
theorem k8_parcel_3 (l : Launch) (D : va_G) (dA : Nat → ClassId) (sz : Nat) (h : Nat) (ad : Nat → Nat) (o : Nat) (og : Nat → Int64) (x : VS) (p0 : Int32) (p1 : Int32) (F9 : VS → Prop) (fr : Nat) (lo : Nat) (mc9 : Nat) (ms9 : Nat) (hc9 : ∀ sz : Nat, mX l ⟨"SeriesVault", "parcel", "(II)I"⟩ [Cond.code ⟨"SeriesVault", "parcel", "(II)I"⟩ prog_1_method_44_code 4 (some FieldType.int)] { frames := fr, cells := mc9, slots := ms9, locals := lo } (pC D dA [.ref h, .int p0, .int p1] (VW dA h ad x) sz) "java/lang/IllegalArgumentException" (fun st9 t9 => va_F (va_A (VW dA h ad x) sz) st9 t9 ∧ ∃ u9 : VS, F9 u9 ∧ bW D (va_A (VW dA h ad x) sz) (VW dA h ad u9) t9) mc9 ms9 (va_A (VW dA h ad x) sz)) : Met l ⟨"SeriesVaultLaw", "parcel", "(LSeriesVault;II[J)I"⟩ [Cond.codeWith ⟨"SeriesVaultLaw", "parcel", "(LSeriesVault;II[J)I"⟩ method_21_code 5 (some FieldType.int) [(0, 10, 13, 29), (0, 10, 17, 35), (0, 10, 21, 19)]] { frames := fr + 1, cells := mc9, slots := ms9, locals := lo + 23 } (pC D dA [.ref h, .int p0, .int p1, .ref o] ([(o, .inl (dA 2, 1, .inr (.inl og)))] ++ (VW dA h ad x)) sz) (va_Qi (fun (r9 : Int32) (u9 : VS) => r9 = 3 ∧ F9 u9) (fun (u9 : VS) t9 => bW D (va_A ([(o, .inl (dA 2, 1, .inr (.inl og)))] ++ (VW dA h ad x)) sz) ([(o, .inl (dA 2, 1, .inr (.inl og)))] ++ (VW dA h ad u9)) t9) (va_A ([(o, .inl (dA 2, 1, .inr (.inl og)))] ++ (VW dA h ad x)) sz)) mc9 ms9 (va_A ([(o, .inl (dA 2, 1, .inr (.inl og)))] ++ (VW dA h ad x)) sz) := by
  refine mkW (y := ⟨"SeriesVaultLaw", "parcel", "(LSeriesVault;II[J)I"⟩) (cc := method_21_code) (maxL := 5) (av := [.ref h, .int p0, .int p1, .ref o]) (ws := [(o, .inl (dA 2, 1, .inr (.inl og)))] ++ (VW dA h ad x)) (sz := sz) (Qc := fun A => va_Qi (fun (r9 : Int32) (u9 : VS) => r9 = 3 ∧ F9 u9) (fun (u9 : VS) t9 => bW D A ([(o, .inl (dA 2, 1, .inr (.inl og)))] ++ (VW dA h ad u9)) t9) A) (by decide) (Nat.le_of_ble_eq_true rfl) ?_
  intro A p e s m below meth c ls hsz htab hB
  obtain ⟨hx, hb, hr, hml, hown, hin, hlk, hE, hK, hP, hD, hS, hA, hN, hl⟩ := hB
  have hown : s.vm.findClass "SeriesVaultLaw" = some m.cls := hown
  have hl : lv_has ls 5 [(0, .ref h), (1, .int p0), (2, .int p1), (3, .ref o)] := hl
  obtain ⟨H, hH⟩ : ∃ z, z = s.heap := ⟨_, rfl⟩
  have hP : va_P D vwCl ([(o, .inl (dA 2, 1, .inr (.inl og)))] ++ (VW dA h ad x)) H := by rw [hH]; exact hP
  have hS : va_S A s.heap H [] := by rw [hH]; exact hS
  rw [← hH]
  refine lv_aload_n hx hb d_SeriesVaultLaw_parcel_0 rfl (lv_at hl 3 rfl) ?_
  refine lv_iconst (v := 0) hx hb d_SeriesVaultLaw_parcel_1 (by decide) ?_
  refine lv_aload_n hx hb d_SeriesVaultLaw_parcel_2 rfl (lv_at hl 0 rfl) ?_
  refine lv_iload_n hx hb d_SeriesVaultLaw_parcel_3 rfl (lv_at hl 1 rfl) ?_
  refine lv_iload_n hx hb d_SeriesVaultLaw_parcel_4 rfl (lv_at hl 2 rfl) ?_
  refine xkV (S := VS) (F := F9) (w1 := fun u => VW dA h ad u) (wr := [(o, .inl (dA 2, 1, .inr (.inl og)))]) (As := [.int p0, .int p1]) (rest := [.int 0, .ref o]) hx hb hml hown hE hK (hN _ _ hS) (hc9 H.size) (q0 := 0) rfl rfl w393 w392 w394 w395 w277 rfl rfl ⟨⟨by decide, by decide⟩, rfl⟩ ⟨(by first | exact Nat.le_of_ble_eq_true rfl | (dsimp only; omega)), (by first | exact Nat.le_of_ble_eq_true rfl | (dsimp only; omega))⟩ rfl hl.1 rfl (by first | exact Nat.le_of_ble_eq_true rfl | (dsimp only; omega)) d_SeriesVaultLaw_parcel_5 ⟨(show 0 + mc9 ≤ mc9 by omega), (show 0 + ms9 ≤ ms9 by omega)⟩ hP hD hS hA (fun u2 xa1 ce H locs hf9 hP hD hS hce hcv hcl => ?_)
  have hP : va_P D vwCl ([(o, .inl (dA 2, 1, .inr (.inl og)))] ++ (VW dA h ad u2)) H := hP
  have hD : va_D A ([(o, .inl (dA 2, 1, .inr (.inl og)))] ++ (VW dA h ad u2)) := hD
  refine xCatch (E := "java/lang/IllegalArgumentException") hown hE [⟨0, 10, 13, 29⟩, ⟨0, 10, 17, 35⟩] ⟨0, 10, 21, 19⟩ [] htab (List.forall_mem_cons.mpr ⟨⟨by decide, "java/lang/IllegalStateException", w363, by decide⟩, List.forall_mem_cons.mpr ⟨⟨by decide, "java/lang/IndexOutOfBoundsException", w354, by decide⟩, fun _ h => absurd h List.not_mem_nil⟩⟩) (by decide) (by decide) w349 w267 hce hcv hcl ?_
  refine lv_astore hx hb d_SeriesVaultLaw_parcel_21 hl (by decide) rfl (fun ls hl => ?_)
  have hl : lv_has ls 5 [(4, .ref xa1), (0, .ref h), (1, .int p0), (2, .int p1), (3, .ref o)] := hl
  refine lv_iconst (v := 3) hx hb d_SeriesVaultLaw_parcel_23 (by decide) ?_
  exact rfI hx hb hr hlk hS u2 ⟨rfl, hf9⟩ hP hD (show 0 + mc9 ≤ mc9 by omega) (show 0 + ms9 ≤ ms9 by omega) d_SeriesVaultLaw_parcel_24
theorem d_SeriesVaultLaw_last_7 : decode method_22_code 7 = .ok (.lastore, 1) := by decide +kernel
theorem d_SeriesVaultLaw_last_8 : decode method_22_code 8 = .ok (.goto 9, 3) := by decide +kernel
theorem d_SeriesVaultLaw_last_17 : decode method_22_code 17 = .ok (.iconst 0, 1) := by decide +kernel
theorem d_SeriesVaultLaw_last_18 : decode method_22_code 18 = .ok (.ireturn, 1) := by decide +kernel
set_option maxHeartbeats 4000000 in
set_option maxRecDepth 100000 in
theorem k8_last (l : Launch) (D : va_G) (dA : Nat → ClassId) (sz : Nat) (h : Nat) (ad : Nat → Nat) (o : Nat) (og : Nat → Int64) (x : VS) (p0 : Int32) (v9 : Int64) (F9 : VS → Prop) (fr : Nat) (lo : Nat) (mc9 : Nat) (ms9 : Nat) (hc9 : ∀ sz : Nat, Met l ⟨"SeriesVault", "last", "(I)J"⟩ [Cond.code ⟨"SeriesVault", "last", "(I)J"⟩ prog_1_method_27_code 2 (some FieldType.long)] { frames := fr, cells := mc9, slots := ms9, locals := lo } (pC D dA [.ref h, .int p0] (VW dA h ad x) sz) (va_Ql (fun (r9 : Int64) (u9 : VS) => r9 = v9 ∧ F9 u9) (fun (u9 : VS) t9 => bW D (va_A (VW dA h ad x) sz) (VW dA h ad u9) t9) (va_A (VW dA h ad x) sz)) mc9 ms9 (va_A (VW dA h ad x) sz)) : Met l ⟨"SeriesVaultLaw", "last", "(LSeriesVault;I[J)I"⟩ [Cond.codeWith ⟨"SeriesVaultLaw", "last", "(LSeriesVault;I[J)I"⟩ method_22_code 4 (some FieldType.int) [(0, 8, 11, 29), (0, 8, 14, 35)]] { frames := fr + 1, cells := mc9, slots := ms9, locals := lo + 21 } (pC D dA [.ref h, .int p0, .ref o] ([(o, .inl (dA 2, 1, .inr (.inl og)))] ++ (VW dA h ad x)) sz) (va_Qi (fun (r9 : Int32) (u9 : VS) => r9 = 0 ∧ F9 u9) (fun (u9 : VS) t9 => bW D (va_A ([(o, .inl (dA 2, 1, .inr (.inl og)))] ++ (VW dA h ad x)) sz) ([(o, .inl (dA 2, 1, .inr (.inl (va_up og 0 v9))))] ++ (VW dA h ad u9)) t9) (va_A ([(o, .inl (dA 2, 1, .inr (.inl og)))] ++ (VW dA h ad x)) sz)) mc9 ms9 (va_A ([(o, .inl (dA 2, 1, .inr (.inl og)))] ++ (VW dA h ad x)) sz) := by
  refine mkW (y := ⟨"SeriesVaultLaw", "last", "(LSeriesVault;I[J)I"⟩) (cc := method_22_code) (maxL := 4) (av := [.ref h, .int p0, .ref o]) (ws := [(o, .inl (dA 2, 1, .inr (.inl og)))] ++ (VW dA h ad x)) (sz := sz) (Qc := fun A => va_Qi (fun (r9 : Int32) (u9 : VS) => r9 = 0 ∧ F9 u9) (fun (u9 : VS) t9 => bW D A ([(o, .inl (dA 2, 1, .inr (.inl (va_up og 0 v9))))] ++ (VW dA h ad u9)) t9) A) (by decide) (Nat.le_of_ble_eq_true rfl) ?_
  intro A p e s m below meth c ls hsz htab hB
  obtain ⟨hx, hb, hr, hml, hown, hin, hlk, hE, hK, hP, hD, hS, hA, hN, hl⟩ := hB
  have hown : s.vm.findClass "SeriesVaultLaw" = some m.cls := hown
  have hl : lv_has ls 4 [(0, .ref h), (1, .int p0), (2, .ref o)] := hl
  obtain ⟨H, hH⟩ : ∃ z, z = s.heap := ⟨_, rfl⟩
  have hP : va_P D vwCl ([(o, .inl (dA 2, 1, .inr (.inl og)))] ++ (VW dA h ad x)) H := by rw [hH]; exact hP
  have hS : va_S A s.heap H [] := by rw [hH]; exact hS
  rw [← hH]
  refine lv_aload_n hx hb d_SeriesVaultLaw_last_0 rfl (lv_at hl 2 rfl) ?_
  refine lv_iconst (v := 0) hx hb d_SeriesVaultLaw_last_1 (by decide) ?_
  refine lv_aload_n hx hb d_SeriesVaultLaw_last_2 rfl (lv_at hl 0 rfl) ?_
  refine lv_iload_n hx hb d_SeriesVaultLaw_last_3 rfl (lv_at hl 1 rfl) ?_
  have hPc : va_P D vwCl (VW dA h ad x) H := spP (wr := [(o, .inl (dA 2, 1, .inr (.inl og)))]) hP
  have hDc : va_D A (VW dA h ad x) := spD (wr := [(o, .inl (dA 2, 1, .inr (.inl og)))]) hD
  refine jkL (wr := [(o, .inl (dA 2, 1, .inr (.inl og)))]) (rnV (As := [.int p0]) (rest := [.int 0, .ref o]) hx hb hml hown hE hK (hN _ _ hS) hPc hDc ((fun (_ : Launch) (_ : va_G) (_ : Nat → ClassId) (sz9 : Nat) (_ : Nat) (_ : Nat → Nat) (_ : VS) (_ : Int32) => hc9 sz9) l D dA H.size h ad x p0) (q0 := 0) rfl rfl w373 w372 w374 w375 w277 rfl rfl ⟨⟨by decide, by decide⟩, rfl⟩ ⟨(by first | exact Nat.le_of_ble_eq_true rfl | (dsimp only; omega)), (by first | exact Nat.le_of_ble_eq_true rfl | (dsimp only; omega))⟩ rfl hl.1 rfl (by first | exact Nat.le_of_ble_eq_true rfl | (dsimp only; omega)) d_SeriesVaultLaw_last_4 ⟨(show 0 + mc9 ≤ mc9 by omega), (show 0 + ms9 ≤ ms9 by omega)⟩) hP hD hS hA (fun r1 u2 H locs hp9 hP hD hS => ?_)
  obtain ⟨u8, h9u⟩ : ∃ z9, z9 = u2 := ⟨_, rfl⟩
  subst h9u
  have hP : va_P D vwCl ([(o, .inl (dA 2, 1, .inr (.inl og)))] ++ (VW dA h ad u8)) H := hP
  have hD : va_D A ([(o, .inl (dA 2, 1, .inr (.inl og)))] ++ (VW dA h ad u8)) := hD
  obtain ⟨hp9, f_f_3⟩ := hp9
  replace hp9 : v9 = r1 := Eq.symm hp9
  subst hp9
  refine nlst (n := 1) hx hb hK hP hD hS (0) 2 rfl rfl (0) (by omega) (by decide) d_SeriesVaultLaw_last_7 (fun H locs hP hD hS => ?_)
  have hP : va_P D vwCl ([(o, .inl (dA 2, 1, .inr (.inl (va_up og 0 v9))))] ++ (VW dA h ad u8)) H := hP
  have hD : va_D A ([(o, .inl (dA 2, 1, .inr (.inl (va_up og 0 v9))))] ++ (VW dA h ad u8)) := hD
  refine lv_goto hx hb d_SeriesVaultLaw_last_8 (tgt := 17) rfl ?_
  refine lv_iconst (v := 0) hx hb d_SeriesVaultLaw_last_17 (by decide) ?_
  exact rfI hx hb hr hlk hS u8 ⟨rfl, f_f_3⟩ hP hD (show 0 + mc9 ≤ mc9 by omega) (show 0 + ms9 ≤ ms9 by omega) d_SeriesVaultLaw_last_18
theorem d_SeriesVaultLaw_last_11 : decode method_22_code 11 = .ok (.astore_n 3, 1) := by decide +kernel
theorem d_SeriesVaultLaw_last_12 : decode method_22_code 12 = .ok (.iconst 1, 1) := by decide +kernel
theorem d_SeriesVaultLaw_last_13 : decode method_22_code 13 = .ok (.ireturn, 1) := by decide +kernel
set_option maxHeartbeats 4000000 in
set_option maxRecDepth 100000 in
theorem k8_last_1 (l : Launch) (D : va_G) (dA : Nat → ClassId) (sz : Nat) (h : Nat) (ad : Nat → Nat) (o : Nat) (og : Nat → Int64) (x : VS) (p0 : Int32) (F9 : VS → Prop) (fr : Nat) (lo : Nat) (mc9 : Nat) (ms9 : Nat) (hc9 : ∀ sz : Nat, mX l ⟨"SeriesVault", "last", "(I)J"⟩ [Cond.code ⟨"SeriesVault", "last", "(I)J"⟩ prog_1_method_27_code 2 (some FieldType.long)] { frames := fr, cells := mc9, slots := ms9, locals := lo } (pC D dA [.ref h, .int p0] (VW dA h ad x) sz) "java/lang/IllegalStateException" (fun st9 t9 => va_F (va_A (VW dA h ad x) sz) st9 t9 ∧ ∃ u9 : VS, F9 u9 ∧ bW D (va_A (VW dA h ad x) sz) (VW dA h ad u9) t9) mc9 ms9 (va_A (VW dA h ad x) sz)) : Met l ⟨"SeriesVaultLaw", "last", "(LSeriesVault;I[J)I"⟩ [Cond.codeWith ⟨"SeriesVaultLaw", "last", "(LSeriesVault;I[J)I"⟩ method_22_code 4 (some FieldType.int) [(0, 8, 11, 29), (0, 8, 14, 35)]] { frames := fr + 1, cells := mc9, slots := ms9, locals := lo + 21 } (pC D dA [.ref h, .int p0, .ref o] ([(o, .inl (dA 2, 1, .inr (.inl og)))] ++ (VW dA h ad x)) sz) (va_Qi (fun (r9 : Int32) (u9 : VS) => r9 = 1 ∧ F9 u9) (fun (u9 : VS) t9 => bW D (va_A ([(o, .inl (dA 2, 1, .inr (.inl og)))] ++ (VW dA h ad x)) sz) ([(o, .inl (dA 2, 1, .inr (.inl og)))] ++ (VW dA h ad u9)) t9) (va_A ([(o, .inl (dA 2, 1, .inr (.inl og)))] ++ (VW dA h ad x)) sz)) mc9 ms9 (va_A ([(o, .inl (dA 2, 1, .inr (.inl og)))] ++ (VW dA h ad x)) sz) := by
  refine mkW (y := ⟨"SeriesVaultLaw", "last", "(LSeriesVault;I[J)I"⟩) (cc := method_22_code) (maxL := 4) (av := [.ref h, .int p0, .ref o]) (ws := [(o, .inl (dA 2, 1, .inr (.inl og)))] ++ (VW dA h ad x)) (sz := sz) (Qc := fun A => va_Qi (fun (r9 : Int32) (u9 : VS) => r9 = 1 ∧ F9 u9) (fun (u9 : VS) t9 => bW D A ([(o, .inl (dA 2, 1, .inr (.inl og)))] ++ (VW dA h ad u9)) t9) A) (by decide) (Nat.le_of_ble_eq_true rfl) ?_
  intro A p e s m below meth c ls hsz htab hB
  obtain ⟨hx, hb, hr, hml, hown, hin, hlk, hE, hK, hP, hD, hS, hA, hN, hl⟩ := hB
  have hown : s.vm.findClass "SeriesVaultLaw" = some m.cls := hown
  have hl : lv_has ls 4 [(0, .ref h), (1, .int p0), (2, .ref o)] := hl
  obtain ⟨H, hH⟩ : ∃ z, z = s.heap := ⟨_, rfl⟩
  have hP : va_P D vwCl ([(o, .inl (dA 2, 1, .inr (.inl og)))] ++ (VW dA h ad x)) H := by rw [hH]; exact hP
  have hS : va_S A s.heap H [] := by rw [hH]; exact hS
  rw [← hH]
  refine lv_aload_n hx hb d_SeriesVaultLaw_last_0 rfl (lv_at hl 2 rfl) ?_
  refine lv_iconst (v := 0) hx hb d_SeriesVaultLaw_last_1 (by decide) ?_
  refine lv_aload_n hx hb d_SeriesVaultLaw_last_2 rfl (lv_at hl 0 rfl) ?_
  refine lv_iload_n hx hb d_SeriesVaultLaw_last_3 rfl (lv_at hl 1 rfl) ?_
  refine xkV (S := VS) (F := F9) (w1 := fun u => VW dA h ad u) (wr := [(o, .inl (dA 2, 1, .inr (.inl og)))]) (As := [.int p0]) (rest := [.int 0, .ref o]) hx hb hml hown hE hK (hN _ _ hS) (hc9 H.size) (q0 := 0) rfl rfl w373 w372 w374 w375 w277 rfl rfl ⟨⟨by decide, by decide⟩, rfl⟩ ⟨(by first | exact Nat.le_of_ble_eq_true rfl | (dsimp only; omega)), (by first | exact Nat.le_of_ble_eq_true rfl | (dsimp only; omega))⟩ rfl hl.1 rfl (by first | exact Nat.le_of_ble_eq_true rfl | (dsimp only; omega)) d_SeriesVaultLaw_last_4 ⟨(show 0 + mc9 ≤ mc9 by omega), (show 0 + ms9 ≤ ms9 by omega)⟩ hP hD hS hA (fun u2 xa1 ce H locs hf9 hP hD hS hce hcv hcl => ?_)
  have hP : va_P D vwCl ([(o, .inl (dA 2, 1, .inr (.inl og)))] ++ (VW dA h ad u2)) H := hP
  have hD : va_D A ([(o, .inl (dA 2, 1, .inr (.inl og)))] ++ (VW dA h ad u2)) := hD
  refine xCatch (E := "java/lang/IllegalStateException") hown hE [] ⟨0, 8, 11, 29⟩ [⟨0, 8, 14, 35⟩] htab (fun _ h => absurd h List.not_mem_nil) (by decide) (by decide) w363 w289 hce hcv hcl ?_
  refine lv_astore_n hx hb d_SeriesVaultLaw_last_11 rfl hl (by decide) rfl (fun ls hl => ?_)
  have hl : lv_has ls 4 [(3, .ref xa1), (0, .ref h), (1, .int p0), (2, .ref o)] := hl
  refine lv_iconst (v := 1) hx hb d_SeriesVaultLaw_last_12 (by decide) ?_
  exact rfI hx hb hr hlk hS u2 ⟨rfl, hf9⟩ hP hD (show 0 + mc9 ≤ mc9 by omega) (show 0 + ms9 ≤ ms9 by omega) d_SeriesVaultLaw_last_13
set_option maxHeartbeats 4000000 in
set_option maxRecDepth 100000 in
theorem k8_last_2 (l : Launch) (D : va_G) (dA : Nat → ClassId) (sz : Nat) (h : Nat) (ad : Nat → Nat) (o : Nat) (og : Nat → Int64) (x : VS) (p0 : Int32) (F9 : VS → Prop) (fr : Nat) (lo : Nat) (mc9 : Nat) (ms9 : Nat) (hc9 : ∀ sz : Nat, mX l ⟨"SeriesVault", "last", "(I)J"⟩ [Cond.code ⟨"SeriesVault", "last", "(I)J"⟩ prog_1_method_27_code 2 (some FieldType.long)] { frames := fr, cells := mc9, slots := ms9, locals := lo } (pC D dA [.ref h, .int p0] (VW dA h ad x) sz) "java/lang/IndexOutOfBoundsException" (fun st9 t9 => va_F (va_A (VW dA h ad x) sz) st9 t9 ∧ ∃ u9 : VS, F9 u9 ∧ bW D (va_A (VW dA h ad x) sz) (VW dA h ad u9) t9) mc9 ms9 (va_A (VW dA h ad x) sz)) : Met l ⟨"SeriesVaultLaw", "last", "(LSeriesVault;I[J)I"⟩ [Cond.codeWith ⟨"SeriesVaultLaw", "last", "(LSeriesVault;I[J)I"⟩ method_22_code 4 (some FieldType.int) [(0, 8, 11, 29), (0, 8, 14, 35)]] { frames := fr + 1, cells := mc9, slots := ms9, locals := lo + 21 } (pC D dA [.ref h, .int p0, .ref o] ([(o, .inl (dA 2, 1, .inr (.inl og)))] ++ (VW dA h ad x)) sz) (va_Qi (fun (r9 : Int32) (u9 : VS) => r9 = 2 ∧ F9 u9) (fun (u9 : VS) t9 => bW D (va_A ([(o, .inl (dA 2, 1, .inr (.inl og)))] ++ (VW dA h ad x)) sz) ([(o, .inl (dA 2, 1, .inr (.inl og)))] ++ (VW dA h ad u9)) t9) (va_A ([(o, .inl (dA 2, 1, .inr (.inl og)))] ++ (VW dA h ad x)) sz)) mc9 ms9 (va_A ([(o, .inl (dA 2, 1, .inr (.inl og)))] ++ (VW dA h ad x)) sz) := by
  refine mkW (y := ⟨"SeriesVaultLaw", "last", "(LSeriesVault;I[J)I"⟩) (cc := method_22_code) (maxL := 4) (av := [.ref h, .int p0, .ref o]) (ws := [(o, .inl (dA 2, 1, .inr (.inl og)))] ++ (VW dA h ad x)) (sz := sz) (Qc := fun A => va_Qi (fun (r9 : Int32) (u9 : VS) => r9 = 2 ∧ F9 u9) (fun (u9 : VS) t9 => bW D A ([(o, .inl (dA 2, 1, .inr (.inl og)))] ++ (VW dA h ad u9)) t9) A) (by decide) (Nat.le_of_ble_eq_true rfl) ?_
  intro A p e s m below meth c ls hsz htab hB
  obtain ⟨hx, hb, hr, hml, hown, hin, hlk, hE, hK, hP, hD, hS, hA, hN, hl⟩ := hB
  have hown : s.vm.findClass "SeriesVaultLaw" = some m.cls := hown
  have hl : lv_has ls 4 [(0, .ref h), (1, .int p0), (2, .ref o)] := hl
  obtain ⟨H, hH⟩ : ∃ z, z = s.heap := ⟨_, rfl⟩
  have hP : va_P D vwCl ([(o, .inl (dA 2, 1, .inr (.inl og)))] ++ (VW dA h ad x)) H := by rw [hH]; exact hP
  have hS : va_S A s.heap H [] := by rw [hH]; exact hS
  rw [← hH]
  refine lv_aload_n hx hb d_SeriesVaultLaw_last_0 rfl (lv_at hl 2 rfl) ?_
  refine lv_iconst (v := 0) hx hb d_SeriesVaultLaw_last_1 (by decide) ?_
  refine lv_aload_n hx hb d_SeriesVaultLaw_last_2 rfl (lv_at hl 0 rfl) ?_
  refine lv_iload_n hx hb d_SeriesVaultLaw_last_3 rfl (lv_at hl 1 rfl) ?_
  refine xkV (S := VS) (F := F9) (w1 := fun u => VW dA h ad u) (wr := [(o, .inl (dA 2, 1, .inr (.inl og)))]) (As := [.int p0]) (rest := [.int 0, .ref o]) hx hb hml hown hE hK (hN _ _ hS) (hc9 H.size) (q0 := 0) rfl rfl w373 w372 w374 w375 w277 rfl rfl ⟨⟨by decide, by decide⟩, rfl⟩ ⟨(by first | exact Nat.le_of_ble_eq_true rfl | (dsimp only; omega)), (by first | exact Nat.le_of_ble_eq_true rfl | (dsimp only; omega))⟩ rfl hl.1 rfl (by first | exact Nat.le_of_ble_eq_true rfl | (dsimp only; omega)) d_SeriesVaultLaw_last_4 ⟨(show 0 + mc9 ≤ mc9 by omega), (show 0 + ms9 ≤ ms9 by omega)⟩ hP hD hS hA (fun u2 xa1 ce H locs hf9 hP hD hS hce hcv hcl => ?_)
  have hP : va_P D vwCl ([(o, .inl (dA 2, 1, .inr (.inl og)))] ++ (VW dA h ad u2)) H := hP
  have hD : va_D A ([(o, .inl (dA 2, 1, .inr (.inl og)))] ++ (VW dA h ad u2)) := hD
  refine xCatch (E := "java/lang/IndexOutOfBoundsException") hown hE [⟨0, 8, 11, 29⟩] ⟨0, 8, 14, 35⟩ [] htab (List.forall_mem_cons.mpr ⟨⟨by decide, "java/lang/IllegalStateException", w363, by decide⟩, fun _ h => absurd h List.not_mem_nil⟩) (by decide) (by decide) w354 w222 hce hcv hcl ?_
  refine lv_astore_n hx hb d_SeriesVaultLaw_last_14 rfl hl (by decide) rfl (fun ls hl => ?_)
  have hl : lv_has ls 4 [(3, .ref xa1), (0, .ref h), (1, .int p0), (2, .ref o)] := hl
  refine lv_iconst (v := 2) hx hb d_SeriesVaultLaw_last_15 (by decide) ?_
  exact rfI hx hb hr hlk hS u2 ⟨rfl, hf9⟩ hP hD (show 0 + mc9 ≤ mc9 by omega) (show 0 + ms9 ≤ ms9 by omega) d_SeriesVaultLaw_last_16
set_option maxHeartbeats 4000000 in
set_option maxRecDepth 100000 in
theorem k8_cut (l : Launch) (D : va_G) (dA : Nat → ClassId) (sz : Nat) (h : Nat) (ad : Nat → Nat) (x : VS) (p0 : Int32) (F9 : VS → Prop) (fr : Nat) (lo : Nat) (mc9 : Nat) (ms9 : Nat) (hc9 : ∀ sz : Nat, Met l ⟨"SeriesVault", "cut", "(I)V"⟩ [Cond.code ⟨"SeriesVault", "cut", "(I)V"⟩ prog_1_method_11_code 2 none] { frames := fr, cells := mc9, slots := ms9, locals := lo } (pC D dA [.ref h, .int p0] (VW dA h ad x) sz) (va_Qv (fun (u9 : VS) => F9 u9) (fun (u9 : VS) t9 => bW D (va_A (VW dA h ad x) sz) (VW dA h ad u9) t9) (va_A (VW dA h ad x) sz)) mc9 ms9 (va_A (VW dA h ad x) sz)) : Met l ⟨"SeriesVaultLaw", "cut", "(LSeriesVault;I)I"⟩ [Cond.codeWith ⟨"SeriesVaultLaw", "cut", "(LSeriesVault;I)I"⟩ method_23_code 3 (some FieldType.int) [(0, 5, 8, 29), (0, 5, 11, 19)]] { frames := fr + 1, cells := mc9, slots := ms9, locals := lo + 21 } (pC D dA [.ref h, .int p0] (VW dA h ad x) sz) (va_Qi (fun (r9 : Int32) (u9 : VS) => r9 = 0 ∧ F9 u9) (fun (u9 : VS) t9 => bW D (va_A (VW dA h ad x) sz) (VW dA h ad u9) t9) (va_A (VW dA h ad x) sz)) mc9 ms9 (va_A (VW dA h ad x) sz) := by
  refine mkW (y := ⟨"SeriesVaultLaw", "cut", "(LSeriesVault;I)I"⟩) (cc := method_23_code) (maxL := 3) (av := [.ref h, .int p0]) (ws := VW dA h ad x) (sz := sz) (Qc := fun A => va_Qi (fun (r9 : Int32) (u9 : VS) => r9 = 0 ∧ F9 u9) (fun (u9 : VS) t9 => bW D A (VW dA h ad u9) t9) A) (by decide) (Nat.le_of_ble_eq_true rfl) ?_
  intro A p e s m below meth c ls hsz htab hB
  obtain ⟨hx, hb, hr, hml, hown, hin, hlk, hE, hK, hP, hD, hS, hA, hN, hl⟩ := hB
  have hown : s.vm.findClass "SeriesVaultLaw" = some m.cls := hown
  have hl : lv_has ls 3 [(0, .ref h), (1, .int p0)] := hl
  obtain ⟨H, hH⟩ : ∃ z, z = s.heap := ⟨_, rfl⟩
  have hP : va_P D vwCl (VW dA h ad x) H := by rw [hH]; exact hP
  have hS : va_S A s.heap H [] := by rw [hH]; exact hS
  rw [← hH]
  refine lv_aload_n hx hb d_SeriesVaultLaw_cut_0 rfl (lv_at hl 0 rfl) ?_
  refine lv_iload_n hx hb d_SeriesVaultLaw_cut_1 rfl (lv_at hl 1 rfl) ?_
  refine jkV (wr := []) (rnV (As := [.int p0]) (rest := []) hx hb hml hown hE hK (hN _ _ hS) hP hD ((fun (_ : Launch) (_ : va_G) (_ : Nat → ClassId) (sz9 : Nat) (_ : Nat) (_ : Nat → Nat) (_ : VS) (_ : Int32) => hc9 sz9) l D dA H.size h ad x p0) (q0 := 0) rfl rfl w360 w359 w361 w362 w277 rfl rfl ⟨⟨by decide, by decide⟩, rfl⟩ ⟨(by first | exact Nat.le_of_ble_eq_true rfl | (dsimp only; omega)), (by first | exact Nat.le_of_ble_eq_true rfl | (dsimp only; omega))⟩ rfl hl.1 rfl (by first | exact Nat.le_of_ble_eq_true rfl | (dsimp only; omega)) d_SeriesVaultLaw_cut_2 ⟨(show 0 + mc9 ≤ mc9 by omega), (show 0 + ms9 ≤ ms9 by omega)⟩) hP hD hS hA (fun u2 H locs hp9 hP hD hS => ?_)
  obtain ⟨u8, h9u⟩ : ∃ z9, z9 = u2 := ⟨_, rfl⟩
  subst h9u
  have hP : va_P D vwCl (VW dA h ad u8) H := hP
  have hD : va_D A (VW dA h ad u8) := hD
  have f_f_3 := hp9
  refine lv_goto hx hb d_SeriesVaultLaw_cut_5 (tgt := 14) rfl ?_
  refine lv_iconst (v := 0) hx hb d_SeriesVaultLaw_cut_14 (by decide) ?_
  exact rfI hx hb hr hlk hS u8 ⟨rfl, f_f_3⟩ hP hD (show 0 + mc9 ≤ mc9 by omega) (show 0 + ms9 ≤ ms9 by omega) d_SeriesVaultLaw_cut_15
theorem d_SeriesVaultLaw_cut_8 : decode method_23_code 8 = .ok (.astore_n 2, 1) := by decide +kernel
theorem d_SeriesVaultLaw_cut_9 : decode method_23_code 9 = .ok (.iconst 1, 1) := by decide +kernel
theorem d_SeriesVaultLaw_cut_10 : decode method_23_code 10 = .ok (.ireturn, 1) := by decide +kernel
set_option maxHeartbeats 4000000 in
set_option maxRecDepth 100000 in
theorem k8_cut_1 (l : Launch) (D : va_G) (dA : Nat → ClassId) (sz : Nat) (h : Nat) (ad : Nat → Nat) (x : VS) (p0 : Int32) (F9 : VS → Prop) (fr : Nat) (lo : Nat) (mc9 : Nat) (ms9 : Nat) (hc9 : ∀ sz : Nat, mX l ⟨"SeriesVault", "cut", "(I)V"⟩ [Cond.code ⟨"SeriesVault", "cut", "(I)V"⟩ prog_1_method_11_code 2 none] { frames := fr, cells := mc9, slots := ms9, locals := lo } (pC D dA [.ref h, .int p0] (VW dA h ad x) sz) "java/lang/IllegalStateException" (fun st9 t9 => va_F (va_A (VW dA h ad x) sz) st9 t9 ∧ ∃ u9 : VS, F9 u9 ∧ bW D (va_A (VW dA h ad x) sz) (VW dA h ad u9) t9) mc9 ms9 (va_A (VW dA h ad x) sz)) : Met l ⟨"SeriesVaultLaw", "cut", "(LSeriesVault;I)I"⟩ [Cond.codeWith ⟨"SeriesVaultLaw", "cut", "(LSeriesVault;I)I"⟩ method_23_code 3 (some FieldType.int) [(0, 5, 8, 29), (0, 5, 11, 19)]] { frames := fr + 1, cells := mc9, slots := ms9, locals := lo + 21 } (pC D dA [.ref h, .int p0] (VW dA h ad x) sz) (va_Qi (fun (r9 : Int32) (u9 : VS) => r9 = 1 ∧ F9 u9) (fun (u9 : VS) t9 => bW D (va_A (VW dA h ad x) sz) (VW dA h ad u9) t9) (va_A (VW dA h ad x) sz)) mc9 ms9 (va_A (VW dA h ad x) sz) := by
  refine mkW (y := ⟨"SeriesVaultLaw", "cut", "(LSeriesVault;I)I"⟩) (cc := method_23_code) (maxL := 3) (av := [.ref h, .int p0]) (ws := VW dA h ad x) (sz := sz) (Qc := fun A => va_Qi (fun (r9 : Int32) (u9 : VS) => r9 = 1 ∧ F9 u9) (fun (u9 : VS) t9 => bW D A (VW dA h ad u9) t9) A) (by decide) (Nat.le_of_ble_eq_true rfl) ?_
  intro A p e s m below meth c ls hsz htab hB
  obtain ⟨hx, hb, hr, hml, hown, hin, hlk, hE, hK, hP, hD, hS, hA, hN, hl⟩ := hB
  have hown : s.vm.findClass "SeriesVaultLaw" = some m.cls := hown
  have hl : lv_has ls 3 [(0, .ref h), (1, .int p0)] := hl
  obtain ⟨H, hH⟩ : ∃ z, z = s.heap := ⟨_, rfl⟩
  have hP : va_P D vwCl (VW dA h ad x) H := by rw [hH]; exact hP
  have hS : va_S A s.heap H [] := by rw [hH]; exact hS
  rw [← hH]
  refine lv_aload_n hx hb d_SeriesVaultLaw_cut_0 rfl (lv_at hl 0 rfl) ?_
  refine lv_iload_n hx hb d_SeriesVaultLaw_cut_1 rfl (lv_at hl 1 rfl) ?_
  refine xkV (S := VS) (F := F9) (w1 := fun u => VW dA h ad u) (wr := []) (As := [.int p0]) (rest := []) hx hb hml hown hE hK (hN _ _ hS) (hc9 H.size) (q0 := 0) rfl rfl w360 w359 w361 w362 w277 rfl rfl ⟨⟨by decide, by decide⟩, rfl⟩ ⟨(by first | exact Nat.le_of_ble_eq_true rfl | (dsimp only; omega)), (by first | exact Nat.le_of_ble_eq_true rfl | (dsimp only; omega))⟩ rfl hl.1 rfl (by first | exact Nat.le_of_ble_eq_true rfl | (dsimp only; omega)) d_SeriesVaultLaw_cut_2 ⟨(show 0 + mc9 ≤ mc9 by omega), (show 0 + ms9 ≤ ms9 by omega)⟩ hP hD hS hA (fun u2 xa1 ce H locs hf9 hP hD hS hce hcv hcl => ?_)
  have hP : va_P D vwCl (VW dA h ad u2) H := hP
  have hD : va_D A (VW dA h ad u2) := hD
  refine xCatch (E := "java/lang/IllegalStateException") hown hE [] ⟨0, 5, 8, 29⟩ [⟨0, 5, 11, 19⟩] htab (fun _ h => absurd h List.not_mem_nil) (by decide) (by decide) w363 w289 hce hcv hcl ?_
  refine lv_astore_n hx hb d_SeriesVaultLaw_cut_8 rfl hl (by decide) rfl (fun ls hl => ?_)
  have hl : lv_has ls 3 [(2, .ref xa1), (0, .ref h), (1, .int p0)] := hl
  refine lv_iconst (v := 1) hx hb d_SeriesVaultLaw_cut_9 (by decide) ?_
  exact rfI hx hb hr hlk hS u2 ⟨rfl, hf9⟩ hP hD (show 0 + mc9 ≤ mc9 by omega) (show 0 + ms9 ≤ ms9 by omega) d_SeriesVaultLaw_cut_10
set_option maxHeartbeats 4000000 in
set_option maxRecDepth 100000 in
theorem k8_cut_2 (l : Launch) (D : va_G) (dA : Nat → ClassId) (sz : Nat) (h : Nat) (ad : Nat → Nat) (x : VS) (p0 : Int32) (F9 : VS → Prop) (fr : Nat) (lo : Nat) (mc9 : Nat) (ms9 : Nat) (hc9 : ∀ sz : Nat, mX l ⟨"SeriesVault", "cut", "(I)V"⟩ [Cond.code ⟨"SeriesVault", "cut", "(I)V"⟩ prog_1_method_11_code 2 none] { frames := fr, cells := mc9, slots := ms9, locals := lo } (pC D dA [.ref h, .int p0] (VW dA h ad x) sz) "java/lang/IllegalArgumentException" (fun st9 t9 => va_F (va_A (VW dA h ad x) sz) st9 t9 ∧ ∃ u9 : VS, F9 u9 ∧ bW D (va_A (VW dA h ad x) sz) (VW dA h ad u9) t9) mc9 ms9 (va_A (VW dA h ad x) sz)) : Met l ⟨"SeriesVaultLaw", "cut", "(LSeriesVault;I)I"⟩ [Cond.codeWith ⟨"SeriesVaultLaw", "cut", "(LSeriesVault;I)I"⟩ method_23_code 3 (some FieldType.int) [(0, 5, 8, 29), (0, 5, 11, 19)]] { frames := fr + 1, cells := mc9, slots := ms9, locals := lo + 21 } (pC D dA [.ref h, .int p0] (VW dA h ad x) sz) (va_Qi (fun (r9 : Int32) (u9 : VS) => r9 = 2 ∧ F9 u9) (fun (u9 : VS) t9 => bW D (va_A (VW dA h ad x) sz) (VW dA h ad u9) t9) (va_A (VW dA h ad x) sz)) mc9 ms9 (va_A (VW dA h ad x) sz) := by
  refine mkW (y := ⟨"SeriesVaultLaw", "cut", "(LSeriesVault;I)I"⟩) (cc := method_23_code) (maxL := 3) (av := [.ref h, .int p0]) (ws := VW dA h ad x) (sz := sz) (Qc := fun A => va_Qi (fun (r9 : Int32) (u9 : VS) => r9 = 2 ∧ F9 u9) (fun (u9 : VS) t9 => bW D A (VW dA h ad u9) t9) A) (by decide) (Nat.le_of_ble_eq_true rfl) ?_
  intro A p e s m below meth c ls hsz htab hB
  obtain ⟨hx, hb, hr, hml, hown, hin, hlk, hE, hK, hP, hD, hS, hA, hN, hl⟩ := hB
  have hown : s.vm.findClass "SeriesVaultLaw" = some m.cls := hown
  have hl : lv_has ls 3 [(0, .ref h), (1, .int p0)] := hl
  obtain ⟨H, hH⟩ : ∃ z, z = s.heap := ⟨_, rfl⟩
  have hP : va_P D vwCl (VW dA h ad x) H := by rw [hH]; exact hP
  have hS : va_S A s.heap H [] := by rw [hH]; exact hS
  rw [← hH]
  refine lv_aload_n hx hb d_SeriesVaultLaw_cut_0 rfl (lv_at hl 0 rfl) ?_
  refine lv_iload_n hx hb d_SeriesVaultLaw_cut_1 rfl (lv_at hl 1 rfl) ?_
  refine xkV (S := VS) (F := F9) (w1 := fun u => VW dA h ad u) (wr := []) (As := [.int p0]) (rest := []) hx hb hml hown hE hK (hN _ _ hS) (hc9 H.size) (q0 := 0) rfl rfl w360 w359 w361 w362 w277 rfl rfl ⟨⟨by decide, by decide⟩, rfl⟩ ⟨(by first | exact Nat.le_of_ble_eq_true rfl | (dsimp only; omega)), (by first | exact Nat.le_of_ble_eq_true rfl | (dsimp only; omega))⟩ rfl hl.1 rfl (by first | exact Nat.le_of_ble_eq_true rfl | (dsimp only; omega)) d_SeriesVaultLaw_cut_2 ⟨(show 0 + mc9 ≤ mc9 by omega), (show 0 + ms9 ≤ ms9 by omega)⟩ hP hD hS hA (fun u2 xa1 ce H locs hf9 hP hD hS hce hcv hcl => ?_)
  have hP : va_P D vwCl (VW dA h ad u2) H := hP
  have hD : va_D A (VW dA h ad u2) := hD
  refine xCatch (E := "java/lang/IllegalArgumentException") hown hE [⟨0, 5, 8, 29⟩] ⟨0, 5, 11, 19⟩ [] htab (List.forall_mem_cons.mpr ⟨⟨by decide, "java/lang/IllegalStateException", w363, by decide⟩, fun _ h => absurd h List.not_mem_nil⟩) (by decide) (by decide) w349 w267 hce hcv hcl ?_
  refine lv_astore_n hx hb d_SeriesVaultLaw_cut_11 rfl hl (by decide) rfl (fun ls hl => ?_)
  have hl : lv_has ls 3 [(2, .ref xa1), (0, .ref h), (1, .int p0)] := hl
  refine lv_iconst (v := 2) hx hb d_SeriesVaultLaw_cut_12 (by decide) ?_
  exact rfI hx hb hr hlk hS u2 ⟨rfl, hf9⟩ hP hD (show 0 + mc9 ≤ mc9 by omega) (show 0 + ms9 ≤ ms9 by omega) d_SeriesVaultLaw_cut_13
set_option maxHeartbeats 4000000 in
set_option maxRecDepth 100000 in
theorem k8_off (l : Launch) (D : va_G) (dA : Nat → ClassId) (sz : Nat) (h : Nat) (ad : Nat → Nat) (x : VS) (F9 : VS → Prop) (fr : Nat) (lo : Nat) (mc9 : Nat) (ms9 : Nat) (hc9 : ∀ sz : Nat, Met l ⟨"SeriesVault", "off", "()V"⟩ [Cond.code ⟨"SeriesVault", "off", "()V"⟩ prog_1_method_12_code 1 none] { frames := fr, cells := mc9, slots := ms9, locals := lo } (pC D dA [.ref h] (VW dA h ad x) sz) (va_Qv (fun (u9 : VS) => F9 u9) (fun (u9 : VS) t9 => bW D (va_A (VW dA h ad x) sz) (VW dA h ad u9) t9) (va_A (VW dA h ad x) sz)) mc9 ms9 (va_A (VW dA h ad x) sz)) : Met l ⟨"SeriesVaultLaw", "off", "(LSeriesVault;)I"⟩ [Cond.codeWith ⟨"SeriesVaultLaw", "off", "(LSeriesVault;)I"⟩ method_24_code 2 (some FieldType.int) [(0, 4, 7, 29)]] { frames := fr + 1, cells := mc9, slots := ms9, locals := lo + 20 } (pC D dA [.ref h] (VW dA h ad x) sz) (va_Qi (fun (r9 : Int32) (u9 : VS) => r9 = 0 ∧ F9 u9) (fun (u9 : VS) t9 => bW D (va_A (VW dA h ad x) sz) (VW dA h ad u9) t9) (va_A (VW dA h ad x) sz)) mc9 ms9 (va_A (VW dA h ad x) sz) := by
  refine mkW (y := ⟨"SeriesVaultLaw", "off", "(LSeriesVault;)I"⟩) (cc := method_24_code) (maxL := 2) (av := [.ref h]) (ws := VW dA h ad x) (sz := sz) (Qc := fun A => va_Qi (fun (r9 : Int32) (u9 : VS) => r9 = 0 ∧ F9 u9) (fun (u9 : VS) t9 => bW D A (VW dA h ad u9) t9) A) (by decide) (Nat.le_of_ble_eq_true rfl) ?_
  intro A p e s m below meth c ls hsz htab hB
  obtain ⟨hx, hb, hr, hml, hown, hin, hlk, hE, hK, hP, hD, hS, hA, hN, hl⟩ := hB
  have hown : s.vm.findClass "SeriesVaultLaw" = some m.cls := hown
  have hl : lv_has ls 2 [(0, .ref h)] := hl
  obtain ⟨H, hH⟩ : ∃ z, z = s.heap := ⟨_, rfl⟩
  have hP : va_P D vwCl (VW dA h ad x) H := by rw [hH]; exact hP
  have hS : va_S A s.heap H [] := by rw [hH]; exact hS
  rw [← hH]
  refine lv_aload_n hx hb d_SeriesVaultLaw_off_0 rfl (lv_at hl 0 rfl) ?_
  refine jkV (wr := []) (rnV (As := []) (rest := []) hx hb hml hown hE hK (hN _ _ hS) hP hD ((fun (_ : Launch) (_ : va_G) (_ : Nat → ClassId) (sz9 : Nat) (_ : Nat) (_ : Nat → Nat) (_ : VS) => hc9 sz9) l D dA H.size h ad x) (q0 := 0) rfl rfl w356 w355 w357 w358 w277 rfl rfl ⟨⟨by decide, by decide⟩, rfl⟩ ⟨(by first | exact Nat.le_of_ble_eq_true rfl | (dsimp only; omega)), (by first | exact Nat.le_of_ble_eq_true rfl | (dsimp only; omega))⟩ rfl hl.1 rfl (by first | exact Nat.le_of_ble_eq_true rfl | (dsimp only; omega)) d_SeriesVaultLaw_off_1 ⟨(show 0 + mc9 ≤ mc9 by omega), (show 0 + ms9 ≤ ms9 by omega)⟩) hP hD hS hA (fun u2 H locs hp9 hP hD hS => ?_)
  obtain ⟨u8, h9u⟩ : ∃ z9, z9 = u2 := ⟨_, rfl⟩
  subst h9u
  have hP : va_P D vwCl (VW dA h ad u8) H := hP
  have hD : va_D A (VW dA h ad u8) := hD
  have f_f_3 := hp9
  refine lv_goto hx hb d_SeriesVaultLaw_off_4 (tgt := 10) rfl ?_
  refine lv_iconst (v := 0) hx hb d_SeriesVaultLaw_off_10 (by decide) ?_
  exact rfI hx hb hr hlk hS u8 ⟨rfl, f_f_3⟩ hP hD (show 0 + mc9 ≤ mc9 by omega) (show 0 + ms9 ≤ ms9 by omega) d_SeriesVaultLaw_off_11
theorem d_SeriesVaultLaw_off_7 : decode method_24_code 7 = .ok (.astore_n 1, 1) := by decide +kernel
theorem d_SeriesVaultLaw_off_8 : decode method_24_code 8 = .ok (.iconst 1, 1) := by decide +kernel
theorem d_SeriesVaultLaw_off_9 : decode method_24_code 9 = .ok (.ireturn, 1) := by decide +kernel
set_option maxHeartbeats 4000000 in
set_option maxRecDepth 100000 in
theorem k8_off_1 (l : Launch) (D : va_G) (dA : Nat → ClassId) (sz : Nat) (h : Nat) (ad : Nat → Nat) (x : VS) (F9 : VS → Prop) (fr : Nat) (lo : Nat) (mc9 : Nat) (ms9 : Nat) (hc9 : ∀ sz : Nat, mX l ⟨"SeriesVault", "off", "()V"⟩ [Cond.code ⟨"SeriesVault", "off", "()V"⟩ prog_1_method_12_code 1 none] { frames := fr, cells := mc9, slots := ms9, locals := lo } (pC D dA [.ref h] (VW dA h ad x) sz) "java/lang/IllegalStateException" (fun st9 t9 => va_F (va_A (VW dA h ad x) sz) st9 t9 ∧ ∃ u9 : VS, F9 u9 ∧ bW D (va_A (VW dA h ad x) sz) (VW dA h ad u9) t9) mc9 ms9 (va_A (VW dA h ad x) sz)) : Met l ⟨"SeriesVaultLaw", "off", "(LSeriesVault;)I"⟩ [Cond.codeWith ⟨"SeriesVaultLaw", "off", "(LSeriesVault;)I"⟩ method_24_code 2 (some FieldType.int) [(0, 4, 7, 29)]] { frames := fr + 1, cells := mc9, slots := ms9, locals := lo + 20 } (pC D dA [.ref h] (VW dA h ad x) sz) (va_Qi (fun (r9 : Int32) (u9 : VS) => r9 = 1 ∧ F9 u9) (fun (u9 : VS) t9 => bW D (va_A (VW dA h ad x) sz) (VW dA h ad u9) t9) (va_A (VW dA h ad x) sz)) mc9 ms9 (va_A (VW dA h ad x) sz) := by
  refine mkW (y := ⟨"SeriesVaultLaw", "off", "(LSeriesVault;)I"⟩) (cc := method_24_code) (maxL := 2) (av := [.ref h]) (ws := VW dA h ad x) (sz := sz) (Qc := fun A => va_Qi (fun (r9 : Int32) (u9 : VS) => r9 = 1 ∧ F9 u9) (fun (u9 : VS) t9 => bW D A (VW dA h ad u9) t9) A) (by decide) (Nat.le_of_ble_eq_true rfl) ?_
  intro A p e s m below meth c ls hsz htab hB
  obtain ⟨hx, hb, hr, hml, hown, hin, hlk, hE, hK, hP, hD, hS, hA, hN, hl⟩ := hB
  have hown : s.vm.findClass "SeriesVaultLaw" = some m.cls := hown
  have hl : lv_has ls 2 [(0, .ref h)] := hl
  obtain ⟨H, hH⟩ : ∃ z, z = s.heap := ⟨_, rfl⟩
  have hP : va_P D vwCl (VW dA h ad x) H := by rw [hH]; exact hP
  have hS : va_S A s.heap H [] := by rw [hH]; exact hS
  rw [← hH]
  refine lv_aload_n hx hb d_SeriesVaultLaw_off_0 rfl (lv_at hl 0 rfl) ?_
  refine xkV (S := VS) (F := F9) (w1 := fun u => VW dA h ad u) (wr := []) (As := []) (rest := []) hx hb hml hown hE hK (hN _ _ hS) (hc9 H.size) (q0 := 0) rfl rfl w356 w355 w357 w358 w277 rfl rfl ⟨⟨by decide, by decide⟩, rfl⟩ ⟨(by first | exact Nat.le_of_ble_eq_true rfl | (dsimp only; omega)), (by first | exact Nat.le_of_ble_eq_true rfl | (dsimp only; omega))⟩ rfl hl.1 rfl (by first | exact Nat.le_of_ble_eq_true rfl | (dsimp only; omega)) d_SeriesVaultLaw_off_1 ⟨(show 0 + mc9 ≤ mc9 by omega), (show 0 + ms9 ≤ ms9 by omega)⟩ hP hD hS hA (fun u2 xa1 ce H locs hf9 hP hD hS hce hcv hcl => ?_)
  have hP : va_P D vwCl (VW dA h ad u2) H := hP
  have hD : va_D A (VW dA h ad u2) := hD
  refine xCatch (E := "java/lang/IllegalStateException") hown hE [] ⟨0, 4, 7, 29⟩ [] htab (fun _ h => absurd h List.not_mem_nil) (by decide) (by decide) w363 w289 hce hcv hcl ?_
  refine lv_astore_n hx hb d_SeriesVaultLaw_off_7 rfl hl (by decide) rfl (fun ls hl => ?_)
  have hl : lv_has ls 2 [(1, .ref xa1), (0, .ref h)] := hl
  refine lv_iconst (v := 1) hx hb d_SeriesVaultLaw_off_8 (by decide) ?_
  exact rfI hx hb hr hlk hS u2 ⟨rfl, hf9⟩ hP hD (show 0 + mc9 ≤ mc9 by omega) (show 0 + ms9 ≤ ms9 by omega) d_SeriesVaultLaw_off_9
theorem d_SeriesVaultLaw_start_6 : decode method_25_code 6 = .ok (.i2l, 1) := by decide +kernel
theorem d_SeriesVaultLaw_start_7 : decode method_25_code 7 = .ok (.lastore, 1) := by decide +kernel
theorem d_SeriesVaultLaw_start_8 : decode method_25_code 8 = .ok (.goto 6, 3) := by decide +kernel
theorem d_SeriesVaultLaw_start_14 : decode method_25_code 14 = .ok (.iconst 0, 1) := by decide +kernel
theorem d_SeriesVaultLaw_start_15 : decode method_25_code 15 = .ok (.ireturn, 1) := by decide +kernel
set_option maxHeartbeats 4000000 in
set_option maxRecDepth 100000 in
theorem k8_start (l : Launch) (D : va_G) (dA : Nat → ClassId) (sz : Nat) (h : Nat) (ad : Nat → Nat) (o : Nat) (og : Nat → Int64) (x : VS) (v9 : Int32) (F9 : VS → Prop) (fr : Nat) (lo : Nat) (mc9 : Nat) (ms9 : Nat) (hc9 : ∀ sz : Nat, Met l ⟨"SeriesVault", "start", "()I"⟩ [Cond.code ⟨"SeriesVault", "start", "()I"⟩ prog_1_method_18_code 2 (some FieldType.int)] { frames := fr, cells := mc9, slots := ms9, locals := lo } (pC D dA [.ref h] (VW dA h ad x) sz) (va_Qi (fun (r9 : Int32) (u9 : VS) => r9 = v9 ∧ F9 u9) (fun (u9 : VS) t9 => bW D (va_A (VW dA h ad x) sz) (VW dA h ad u9) t9) (va_A (VW dA h ad x) sz)) mc9 ms9 (va_A (VW dA h ad x) sz)) : Met l ⟨"SeriesVaultLaw", "start", "(LSeriesVault;[J)I"⟩ [Cond.codeWith ⟨"SeriesVaultLaw", "start", "(LSeriesVault;[J)I"⟩ method_25_code 3 (some FieldType.int) [(0, 8, 11, 29)]] { frames := fr + 1, cells := mc9, slots := ms9, locals := lo + 21 } (pC D dA [.ref h, .ref o] ([(o, .inl (dA 2, 1, .inr (.inl og)))] ++ (VW dA h ad x)) sz) (va_Qi (fun (r9 : Int32) (u9 : VS) => r9 = 0 ∧ F9 u9) (fun (u9 : VS) t9 => bW D (va_A ([(o, .inl (dA 2, 1, .inr (.inl og)))] ++ (VW dA h ad x)) sz) ([(o, .inl (dA 2, 1, .inr (.inl (va_up og 0 (v9.toInt64)))))] ++ (VW dA h ad u9)) t9) (va_A ([(o, .inl (dA 2, 1, .inr (.inl og)))] ++ (VW dA h ad x)) sz)) mc9 ms9 (va_A ([(o, .inl (dA 2, 1, .inr (.inl og)))] ++ (VW dA h ad x)) sz) := by
  refine mkW (y := ⟨"SeriesVaultLaw", "start", "(LSeriesVault;[J)I"⟩) (cc := method_25_code) (maxL := 3) (av := [.ref h, .ref o]) (ws := [(o, .inl (dA 2, 1, .inr (.inl og)))] ++ (VW dA h ad x)) (sz := sz) (Qc := fun A => va_Qi (fun (r9 : Int32) (u9 : VS) => r9 = 0 ∧ F9 u9) (fun (u9 : VS) t9 => bW D A ([(o, .inl (dA 2, 1, .inr (.inl (va_up og 0 (v9.toInt64)))))] ++ (VW dA h ad u9)) t9) A) (by decide) (Nat.le_of_ble_eq_true rfl) ?_
  intro A p e s m below meth c ls hsz htab hB
  obtain ⟨hx, hb, hr, hml, hown, hin, hlk, hE, hK, hP, hD, hS, hA, hN, hl⟩ := hB
  have hown : s.vm.findClass "SeriesVaultLaw" = some m.cls := hown
  have hl : lv_has ls 3 [(0, .ref h), (1, .ref o)] := hl
  obtain ⟨H, hH⟩ : ∃ z, z = s.heap := ⟨_, rfl⟩
  have hP : va_P D vwCl ([(o, .inl (dA 2, 1, .inr (.inl og)))] ++ (VW dA h ad x)) H := by rw [hH]; exact hP
  have hS : va_S A s.heap H [] := by rw [hH]; exact hS
  rw [← hH]
  refine lv_aload_n hx hb d_SeriesVaultLaw_start_0 rfl (lv_at hl 1 rfl) ?_
  refine lv_iconst (v := 0) hx hb d_SeriesVaultLaw_start_1 (by decide) ?_
  refine lv_aload_n hx hb d_SeriesVaultLaw_start_2 rfl (lv_at hl 0 rfl) ?_
  have hPc : va_P D vwCl (VW dA h ad x) H := spP (wr := [(o, .inl (dA 2, 1, .inr (.inl og)))]) hP
  have hDc : va_D A (VW dA h ad x) := spD (wr := [(o, .inl (dA 2, 1, .inr (.inl og)))]) hD
  refine jkI (wr := [(o, .inl (dA 2, 1, .inr (.inl og)))]) (rnV (As := []) (rest := [.int 0, .ref o]) hx hb hml hown hE hK (hN _ _ hS) hPc hDc ((fun (_ : Launch) (_ : va_G) (_ : Nat → ClassId) (sz9 : Nat) (_ : Nat) (_ : Nat → Nat) (_ : VS) => hc9 sz9) l D dA H.size h ad x) (q0 := 0) rfl rfl w365 w364 w366 w367 w277 rfl rfl ⟨⟨by decide, by decide⟩, rfl⟩ ⟨(by first | exact Nat.le_of_ble_eq_true rfl | (dsimp only; omega)), (by first | exact Nat.le_of_ble_eq_true rfl | (dsimp only; omega))⟩ rfl hl.1 rfl (by first | exact Nat.le_of_ble_eq_true rfl | (dsimp only; omega)) d_SeriesVaultLaw_start_3 ⟨(show 0 + mc9 ≤ mc9 by omega), (show 0 + ms9 ≤ ms9 by omega)⟩) hP hD hS hA (fun r1 u2 H locs hp9 hP hD hS => ?_)
  obtain ⟨u8, h9u⟩ : ∃ z9, z9 = u2 := ⟨_, rfl⟩
  subst h9u
  have hP : va_P D vwCl ([(o, .inl (dA 2, 1, .inr (.inl og)))] ++ (VW dA h ad u8)) H := hP
  have hD : va_D A ([(o, .inl (dA 2, 1, .inr (.inl og)))] ++ (VW dA h ad u8)) := hD
  obtain ⟨hp9, f_f_3⟩ := hp9
  replace hp9 : v9 = r1 := Eq.symm hp9
  subst hp9
  refine lv_i2l hx hb d_SeriesVaultLaw_start_6 rfl ?_
  refine nlst (n := 1) hx hb hK hP hD hS (0) 2 rfl rfl (0) (by omega) (by decide) d_SeriesVaultLaw_start_7 (fun H locs hP hD hS => ?_)
  have hP : va_P D vwCl ([(o, .inl (dA 2, 1, .inr (.inl (va_up og 0 v9.toInt64))))] ++ (VW dA h ad u8)) H := hP
  have hD : va_D A ([(o, .inl (dA 2, 1, .inr (.inl (va_up og 0 v9.toInt64))))] ++ (VW dA h ad u8)) := hD
  refine lv_goto hx hb d_SeriesVaultLaw_start_8 (tgt := 14) rfl ?_
  refine lv_iconst (v := 0) hx hb d_SeriesVaultLaw_start_14 (by decide) ?_
  exact rfI hx hb hr hlk hS u8 ⟨rfl, f_f_3⟩ hP hD (show 0 + mc9 ≤ mc9 by omega) (show 0 + ms9 ≤ ms9 by omega) d_SeriesVaultLaw_start_15
set_option maxHeartbeats 4000000 in
set_option maxRecDepth 100000 in
theorem k8_start_1 (l : Launch) (D : va_G) (dA : Nat → ClassId) (sz : Nat) (h : Nat) (ad : Nat → Nat) (o : Nat) (og : Nat → Int64) (x : VS) (F9 : VS → Prop) (fr : Nat) (lo : Nat) (mc9 : Nat) (ms9 : Nat) (hc9 : ∀ sz : Nat, mX l ⟨"SeriesVault", "start", "()I"⟩ [Cond.code ⟨"SeriesVault", "start", "()I"⟩ prog_1_method_18_code 2 (some FieldType.int)] { frames := fr, cells := mc9, slots := ms9, locals := lo } (pC D dA [.ref h] (VW dA h ad x) sz) "java/lang/IllegalStateException" (fun st9 t9 => va_F (va_A (VW dA h ad x) sz) st9 t9 ∧ ∃ u9 : VS, F9 u9 ∧ bW D (va_A (VW dA h ad x) sz) (VW dA h ad u9) t9) mc9 ms9 (va_A (VW dA h ad x) sz)) : Met l ⟨"SeriesVaultLaw", "start", "(LSeriesVault;[J)I"⟩ [Cond.codeWith ⟨"SeriesVaultLaw", "start", "(LSeriesVault;[J)I"⟩ method_25_code 3 (some FieldType.int) [(0, 8, 11, 29)]] { frames := fr + 1, cells := mc9, slots := ms9, locals := lo + 21 } (pC D dA [.ref h, .ref o] ([(o, .inl (dA 2, 1, .inr (.inl og)))] ++ (VW dA h ad x)) sz) (va_Qi (fun (r9 : Int32) (u9 : VS) => r9 = 1 ∧ F9 u9) (fun (u9 : VS) t9 => bW D (va_A ([(o, .inl (dA 2, 1, .inr (.inl og)))] ++ (VW dA h ad x)) sz) ([(o, .inl (dA 2, 1, .inr (.inl og)))] ++ (VW dA h ad u9)) t9) (va_A ([(o, .inl (dA 2, 1, .inr (.inl og)))] ++ (VW dA h ad x)) sz)) mc9 ms9 (va_A ([(o, .inl (dA 2, 1, .inr (.inl og)))] ++ (VW dA h ad x)) sz) := by
  refine mkW (y := ⟨"SeriesVaultLaw", "start", "(LSeriesVault;[J)I"⟩) (cc := method_25_code) (maxL := 3) (av := [.ref h, .ref o]) (ws := [(o, .inl (dA 2, 1, .inr (.inl og)))] ++ (VW dA h ad x)) (sz := sz) (Qc := fun A => va_Qi (fun (r9 : Int32) (u9 : VS) => r9 = 1 ∧ F9 u9) (fun (u9 : VS) t9 => bW D A ([(o, .inl (dA 2, 1, .inr (.inl og)))] ++ (VW dA h ad u9)) t9) A) (by decide) (Nat.le_of_ble_eq_true rfl) ?_
  intro A p e s m below meth c ls hsz htab hB
  obtain ⟨hx, hb, hr, hml, hown, hin, hlk, hE, hK, hP, hD, hS, hA, hN, hl⟩ := hB
  have hown : s.vm.findClass "SeriesVaultLaw" = some m.cls := hown
  have hl : lv_has ls 3 [(0, .ref h), (1, .ref o)] := hl
  obtain ⟨H, hH⟩ : ∃ z, z = s.heap := ⟨_, rfl⟩
  have hP : va_P D vwCl ([(o, .inl (dA 2, 1, .inr (.inl og)))] ++ (VW dA h ad x)) H := by rw [hH]; exact hP
  have hS : va_S A s.heap H [] := by rw [hH]; exact hS
  rw [← hH]
  refine lv_aload_n hx hb d_SeriesVaultLaw_start_0 rfl (lv_at hl 1 rfl) ?_
  refine lv_iconst (v := 0) hx hb d_SeriesVaultLaw_start_1 (by decide) ?_
  refine lv_aload_n hx hb d_SeriesVaultLaw_start_2 rfl (lv_at hl 0 rfl) ?_
  refine xkV (S := VS) (F := F9) (w1 := fun u => VW dA h ad u) (wr := [(o, .inl (dA 2, 1, .inr (.inl og)))]) (As := []) (rest := [.int 0, .ref o]) hx hb hml hown hE hK (hN _ _ hS) (hc9 H.size) (q0 := 0) rfl rfl w365 w364 w366 w367 w277 rfl rfl ⟨⟨by decide, by decide⟩, rfl⟩ ⟨(by first | exact Nat.le_of_ble_eq_true rfl | (dsimp only; omega)), (by first | exact Nat.le_of_ble_eq_true rfl | (dsimp only; omega))⟩ rfl hl.1 rfl (by first | exact Nat.le_of_ble_eq_true rfl | (dsimp only; omega)) d_SeriesVaultLaw_start_3 ⟨(show 0 + mc9 ≤ mc9 by omega), (show 0 + ms9 ≤ ms9 by omega)⟩ hP hD hS hA (fun u2 xa1 ce H locs hf9 hP hD hS hce hcv hcl => ?_)
  have hP : va_P D vwCl ([(o, .inl (dA 2, 1, .inr (.inl og)))] ++ (VW dA h ad u2)) H := hP
  have hD : va_D A ([(o, .inl (dA 2, 1, .inr (.inl og)))] ++ (VW dA h ad u2)) := hD
  refine xCatch (E := "java/lang/IllegalStateException") hown hE [] ⟨0, 8, 11, 29⟩ [] htab (fun _ h => absurd h List.not_mem_nil) (by decide) (by decide) w363 w289 hce hcv hcl ?_
  refine lv_astore_n hx hb d_SeriesVaultLaw_start_11 rfl hl (by decide) rfl (fun ls hl => ?_)
  have hl : lv_has ls 3 [(2, .ref xa1), (0, .ref h), (1, .ref o)] := hl
  refine lv_iconst (v := 1) hx hb d_SeriesVaultLaw_start_12 (by decide) ?_
  exact rfI hx hb hr hlk hS u2 ⟨rfl, hf9⟩ hP hD (show 0 + mc9 ≤ mc9 by omega) (show 0 + ms9 ≤ ms9 by omega) d_SeriesVaultLaw_start_13
