section
theorem d_SeriesVaultLaw_compact_7 : decode method_14_code 7 = .ok (.i2l, 1) := by decide +kernel
theorem d_SeriesVaultLaw_compact_8 : decode method_14_code 8 = .ok (.lastore, 1) := by decide +kernel
theorem d_SeriesVaultLaw_compact_9 : decode method_14_code 9 = .ok (.goto 12, 3) := by decide +kernel
theorem d_SeriesVaultLaw_compact_21 : decode method_14_code 21 = .ok (.iconst 0, 1) := by decide +kernel
theorem d_SeriesVaultLaw_compact_22 : decode method_14_code 22 = .ok (.ireturn, 1) := by decide +kernel
set_option maxHeartbeats 4000000 in
set_option maxRecDepth 100000 in
theorem k8_compact (l : Launch) (D : va_G) (dA : Nat → ClassId) (sz : Nat) (h : Nat) (ad : Nat → Nat) (o : Nat) (og : Nat → Int64) (x : VS) (p0 : Int32) (v9 : Int32) (F9 : VS → Prop) (fr : Nat) (lo : Nat) (mc9 : Nat) (ms9 : Nat) (hc9 : ∀ sz : Nat, Met l ⟨"SeriesVault", "compact", "(I)I"⟩ [Cond.code ⟨"SeriesVault", "compact", "(I)I"⟩ prog_1_method_40_code 4 (some FieldType.int)] { frames := fr, cells := mc9, slots := ms9, locals := lo } (pC D dA [.ref h, .int p0] (VW dA h ad x) sz) (va_Qi (fun (r9 : Int32) (u9 : VS) => r9 = v9 ∧ F9 u9) (fun (u9 : VS) t9 => bW D (va_A (VW dA h ad x) sz) (VW dA h ad u9) t9) (va_A (VW dA h ad x) sz)) mc9 ms9 (va_A (VW dA h ad x) sz)) : Met l ⟨"SeriesVaultLaw", "compact", "(LSeriesVault;I[J)I"⟩ [Cond.codeWith ⟨"SeriesVaultLaw", "compact", "(LSeriesVault;I[J)I"⟩ method_14_code 4 (some FieldType.int) [(0, 9, 12, 29), (0, 9, 15, 35), (0, 9, 18, 13)]] { frames := fr + 1, cells := mc9, slots := ms9, locals := lo + 23 } (pC D dA [.ref h, .int p0, .ref o] ([(o, .inl (dA 2, 1, .inr (.inl og)))] ++ (VW dA h ad x)) sz) (va_Qi (fun (r9 : Int32) (u9 : VS) => r9 = 0 ∧ F9 u9) (fun (u9 : VS) t9 => bW D (va_A ([(o, .inl (dA 2, 1, .inr (.inl og)))] ++ (VW dA h ad x)) sz) ([(o, .inl (dA 2, 1, .inr (.inl (va_up og 0 (v9.toInt64)))))] ++ (VW dA h ad u9)) t9) (va_A ([(o, .inl (dA 2, 1, .inr (.inl og)))] ++ (VW dA h ad x)) sz)) mc9 ms9 (va_A ([(o, .inl (dA 2, 1, .inr (.inl og)))] ++ (VW dA h ad x)) sz) := by
  refine mkW (y := ⟨"SeriesVaultLaw", "compact", "(LSeriesVault;I[J)I"⟩) (cc := method_14_code) (maxL := 4) (av := [.ref h, .int p0, .ref o]) (ws := [(o, .inl (dA 2, 1, .inr (.inl og)))] ++ (VW dA h ad x)) (sz := sz) (Qc := fun A => va_Qi (fun (r9 : Int32) (u9 : VS) => r9 = 0 ∧ F9 u9) (fun (u9 : VS) t9 => bW D A ([(o, .inl (dA 2, 1, .inr (.inl (va_up og 0 (v9.toInt64)))))] ++ (VW dA h ad u9)) t9) A) (by decide) (Nat.le_of_ble_eq_true rfl) ?_
  intro A p e s m below meth c ls hsz htab hB
  obtain ⟨hx, hb, hr, hml, hown, hin, hlk, hE, hK, hP, hD, hS, hA, hN, hl⟩ := hB
  have hown : s.vm.findClass "SeriesVaultLaw" = some m.cls := hown
  have hl : lv_has ls 4 [(0, .ref h), (1, .int p0), (2, .ref o)] := hl
  obtain ⟨H, hH⟩ : ∃ z, z = s.heap := ⟨_, rfl⟩
  have hP : va_P D vwCl ([(o, .inl (dA 2, 1, .inr (.inl og)))] ++ (VW dA h ad x)) H := by rw [hH]; exact hP
  have hS : va_S A s.heap H [] := by rw [hH]; exact hS
  rw [← hH]
  refine lv_aload_n hx hb d_SeriesVaultLaw_compact_0 rfl (lv_at hl 2 rfl) ?_
  refine lv_iconst (v := 0) hx hb d_SeriesVaultLaw_compact_1 (by decide) ?_
  refine lv_aload_n hx hb d_SeriesVaultLaw_compact_2 rfl (lv_at hl 0 rfl) ?_
  refine lv_iload_n hx hb d_SeriesVaultLaw_compact_3 rfl (lv_at hl 1 rfl) ?_
  have hPc : va_P D vwCl (VW dA h ad x) H := spP (wr := [(o, .inl (dA 2, 1, .inr (.inl og)))]) hP
  have hDc : va_D A (VW dA h ad x) := spD (wr := [(o, .inl (dA 2, 1, .inr (.inl og)))]) hD
  refine jkI (wr := [(o, .inl (dA 2, 1, .inr (.inl og)))]) (rnV (As := [.int p0]) (rest := [.int 0, .ref o]) hx hb hml hown hE hK (hN _ _ hS) hPc hDc ((fun (_ : Launch) (_ : va_G) (_ : Nat → ClassId) (sz9 : Nat) (_ : Nat) (_ : Nat → Nat) (_ : VS) (_ : Int32) => hc9 sz9) l D dA H.size h ad x p0) (q0 := 0) rfl rfl w389 w388 w390 w391 w277 rfl rfl ⟨⟨by decide, by decide⟩, rfl⟩ ⟨(by first | exact Nat.le_of_ble_eq_true rfl | (dsimp only; omega)), (by first | exact Nat.le_of_ble_eq_true rfl | (dsimp only; omega))⟩ rfl hl.1 rfl (by first | exact Nat.le_of_ble_eq_true rfl | (dsimp only; omega)) d_SeriesVaultLaw_compact_4 ⟨(show 0 + mc9 ≤ mc9 by omega), (show 0 + ms9 ≤ ms9 by omega)⟩) hP hD hS hA (fun r1 u2 H locs hp9 hP hD hS => ?_)
  obtain ⟨u8, h9u⟩ : ∃ z9, z9 = u2 := ⟨_, rfl⟩
  subst h9u
  have hP : va_P D vwCl ([(o, .inl (dA 2, 1, .inr (.inl og)))] ++ (VW dA h ad u8)) H := hP
  have hD : va_D A ([(o, .inl (dA 2, 1, .inr (.inl og)))] ++ (VW dA h ad u8)) := hD
  obtain ⟨hp9, f_f_3⟩ := hp9
  replace hp9 : v9 = r1 := Eq.symm hp9
  subst hp9
  refine lv_i2l hx hb d_SeriesVaultLaw_compact_7 rfl ?_
  refine nlst (n := 1) hx hb hK hP hD hS (0) 2 rfl rfl (0) (by omega) (by decide) d_SeriesVaultLaw_compact_8 (fun H locs hP hD hS => ?_)
  have hP : va_P D vwCl ([(o, .inl (dA 2, 1, .inr (.inl (va_up og 0 v9.toInt64))))] ++ (VW dA h ad u8)) H := hP
  have hD : va_D A ([(o, .inl (dA 2, 1, .inr (.inl (va_up og 0 v9.toInt64))))] ++ (VW dA h ad u8)) := hD
  refine lv_goto hx hb d_SeriesVaultLaw_compact_9 (tgt := 21) rfl ?_
  refine lv_iconst (v := 0) hx hb d_SeriesVaultLaw_compact_21 (by decide) ?_
  exact rfI hx hb hr hlk hS u8 ⟨rfl, f_f_3⟩ hP hD (show 0 + mc9 ≤ mc9 by omega) (show 0 + ms9 ≤ ms9 by omega) d_SeriesVaultLaw_compact_22
theorem d_SeriesVaultLaw_compact_12 : decode method_14_code 12 = .ok (.astore_n 3, 1) := by decide +kernel
theorem d_SeriesVaultLaw_compact_13 : decode method_14_code 13 = .ok (.iconst 1, 1) := by decide +kernel
theorem d_SeriesVaultLaw_compact_14 : decode method_14_code 14 = .ok (.ireturn, 1) := by decide +kernel
set_option maxHeartbeats 4000000 in
set_option maxRecDepth 100000 in
theorem k8_compact_1 (l : Launch) (D : va_G) (dA : Nat → ClassId) (sz : Nat) (h : Nat) (ad : Nat → Nat) (o : Nat) (og : Nat → Int64) (x : VS) (p0 : Int32) (F9 : VS → Prop) (fr : Nat) (lo : Nat) (mc9 : Nat) (ms9 : Nat) (hc9 : ∀ sz : Nat, mX l ⟨"SeriesVault", "compact", "(I)I"⟩ [Cond.code ⟨"SeriesVault", "compact", "(I)I"⟩ prog_1_method_40_code 4 (some FieldType.int)] { frames := fr, cells := mc9, slots := ms9, locals := lo } (pC D dA [.ref h, .int p0] (VW dA h ad x) sz) "java/lang/IllegalStateException" (fun st9 t9 => va_F (va_A (VW dA h ad x) sz) st9 t9 ∧ ∃ u9 : VS, F9 u9 ∧ bW D (va_A (VW dA h ad x) sz) (VW dA h ad u9) t9) mc9 ms9 (va_A (VW dA h ad x) sz)) : Met l ⟨"SeriesVaultLaw", "compact", "(LSeriesVault;I[J)I"⟩ [Cond.codeWith ⟨"SeriesVaultLaw", "compact", "(LSeriesVault;I[J)I"⟩ method_14_code 4 (some FieldType.int) [(0, 9, 12, 29), (0, 9, 15, 35), (0, 9, 18, 13)]] { frames := fr + 1, cells := mc9, slots := ms9, locals := lo + 23 } (pC D dA [.ref h, .int p0, .ref o] ([(o, .inl (dA 2, 1, .inr (.inl og)))] ++ (VW dA h ad x)) sz) (va_Qi (fun (r9 : Int32) (u9 : VS) => r9 = 1 ∧ F9 u9) (fun (u9 : VS) t9 => bW D (va_A ([(o, .inl (dA 2, 1, .inr (.inl og)))] ++ (VW dA h ad x)) sz) ([(o, .inl (dA 2, 1, .inr (.inl og)))] ++ (VW dA h ad u9)) t9) (va_A ([(o, .inl (dA 2, 1, .inr (.inl og)))] ++ (VW dA h ad x)) sz)) mc9 ms9 (va_A ([(o, .inl (dA 2, 1, .inr (.inl og)))] ++ (VW dA h ad x)) sz) := by
  refine mkW (y := ⟨"SeriesVaultLaw", "compact", "(LSeriesVault;I[J)I"⟩) (cc := method_14_code) (maxL := 4) (av := [.ref h, .int p0, .ref o]) (ws := [(o, .inl (dA 2, 1, .inr (.inl og)))] ++ (VW dA h ad x)) (sz := sz) (Qc := fun A => va_Qi (fun (r9 : Int32) (u9 : VS) => r9 = 1 ∧ F9 u9) (fun (u9 : VS) t9 => bW D A ([(o, .inl (dA 2, 1, .inr (.inl og)))] ++ (VW dA h ad u9)) t9) A) (by decide) (Nat.le_of_ble_eq_true rfl) ?_
  intro A p e s m below meth c ls hsz htab hB
  obtain ⟨hx, hb, hr, hml, hown, hin, hlk, hE, hK, hP, hD, hS, hA, hN, hl⟩ := hB
  have hown : s.vm.findClass "SeriesVaultLaw" = some m.cls := hown
  have hl : lv_has ls 4 [(0, .ref h), (1, .int p0), (2, .ref o)] := hl
  obtain ⟨H, hH⟩ : ∃ z, z = s.heap := ⟨_, rfl⟩
  have hP : va_P D vwCl ([(o, .inl (dA 2, 1, .inr (.inl og)))] ++ (VW dA h ad x)) H := by rw [hH]; exact hP
  have hS : va_S A s.heap H [] := by rw [hH]; exact hS
  rw [← hH]
  refine lv_aload_n hx hb d_SeriesVaultLaw_compact_0 rfl (lv_at hl 2 rfl) ?_
  refine lv_iconst (v := 0) hx hb d_SeriesVaultLaw_compact_1 (by decide) ?_
  refine lv_aload_n hx hb d_SeriesVaultLaw_compact_2 rfl (lv_at hl 0 rfl) ?_
  refine lv_iload_n hx hb d_SeriesVaultLaw_compact_3 rfl (lv_at hl 1 rfl) ?_
  refine xkV (S := VS) (F := F9) (w1 := fun u => VW dA h ad u) (wr := [(o, .inl (dA 2, 1, .inr (.inl og)))]) (As := [.int p0]) (rest := [.int 0, .ref o]) hx hb hml hown hE hK (hN _ _ hS) (hc9 H.size) (q0 := 0) rfl rfl w389 w388 w390 w391 w277 rfl rfl ⟨⟨by decide, by decide⟩, rfl⟩ ⟨(by first | exact Nat.le_of_ble_eq_true rfl | (dsimp only; omega)), (by first | exact Nat.le_of_ble_eq_true rfl | (dsimp only; omega))⟩ rfl hl.1 rfl (by first | exact Nat.le_of_ble_eq_true rfl | (dsimp only; omega)) d_SeriesVaultLaw_compact_4 ⟨(show 0 + mc9 ≤ mc9 by omega), (show 0 + ms9 ≤ ms9 by omega)⟩ hP hD hS hA (fun u2 xa1 ce H locs hf9 hP hD hS hce hcv hcl => ?_)
  have hP : va_P D vwCl ([(o, .inl (dA 2, 1, .inr (.inl og)))] ++ (VW dA h ad u2)) H := hP
  have hD : va_D A ([(o, .inl (dA 2, 1, .inr (.inl og)))] ++ (VW dA h ad u2)) := hD
  refine xCatch (E := "java/lang/IllegalStateException") hown hE [] ⟨0, 9, 12, 29⟩ [⟨0, 9, 15, 35⟩, ⟨0, 9, 18, 13⟩] htab (fun _ h => absurd h List.not_mem_nil) (by decide) (by decide) w363 w289 hce hcv hcl ?_
  refine lv_astore_n hx hb d_SeriesVaultLaw_compact_12 rfl hl (by decide) rfl (fun ls hl => ?_)
  have hl : lv_has ls 4 [(3, .ref xa1), (0, .ref h), (1, .int p0), (2, .ref o)] := hl
  refine lv_iconst (v := 1) hx hb d_SeriesVaultLaw_compact_13 (by decide) ?_
  exact rfI hx hb hr hlk hS u2 ⟨rfl, hf9⟩ hP hD (show 0 + mc9 ≤ mc9 by omega) (show 0 + ms9 ≤ ms9 by omega) d_SeriesVaultLaw_compact_14
set_option maxHeartbeats 4000000 in
set_option maxRecDepth 100000 in
theorem k8_compact_2 (l : Launch) (D : va_G) (dA : Nat → ClassId) (sz : Nat) (h : Nat) (ad : Nat → Nat) (o : Nat) (og : Nat → Int64) (x : VS) (p0 : Int32) (F9 : VS → Prop) (fr : Nat) (lo : Nat) (mc9 : Nat) (ms9 : Nat) (hc9 : ∀ sz : Nat, mX l ⟨"SeriesVault", "compact", "(I)I"⟩ [Cond.code ⟨"SeriesVault", "compact", "(I)I"⟩ prog_1_method_40_code 4 (some FieldType.int)] { frames := fr, cells := mc9, slots := ms9, locals := lo } (pC D dA [.ref h, .int p0] (VW dA h ad x) sz) "java/lang/IndexOutOfBoundsException" (fun st9 t9 => va_F (va_A (VW dA h ad x) sz) st9 t9 ∧ ∃ u9 : VS, F9 u9 ∧ bW D (va_A (VW dA h ad x) sz) (VW dA h ad u9) t9) mc9 ms9 (va_A (VW dA h ad x) sz)) : Met l ⟨"SeriesVaultLaw", "compact", "(LSeriesVault;I[J)I"⟩ [Cond.codeWith ⟨"SeriesVaultLaw", "compact", "(LSeriesVault;I[J)I"⟩ method_14_code 4 (some FieldType.int) [(0, 9, 12, 29), (0, 9, 15, 35), (0, 9, 18, 13)]] { frames := fr + 1, cells := mc9, slots := ms9, locals := lo + 23 } (pC D dA [.ref h, .int p0, .ref o] ([(o, .inl (dA 2, 1, .inr (.inl og)))] ++ (VW dA h ad x)) sz) (va_Qi (fun (r9 : Int32) (u9 : VS) => r9 = 2 ∧ F9 u9) (fun (u9 : VS) t9 => bW D (va_A ([(o, .inl (dA 2, 1, .inr (.inl og)))] ++ (VW dA h ad x)) sz) ([(o, .inl (dA 2, 1, .inr (.inl og)))] ++ (VW dA h ad u9)) t9) (va_A ([(o, .inl (dA 2, 1, .inr (.inl og)))] ++ (VW dA h ad x)) sz)) mc9 ms9 (va_A ([(o, .inl (dA 2, 1, .inr (.inl og)))] ++ (VW dA h ad x)) sz) := by
  refine mkW (y := ⟨"SeriesVaultLaw", "compact", "(LSeriesVault;I[J)I"⟩) (cc := method_14_code) (maxL := 4) (av := [.ref h, .int p0, .ref o]) (ws := [(o, .inl (dA 2, 1, .inr (.inl og)))] ++ (VW dA h ad x)) (sz := sz) (Qc := fun A => va_Qi (fun (r9 : Int32) (u9 : VS) => r9 = 2 ∧ F9 u9) (fun (u9 : VS) t9 => bW D A ([(o, .inl (dA 2, 1, .inr (.inl og)))] ++ (VW dA h ad u9)) t9) A) (by decide) (Nat.le_of_ble_eq_true rfl) ?_
  intro A p e s m below meth c ls hsz htab hB
  obtain ⟨hx, hb, hr, hml, hown, hin, hlk, hE, hK, hP, hD, hS, hA, hN, hl⟩ := hB
  have hown : s.vm.findClass "SeriesVaultLaw" = some m.cls := hown
  have hl : lv_has ls 4 [(0, .ref h), (1, .int p0), (2, .ref o)] := hl
  obtain ⟨H, hH⟩ : ∃ z, z = s.heap := ⟨_, rfl⟩
  have hP : va_P D vwCl ([(o, .inl (dA 2, 1, .inr (.inl og)))] ++ (VW dA h ad x)) H := by rw [hH]; exact hP
  have hS : va_S A s.heap H [] := by rw [hH]; exact hS
  rw [← hH]
  refine lv_aload_n hx hb d_SeriesVaultLaw_compact_0 rfl (lv_at hl 2 rfl) ?_
  refine lv_iconst (v := 0) hx hb d_SeriesVaultLaw_compact_1 (by decide) ?_
  refine lv_aload_n hx hb d_SeriesVaultLaw_compact_2 rfl (lv_at hl 0 rfl) ?_
  refine lv_iload_n hx hb d_SeriesVaultLaw_compact_3 rfl (lv_at hl 1 rfl) ?_
  refine xkV (S := VS) (F := F9) (w1 := fun u => VW dA h ad u) (wr := [(o, .inl (dA 2, 1, .inr (.inl og)))]) (As := [.int p0]) (rest := [.int 0, .ref o]) hx hb hml hown hE hK (hN _ _ hS) (hc9 H.size) (q0 := 0) rfl rfl w389 w388 w390 w391 w277 rfl rfl ⟨⟨by decide, by decide⟩, rfl⟩ ⟨(by first | exact Nat.le_of_ble_eq_true rfl | (dsimp only; omega)), (by first | exact Nat.le_of_ble_eq_true rfl | (dsimp only; omega))⟩ rfl hl.1 rfl (by first | exact Nat.le_of_ble_eq_true rfl | (dsimp only; omega)) d_SeriesVaultLaw_compact_4 ⟨(show 0 + mc9 ≤ mc9 by omega), (show 0 + ms9 ≤ ms9 by omega)⟩ hP hD hS hA (fun u2 xa1 ce H locs hf9 hP hD hS hce hcv hcl => ?_)
  have hP : va_P D vwCl ([(o, .inl (dA 2, 1, .inr (.inl og)))] ++ (VW dA h ad u2)) H := hP
  have hD : va_D A ([(o, .inl (dA 2, 1, .inr (.inl og)))] ++ (VW dA h ad u2)) := hD
  refine xCatch (E := "java/lang/IndexOutOfBoundsException") hown hE [⟨0, 9, 12, 29⟩] ⟨0, 9, 15, 35⟩ [⟨0, 9, 18, 13⟩] htab (List.forall_mem_cons.mpr ⟨⟨by decide, "java/lang/IllegalStateException", w363, by decide⟩, fun _ h => absurd h List.not_mem_nil⟩) (by decide) (by decide) w354 w222 hce hcv hcl ?_
  refine lv_astore_n hx hb d_SeriesVaultLaw_compact_15 rfl hl (by decide) rfl (fun ls hl => ?_)
  have hl : lv_has ls 4 [(3, .ref xa1), (0, .ref h), (1, .int p0), (2, .ref o)] := hl
  refine lv_iconst (v := 2) hx hb d_SeriesVaultLaw_compact_16 (by decide) ?_
  exact rfI hx hb hr hlk hS u2 ⟨rfl, hf9⟩ hP hD (show 0 + mc9 ≤ mc9 by omega) (show 0 + ms9 ≤ ms9 by omega) d_SeriesVaultLaw_compact_17
theorem d_SeriesVaultLaw_compact_18 : decode method_14_code 18 = .ok (.astore_n 3, 1) := by decide +kernel
theorem d_SeriesVaultLaw_compact_19 : decode method_14_code 19 = .ok (.iconst 3, 1) := by decide +kernel
theorem d_SeriesVaultLaw_compact_20 : decode method_14_code 20 = .ok (.ireturn, 1) := by decide +kernel
set_option maxHeartbeats 4000000 in
set_option maxRecDepth 100000 in
theorem k8_compact_3 (l : Launch) (D : va_G) (dA : Nat → ClassId) (sz : Nat) (h : Nat) (ad : Nat → Nat) (o : Nat) (og : Nat → Int64) (x : VS) (p0 : Int32) (F9 : VS → Prop) (fr : Nat) (lo : Nat) (mc9 : Nat) (ms9 : Nat) (hc9 : ∀ sz : Nat, mX l ⟨"SeriesVault", "compact", "(I)I"⟩ [Cond.code ⟨"SeriesVault", "compact", "(I)I"⟩ prog_1_method_40_code 4 (some FieldType.int)] { frames := fr, cells := mc9, slots := ms9, locals := lo } (pC D dA [.ref h, .int p0] (VW dA h ad x) sz) "java/lang/UnsupportedOperationException" (fun st9 t9 => va_F (va_A (VW dA h ad x) sz) st9 t9 ∧ ∃ u9 : VS, F9 u9 ∧ bW D (va_A (VW dA h ad x) sz) (VW dA h ad u9) t9) mc9 ms9 (va_A (VW dA h ad x) sz)) : Met l ⟨"SeriesVaultLaw", "compact", "(LSeriesVault;I[J)I"⟩ [Cond.codeWith ⟨"SeriesVaultLaw", "compact", "(LSeriesVault;I[J)I"⟩ method_14_code 4 (some FieldType.int) [(0, 9, 12, 29), (0, 9, 15, 35), (0, 9, 18, 13)]] { frames := fr + 1, cells := mc9, slots := ms9, locals := lo + 23 } (pC D dA [.ref h, .int p0, .ref o] ([(o, .inl (dA 2, 1, .inr (.inl og)))] ++ (VW dA h ad x)) sz) (va_Qi (fun (r9 : Int32) (u9 : VS) => r9 = 3 ∧ F9 u9) (fun (u9 : VS) t9 => bW D (va_A ([(o, .inl (dA 2, 1, .inr (.inl og)))] ++ (VW dA h ad x)) sz) ([(o, .inl (dA 2, 1, .inr (.inl og)))] ++ (VW dA h ad u9)) t9) (va_A ([(o, .inl (dA 2, 1, .inr (.inl og)))] ++ (VW dA h ad x)) sz)) mc9 ms9 (va_A ([(o, .inl (dA 2, 1, .inr (.inl og)))] ++ (VW dA h ad x)) sz) := by
  refine mkW (y := ⟨"SeriesVaultLaw", "compact", "(LSeriesVault;I[J)I"⟩) (cc := method_14_code) (maxL := 4) (av := [.ref h, .int p0, .ref o]) (ws := [(o, .inl (dA 2, 1, .inr (.inl og)))] ++ (VW dA h ad x)) (sz := sz) (Qc := fun A => va_Qi (fun (r9 : Int32) (u9 : VS) => r9 = 3 ∧ F9 u9) (fun (u9 : VS) t9 => bW D A ([(o, .inl (dA 2, 1, .inr (.inl og)))] ++ (VW dA h ad u9)) t9) A) (by decide) (Nat.le_of_ble_eq_true rfl) ?_
  intro A p e s m below meth c ls hsz htab hB
  obtain ⟨hx, hb, hr, hml, hown, hin, hlk, hE, hK, hP, hD, hS, hA, hN, hl⟩ := hB
  have hown : s.vm.findClass "SeriesVaultLaw" = some m.cls := hown
  have hl : lv_has ls 4 [(0, .ref h), (1, .int p0), (2, .ref o)] := hl
  obtain ⟨H, hH⟩ : ∃ z, z = s.heap := ⟨_, rfl⟩
  have hP : va_P D vwCl ([(o, .inl (dA 2, 1, .inr (.inl og)))] ++ (VW dA h ad x)) H := by rw [hH]; exact hP
  have hS : va_S A s.heap H [] := by rw [hH]; exact hS
  rw [← hH]
  refine lv_aload_n hx hb d_SeriesVaultLaw_compact_0 rfl (lv_at hl 2 rfl) ?_
  refine lv_iconst (v := 0) hx hb d_SeriesVaultLaw_compact_1 (by decide) ?_
  refine lv_aload_n hx hb d_SeriesVaultLaw_compact_2 rfl (lv_at hl 0 rfl) ?_
  refine lv_iload_n hx hb d_SeriesVaultLaw_compact_3 rfl (lv_at hl 1 rfl) ?_
  refine xkV (S := VS) (F := F9) (w1 := fun u => VW dA h ad u) (wr := [(o, .inl (dA 2, 1, .inr (.inl og)))]) (As := [.int p0]) (rest := [.int 0, .ref o]) hx hb hml hown hE hK (hN _ _ hS) (hc9 H.size) (q0 := 0) rfl rfl w389 w388 w390 w391 w277 rfl rfl ⟨⟨by decide, by decide⟩, rfl⟩ ⟨(by first | exact Nat.le_of_ble_eq_true rfl | (dsimp only; omega)), (by first | exact Nat.le_of_ble_eq_true rfl | (dsimp only; omega))⟩ rfl hl.1 rfl (by first | exact Nat.le_of_ble_eq_true rfl | (dsimp only; omega)) d_SeriesVaultLaw_compact_4 ⟨(show 0 + mc9 ≤ mc9 by omega), (show 0 + ms9 ≤ ms9 by omega)⟩ hP hD hS hA (fun u2 xa1 ce H locs hf9 hP hD hS hce hcv hcl => ?_)
  have hP : va_P D vwCl ([(o, .inl (dA 2, 1, .inr (.inl og)))] ++ (VW dA h ad u2)) H := hP
  have hD : va_D A ([(o, .inl (dA 2, 1, .inr (.inl og)))] ++ (VW dA h ad u2)) := hD
  refine xCatch (E := "java/lang/UnsupportedOperationException") hown hE [⟨0, 9, 12, 29⟩, ⟨0, 9, 15, 35⟩] ⟨0, 9, 18, 13⟩ [] htab (List.forall_mem_cons.mpr ⟨⟨by decide, "java/lang/IllegalStateException", w363, by decide⟩, List.forall_mem_cons.mpr ⟨⟨by decide, "java/lang/IndexOutOfBoundsException", w354, by decide⟩, fun _ h => absurd h List.not_mem_nil⟩⟩) (by decide) (by decide) w1791 w1150 hce hcv hcl ?_
  refine lv_astore_n hx hb d_SeriesVaultLaw_compact_18 rfl hl (by decide) rfl (fun ls hl => ?_)
  have hl : lv_has ls 4 [(3, .ref xa1), (0, .ref h), (1, .int p0), (2, .ref o)] := hl
  refine lv_iconst (v := 3) hx hb d_SeriesVaultLaw_compact_19 (by decide) ?_
  exact rfI hx hb hr hlk hS u2 ⟨rfl, hf9⟩ hP hD (show 0 + mc9 ≤ mc9 by omega) (show 0 + ms9 ≤ ms9 by omega) d_SeriesVaultLaw_compact_20
set_option maxHeartbeats 4000000 in
set_option maxRecDepth 100000 in
theorem k8_retain (l : Launch) (D : va_G) (dA : Nat → ClassId) (sz : Nat) (h : Nat) (ad : Nat → Nat) (o : Nat) (og : Nat → Int64) (x : VS) (p0 : Int64) (v9 : Int32) (F9 : VS → Prop) (fr : Nat) (lo : Nat) (mc9 : Nat) (ms9 : Nat) (hc9 : ∀ sz : Nat, Met l ⟨"SeriesVault", "retain", "(J)I"⟩ [Cond.code ⟨"SeriesVault", "retain", "(J)I"⟩ prog_1_method_41_code 4 (some FieldType.int)] { frames := fr, cells := mc9, slots := ms9, locals := lo } (pC D dA [.ref h, .long p0] (VW dA h ad x) sz) (va_Qi (fun (r9 : Int32) (u9 : VS) => r9 = v9 ∧ F9 u9) (fun (u9 : VS) t9 => bW D (va_A (VW dA h ad x) sz) (VW dA h ad u9) t9) (va_A (VW dA h ad x) sz)) mc9 ms9 (va_A (VW dA h ad x) sz)) : Met l ⟨"SeriesVaultLaw", "retain", "(LSeriesVault;J[J)I"⟩ [Cond.codeWith ⟨"SeriesVaultLaw", "retain", "(LSeriesVault;J[J)I"⟩ method_15_code 5 (some FieldType.int) [(0, 9, 12, 29), (0, 9, 16, 19)]] { frames := fr + 1, cells := mc9, slots := ms9, locals := lo + 23 } (pC D dA [.ref h, .long p0, .ref o] ([(o, .inl (dA 2, 1, .inr (.inl og)))] ++ (VW dA h ad x)) sz) (va_Qi (fun (r9 : Int32) (u9 : VS) => r9 = 0 ∧ F9 u9) (fun (u9 : VS) t9 => bW D (va_A ([(o, .inl (dA 2, 1, .inr (.inl og)))] ++ (VW dA h ad x)) sz) ([(o, .inl (dA 2, 1, .inr (.inl (va_up og 0 (v9.toInt64)))))] ++ (VW dA h ad u9)) t9) (va_A ([(o, .inl (dA 2, 1, .inr (.inl og)))] ++ (VW dA h ad x)) sz)) mc9 ms9 (va_A ([(o, .inl (dA 2, 1, .inr (.inl og)))] ++ (VW dA h ad x)) sz) := by
  refine mkW (y := ⟨"SeriesVaultLaw", "retain", "(LSeriesVault;J[J)I"⟩) (cc := method_15_code) (maxL := 5) (av := [.ref h, .long p0, .ref o]) (ws := [(o, .inl (dA 2, 1, .inr (.inl og)))] ++ (VW dA h ad x)) (sz := sz) (Qc := fun A => va_Qi (fun (r9 : Int32) (u9 : VS) => r9 = 0 ∧ F9 u9) (fun (u9 : VS) t9 => bW D A ([(o, .inl (dA 2, 1, .inr (.inl (va_up og 0 (v9.toInt64)))))] ++ (VW dA h ad u9)) t9) A) (by decide) (Nat.le_of_ble_eq_true rfl) ?_
  intro A p e s m below meth c ls hsz htab hB
  obtain ⟨hx, hb, hr, hml, hown, hin, hlk, hE, hK, hP, hD, hS, hA, hN, hl⟩ := hB
  have hown : s.vm.findClass "SeriesVaultLaw" = some m.cls := hown
  have hl : lv_has ls 5 [(0, .ref h), (1, .long p0), (3, .ref o)] := hl
  obtain ⟨H, hH⟩ : ∃ z, z = s.heap := ⟨_, rfl⟩
  have hP : va_P D vwCl ([(o, .inl (dA 2, 1, .inr (.inl og)))] ++ (VW dA h ad x)) H := by rw [hH]; exact hP
  have hS : va_S A s.heap H [] := by rw [hH]; exact hS
  rw [← hH]
  refine lv_aload_n hx hb d_SeriesVaultLaw_retain_0 rfl (lv_at hl 2 rfl) ?_
  refine lv_iconst (v := 0) hx hb d_SeriesVaultLaw_retain_1 (by decide) ?_
  refine lv_aload_n hx hb d_SeriesVaultLaw_retain_2 rfl (lv_at hl 0 rfl) ?_
  refine lv_lload_n hx hb d_SeriesVaultLaw_retain_3 rfl (lv_at hl 1 rfl) ?_
  have hPc : va_P D vwCl (VW dA h ad x) H := spP (wr := [(o, .inl (dA 2, 1, .inr (.inl og)))]) hP
  have hDc : va_D A (VW dA h ad x) := spD (wr := [(o, .inl (dA 2, 1, .inr (.inl og)))]) hD
  refine jkI (wr := [(o, .inl (dA 2, 1, .inr (.inl og)))]) (rnV (As := [.long p0]) (rest := [.int 0, .ref o]) hx hb hml hown hE hK (hN _ _ hS) hPc hDc ((fun (_ : Launch) (_ : va_G) (_ : Nat → ClassId) (sz9 : Nat) (_ : Nat) (_ : Nat → Nat) (_ : VS) (_ : Int64) => hc9 sz9) l D dA H.size h ad x p0) (q0 := 0) rfl rfl w716 w715 w717 w718 w277 rfl rfl ⟨⟨by decide, by decide⟩, rfl⟩ ⟨(by first | exact Nat.le_of_ble_eq_true rfl | (dsimp only; omega)), (by first | exact Nat.le_of_ble_eq_true rfl | (dsimp only; omega))⟩ rfl hl.1 rfl (by first | exact Nat.le_of_ble_eq_true rfl | (dsimp only; omega)) d_SeriesVaultLaw_retain_4 ⟨(show 0 + mc9 ≤ mc9 by omega), (show 0 + ms9 ≤ ms9 by omega)⟩) hP hD hS hA (fun r1 u2 H locs hp9 hP hD hS => ?_)
  obtain ⟨u8, h9u⟩ : ∃ z9, z9 = u2 := ⟨_, rfl⟩
  subst h9u
  have hP : va_P D vwCl ([(o, .inl (dA 2, 1, .inr (.inl og)))] ++ (VW dA h ad u8)) H := hP
  have hD : va_D A ([(o, .inl (dA 2, 1, .inr (.inl og)))] ++ (VW dA h ad u8)) := hD
  obtain ⟨hp9, f_f_3⟩ := hp9
  replace hp9 : v9 = r1 := Eq.symm hp9
  subst hp9
  refine lv_i2l hx hb d_SeriesVaultLaw_retain_7 rfl ?_
  refine nlst (n := 1) hx hb hK hP hD hS (0) 2 rfl rfl (0) (by omega) (by decide) d_SeriesVaultLaw_retain_8 (fun H locs hP hD hS => ?_)
  have hP : va_P D vwCl ([(o, .inl (dA 2, 1, .inr (.inl (va_up og 0 v9.toInt64))))] ++ (VW dA h ad u8)) H := hP
  have hD : va_D A ([(o, .inl (dA 2, 1, .inr (.inl (va_up og 0 v9.toInt64))))] ++ (VW dA h ad u8)) := hD
  refine lv_goto hx hb d_SeriesVaultLaw_retain_9 (tgt := 20) rfl ?_
  refine lv_iconst (v := 0) hx hb d_SeriesVaultLaw_retain_20 (by decide) ?_
  exact rfI hx hb hr hlk hS u8 ⟨rfl, f_f_3⟩ hP hD (show 0 + mc9 ≤ mc9 by omega) (show 0 + ms9 ≤ ms9 by omega) d_SeriesVaultLaw_retain_21
theorem d_SeriesVaultLaw_retain_12 : decode method_15_code 12 = .ok (.astore 4, 2) := by decide +kernel
theorem d_SeriesVaultLaw_retain_14 : decode method_15_code 14 = .ok (.iconst 1, 1) := by decide +kernel
theorem d_SeriesVaultLaw_retain_15 : decode method_15_code 15 = .ok (.ireturn, 1) := by decide +kernel
set_option maxHeartbeats 4000000 in
set_option maxRecDepth 100000 in
theorem k8_retain_1 (l : Launch) (D : va_G) (dA : Nat → ClassId) (sz : Nat) (h : Nat) (ad : Nat → Nat) (o : Nat) (og : Nat → Int64) (x : VS) (p0 : Int64) (F9 : VS → Prop) (fr : Nat) (lo : Nat) (mc9 : Nat) (ms9 : Nat) (hc9 : ∀ sz : Nat, mX l ⟨"SeriesVault", "retain", "(J)I"⟩ [Cond.code ⟨"SeriesVault", "retain", "(J)I"⟩ prog_1_method_41_code 4 (some FieldType.int)] { frames := fr, cells := mc9, slots := ms9, locals := lo } (pC D dA [.ref h, .long p0] (VW dA h ad x) sz) "java/lang/IllegalStateException" (fun st9 t9 => va_F (va_A (VW dA h ad x) sz) st9 t9 ∧ ∃ u9 : VS, F9 u9 ∧ bW D (va_A (VW dA h ad x) sz) (VW dA h ad u9) t9) mc9 ms9 (va_A (VW dA h ad x) sz)) : Met l ⟨"SeriesVaultLaw", "retain", "(LSeriesVault;J[J)I"⟩ [Cond.codeWith ⟨"SeriesVaultLaw", "retain", "(LSeriesVault;J[J)I"⟩ method_15_code 5 (some FieldType.int) [(0, 9, 12, 29), (0, 9, 16, 19)]] { frames := fr + 1, cells := mc9, slots := ms9, locals := lo + 23 } (pC D dA [.ref h, .long p0, .ref o] ([(o, .inl (dA 2, 1, .inr (.inl og)))] ++ (VW dA h ad x)) sz) (va_Qi (fun (r9 : Int32) (u9 : VS) => r9 = 1 ∧ F9 u9) (fun (u9 : VS) t9 => bW D (va_A ([(o, .inl (dA 2, 1, .inr (.inl og)))] ++ (VW dA h ad x)) sz) ([(o, .inl (dA 2, 1, .inr (.inl og)))] ++ (VW dA h ad u9)) t9) (va_A ([(o, .inl (dA 2, 1, .inr (.inl og)))] ++ (VW dA h ad x)) sz)) mc9 ms9 (va_A ([(o, .inl (dA 2, 1, .inr (.inl og)))] ++ (VW dA h ad x)) sz) := by
  refine mkW (y := ⟨"SeriesVaultLaw", "retain", "(LSeriesVault;J[J)I"⟩) (cc := method_15_code) (maxL := 5) (av := [.ref h, .long p0, .ref o]) (ws := [(o, .inl (dA 2, 1, .inr (.inl og)))] ++ (VW dA h ad x)) (sz := sz) (Qc := fun A => va_Qi (fun (r9 : Int32) (u9 : VS) => r9 = 1 ∧ F9 u9) (fun (u9 : VS) t9 => bW D A ([(o, .inl (dA 2, 1, .inr (.inl og)))] ++ (VW dA h ad u9)) t9) A) (by decide) (Nat.le_of_ble_eq_true rfl) ?_
  intro A p e s m below meth c ls hsz htab hB
  obtain ⟨hx, hb, hr, hml, hown, hin, hlk, hE, hK, hP, hD, hS, hA, hN, hl⟩ := hB
  have hown : s.vm.findClass "SeriesVaultLaw" = some m.cls := hown
  have hl : lv_has ls 5 [(0, .ref h), (1, .long p0), (3, .ref o)] := hl
  obtain ⟨H, hH⟩ : ∃ z, z = s.heap := ⟨_, rfl⟩
  have hP : va_P D vwCl ([(o, .inl (dA 2, 1, .inr (.inl og)))] ++ (VW dA h ad x)) H := by rw [hH]; exact hP
  have hS : va_S A s.heap H [] := by rw [hH]; exact hS
  rw [← hH]
  refine lv_aload_n hx hb d_SeriesVaultLaw_retain_0 rfl (lv_at hl 2 rfl) ?_
  refine lv_iconst (v := 0) hx hb d_SeriesVaultLaw_retain_1 (by decide) ?_
  refine lv_aload_n hx hb d_SeriesVaultLaw_retain_2 rfl (lv_at hl 0 rfl) ?_
  refine lv_lload_n hx hb d_SeriesVaultLaw_retain_3 rfl (lv_at hl 1 rfl) ?_
  refine xkV (S := VS) (F := F9) (w1 := fun u => VW dA h ad u) (wr := [(o, .inl (dA 2, 1, .inr (.inl og)))]) (As := [.long p0]) (rest := [.int 0, .ref o]) hx hb hml hown hE hK (hN _ _ hS) (hc9 H.size) (q0 := 0) rfl rfl w716 w715 w717 w718 w277 rfl rfl ⟨⟨by decide, by decide⟩, rfl⟩ ⟨(by first | exact Nat.le_of_ble_eq_true rfl | (dsimp only; omega)), (by first | exact Nat.le_of_ble_eq_true rfl | (dsimp only; omega))⟩ rfl hl.1 rfl (by first | exact Nat.le_of_ble_eq_true rfl | (dsimp only; omega)) d_SeriesVaultLaw_retain_4 ⟨(show 0 + mc9 ≤ mc9 by omega), (show 0 + ms9 ≤ ms9 by omega)⟩ hP hD hS hA (fun u2 xa1 ce H locs hf9 hP hD hS hce hcv hcl => ?_)
  have hP : va_P D vwCl ([(o, .inl (dA 2, 1, .inr (.inl og)))] ++ (VW dA h ad u2)) H := hP
  have hD : va_D A ([(o, .inl (dA 2, 1, .inr (.inl og)))] ++ (VW dA h ad u2)) := hD
  refine xCatch (E := "java/lang/IllegalStateException") hown hE [] ⟨0, 9, 12, 29⟩ [⟨0, 9, 16, 19⟩] htab (fun _ h => absurd h List.not_mem_nil) (by decide) (by decide) w363 w289 hce hcv hcl ?_
  refine lv_astore hx hb d_SeriesVaultLaw_retain_12 hl (by decide) rfl (fun ls hl => ?_)
  have hl : lv_has ls 5 [(4, .ref xa1), (0, .ref h), (1, .long p0), (3, .ref o)] := hl
  refine lv_iconst (v := 1) hx hb d_SeriesVaultLaw_retain_14 (by decide) ?_
  exact rfI hx hb hr hlk hS u2 ⟨rfl, hf9⟩ hP hD (show 0 + mc9 ≤ mc9 by omega) (show 0 + ms9 ≤ ms9 by omega) d_SeriesVaultLaw_retain_15
set_option maxHeartbeats 4000000 in
set_option maxRecDepth 100000 in
theorem k8_retain_2 (l : Launch) (D : va_G) (dA : Nat → ClassId) (sz : Nat) (h : Nat) (ad : Nat → Nat) (o : Nat) (og : Nat → Int64) (x : VS) (p0 : Int64) (F9 : VS → Prop) (fr : Nat) (lo : Nat) (mc9 : Nat) (ms9 : Nat) (hc9 : ∀ sz : Nat, mX l ⟨"SeriesVault", "retain", "(J)I"⟩ [Cond.code ⟨"SeriesVault", "retain", "(J)I"⟩ prog_1_method_41_code 4 (some FieldType.int)] { frames := fr, cells := mc9, slots := ms9, locals := lo } (pC D dA [.ref h, .long p0] (VW dA h ad x) sz) "java/lang/IllegalArgumentException" (fun st9 t9 => va_F (va_A (VW dA h ad x) sz) st9 t9 ∧ ∃ u9 : VS, F9 u9 ∧ bW D (va_A (VW dA h ad x) sz) (VW dA h ad u9) t9) mc9 ms9 (va_A (VW dA h ad x) sz)) : Met l ⟨"SeriesVaultLaw", "retain", "(LSeriesVault;J[J)I"⟩ [Cond.codeWith ⟨"SeriesVaultLaw", "retain", "(LSeriesVault;J[J)I"⟩ method_15_code 5 (some FieldType.int) [(0, 9, 12, 29), (0, 9, 16, 19)]] { frames := fr + 1, cells := mc9, slots := ms9, locals := lo + 23 } (pC D dA [.ref h, .long p0, .ref o] ([(o, .inl (dA 2, 1, .inr (.inl og)))] ++ (VW dA h ad x)) sz) (va_Qi (fun (r9 : Int32) (u9 : VS) => r9 = 2 ∧ F9 u9) (fun (u9 : VS) t9 => bW D (va_A ([(o, .inl (dA 2, 1, .inr (.inl og)))] ++ (VW dA h ad x)) sz) ([(o, .inl (dA 2, 1, .inr (.inl og)))] ++ (VW dA h ad u9)) t9) (va_A ([(o, .inl (dA 2, 1, .inr (.inl og)))] ++ (VW dA h ad x)) sz)) mc9 ms9 (va_A ([(o, .inl (dA 2, 1, .inr (.inl og)))] ++ (VW dA h ad x)) sz) := by
  refine mkW (y := ⟨"SeriesVaultLaw", "retain", "(LSeriesVault;J[J)I"⟩) (cc := method_15_code) (maxL := 5) (av := [.ref h, .long p0, .ref o]) (ws := [(o, .inl (dA 2, 1, .inr (.inl og)))] ++ (VW dA h ad x)) (sz := sz) (Qc := fun A => va_Qi (fun (r9 : Int32) (u9 : VS) => r9 = 2 ∧ F9 u9) (fun (u9 : VS) t9 => bW D A ([(o, .inl (dA 2, 1, .inr (.inl og)))] ++ (VW dA h ad u9)) t9) A) (by decide) (Nat.le_of_ble_eq_true rfl) ?_
  intro A p e s m below meth c ls hsz htab hB
  obtain ⟨hx, hb, hr, hml, hown, hin, hlk, hE, hK, hP, hD, hS, hA, hN, hl⟩ := hB
  have hown : s.vm.findClass "SeriesVaultLaw" = some m.cls := hown
  have hl : lv_has ls 5 [(0, .ref h), (1, .long p0), (3, .ref o)] := hl
  obtain ⟨H, hH⟩ : ∃ z, z = s.heap := ⟨_, rfl⟩
  have hP : va_P D vwCl ([(o, .inl (dA 2, 1, .inr (.inl og)))] ++ (VW dA h ad x)) H := by rw [hH]; exact hP
  have hS : va_S A s.heap H [] := by rw [hH]; exact hS
  rw [← hH]
  refine lv_aload_n hx hb d_SeriesVaultLaw_retain_0 rfl (lv_at hl 2 rfl) ?_
  refine lv_iconst (v := 0) hx hb d_SeriesVaultLaw_retain_1 (by decide) ?_
  refine lv_aload_n hx hb d_SeriesVaultLaw_retain_2 rfl (lv_at hl 0 rfl) ?_
  refine lv_lload_n hx hb d_SeriesVaultLaw_retain_3 rfl (lv_at hl 1 rfl) ?_
  refine xkV (S := VS) (F := F9) (w1 := fun u => VW dA h ad u) (wr := [(o, .inl (dA 2, 1, .inr (.inl og)))]) (As := [.long p0]) (rest := [.int 0, .ref o]) hx hb hml hown hE hK (hN _ _ hS) (hc9 H.size) (q0 := 0) rfl rfl w716 w715 w717 w718 w277 rfl rfl ⟨⟨by decide, by decide⟩, rfl⟩ ⟨(by first | exact Nat.le_of_ble_eq_true rfl | (dsimp only; omega)), (by first | exact Nat.le_of_ble_eq_true rfl | (dsimp only; omega))⟩ rfl hl.1 rfl (by first | exact Nat.le_of_ble_eq_true rfl | (dsimp only; omega)) d_SeriesVaultLaw_retain_4 ⟨(show 0 + mc9 ≤ mc9 by omega), (show 0 + ms9 ≤ ms9 by omega)⟩ hP hD hS hA (fun u2 xa1 ce H locs hf9 hP hD hS hce hcv hcl => ?_)
  have hP : va_P D vwCl ([(o, .inl (dA 2, 1, .inr (.inl og)))] ++ (VW dA h ad u2)) H := hP
  have hD : va_D A ([(o, .inl (dA 2, 1, .inr (.inl og)))] ++ (VW dA h ad u2)) := hD
  refine xCatch (E := "java/lang/IllegalArgumentException") hown hE [⟨0, 9, 12, 29⟩] ⟨0, 9, 16, 19⟩ [] htab (List.forall_mem_cons.mpr ⟨⟨by decide, "java/lang/IllegalStateException", w363, by decide⟩, fun _ h => absurd h List.not_mem_nil⟩) (by decide) (by decide) w349 w267 hce hcv hcl ?_
  refine lv_astore hx hb d_SeriesVaultLaw_retain_16 hl (by decide) rfl (fun ls hl => ?_)
  have hl : lv_has ls 5 [(4, .ref xa1), (0, .ref h), (1, .long p0), (3, .ref o)] := hl
  refine lv_iconst (v := 2) hx hb d_SeriesVaultLaw_retain_18 (by decide) ?_
  exact rfI hx hb hr hlk hS u2 ⟨rfl, hf9⟩ hP hD (show 0 + mc9 ≤ mc9 by omega) (show 0 + ms9 ≤ ms9 by omega) d_SeriesVaultLaw_retain_19
theorem d_SeriesVaultLaw_ask_16 : decode method_16_code 16 = .ok (.astore 7, 2) := by decide +kernel
theorem d_SeriesVaultLaw_ask_18 : decode method_16_code 18 = .ok (.iconst 1, 1) := by decide +kernel
theorem d_SeriesVaultLaw_ask_19 : decode method_16_code 19 = .ok (.ireturn, 1) := by decide +kernel
set_option maxHeartbeats 4000000 in
set_option maxRecDepth 100000 in
theorem k8_ask_1 (l : Launch) (D : va_G) (dA : Nat → ClassId) (sz : Nat) (h : Nat) (ad : Nat → Nat) (o : Nat) (og : Nat → Int64) (x : VS) (p0 : Int64) (p1 : Int64) (p2 : Int32) (F9 : VS → Prop) (fr : Nat) (lo : Nat) (mc9 : Nat) (ms9 : Nat) (hc9 : ∀ sz : Nat, mX l ⟨"SeriesVault", "ask", "(JJI)I"⟩ [Cond.code ⟨"SeriesVault", "ask", "(JJI)I"⟩ prog_1_method_45_code 8 (some FieldType.int)] { frames := fr, cells := mc9, slots := ms9, locals := lo } (pC D dA [.ref h, .long p0, .long p1, .int p2] (VW dA h ad x) sz) "java/lang/IllegalStateException" (fun st9 t9 => va_F (va_A (VW dA h ad x) sz) st9 t9 ∧ ∃ u9 : VS, F9 u9 ∧ bW D (va_A (VW dA h ad x) sz) (VW dA h ad u9) t9) mc9 ms9 (va_A (VW dA h ad x) sz)) : Met l ⟨"SeriesVaultLaw", "ask", "(LSeriesVault;JJI[J)I"⟩ [Cond.codeWith ⟨"SeriesVaultLaw", "ask", "(LSeriesVault;JJI[J)I"⟩ method_16_code 8 (some FieldType.int) [(0, 13, 16, 29), (0, 13, 20, 19)]] { frames := fr + 1, cells := mc9, slots := ms9, locals := lo + 27 } (pC D dA [.ref h, .long p0, .long p1, .int p2, .ref o] ([(o, .inl (dA 2, 1, .inr (.inl og)))] ++ (VW dA h ad x)) sz) (va_Qi (fun (r9 : Int32) (u9 : VS) => r9 = 1 ∧ F9 u9) (fun (u9 : VS) t9 => bW D (va_A ([(o, .inl (dA 2, 1, .inr (.inl og)))] ++ (VW dA h ad x)) sz) ([(o, .inl (dA 2, 1, .inr (.inl og)))] ++ (VW dA h ad u9)) t9) (va_A ([(o, .inl (dA 2, 1, .inr (.inl og)))] ++ (VW dA h ad x)) sz)) mc9 ms9 (va_A ([(o, .inl (dA 2, 1, .inr (.inl og)))] ++ (VW dA h ad x)) sz) := by
  refine mkW (y := ⟨"SeriesVaultLaw", "ask", "(LSeriesVault;JJI[J)I"⟩) (cc := method_16_code) (maxL := 8) (av := [.ref h, .long p0, .long p1, .int p2, .ref o]) (ws := [(o, .inl (dA 2, 1, .inr (.inl og)))] ++ (VW dA h ad x)) (sz := sz) (Qc := fun A => va_Qi (fun (r9 : Int32) (u9 : VS) => r9 = 1 ∧ F9 u9) (fun (u9 : VS) t9 => bW D A ([(o, .inl (dA 2, 1, .inr (.inl og)))] ++ (VW dA h ad u9)) t9) A) (by decide) (Nat.le_of_ble_eq_true rfl) ?_
  intro A p e s m below meth c ls hsz htab hB
  obtain ⟨hx, hb, hr, hml, hown, hin, hlk, hE, hK, hP, hD, hS, hA, hN, hl⟩ := hB
  have hown : s.vm.findClass "SeriesVaultLaw" = some m.cls := hown
  have hl : lv_has ls 8 [(0, .ref h), (1, .long p0), (3, .long p1), (5, .int p2), (6, .ref o)] := hl
  obtain ⟨H, hH⟩ : ∃ z, z = s.heap := ⟨_, rfl⟩
  have hP : va_P D vwCl ([(o, .inl (dA 2, 1, .inr (.inl og)))] ++ (VW dA h ad x)) H := by rw [hH]; exact hP
  have hS : va_S A s.heap H [] := by rw [hH]; exact hS
  rw [← hH]
  refine lv_aload hx hb d_SeriesVaultLaw_ask_0 (lv_at hl 4 rfl) ?_
  refine lv_iconst (v := 0) hx hb d_SeriesVaultLaw_ask_2 (by decide) ?_
  refine lv_aload_n hx hb d_SeriesVaultLaw_ask_3 rfl (lv_at hl 0 rfl) ?_
  refine lv_lload_n hx hb d_SeriesVaultLaw_ask_4 rfl (lv_at hl 1 rfl) ?_
  refine lv_lload_n hx hb d_SeriesVaultLaw_ask_5 rfl (lv_at hl 2 rfl) ?_
  refine lv_iload hx hb d_SeriesVaultLaw_ask_6 (lv_at hl 3 rfl) ?_
  refine xkV (S := VS) (F := F9) (w1 := fun u => VW dA h ad u) (wr := [(o, .inl (dA 2, 1, .inr (.inl og)))]) (As := [.long p0, .long p1, .int p2]) (rest := [.int 0, .ref o]) hx hb hml hown hE hK (hN _ _ hS) (hc9 H.size) (q0 := 0) rfl rfl w707 w706 w708 w709 w277 rfl rfl ⟨⟨by decide, by decide⟩, rfl⟩ ⟨(by first | exact Nat.le_of_ble_eq_true rfl | (dsimp only; omega)), (by first | exact Nat.le_of_ble_eq_true rfl | (dsimp only; omega))⟩ rfl hl.1 rfl (by first | exact Nat.le_of_ble_eq_true rfl | (dsimp only; omega)) d_SeriesVaultLaw_ask_8 ⟨(show 0 + mc9 ≤ mc9 by omega), (show 0 + ms9 ≤ ms9 by omega)⟩ hP hD hS hA (fun u2 xa1 ce H locs hf9 hP hD hS hce hcv hcl => ?_)
  have hP : va_P D vwCl ([(o, .inl (dA 2, 1, .inr (.inl og)))] ++ (VW dA h ad u2)) H := hP
  have hD : va_D A ([(o, .inl (dA 2, 1, .inr (.inl og)))] ++ (VW dA h ad u2)) := hD
  refine xCatch (E := "java/lang/IllegalStateException") hown hE [] ⟨0, 13, 16, 29⟩ [⟨0, 13, 20, 19⟩] htab (fun _ h => absurd h List.not_mem_nil) (by decide) (by decide) w363 w289 hce hcv hcl ?_
  refine lv_astore hx hb d_SeriesVaultLaw_ask_16 hl (by decide) rfl (fun ls hl => ?_)
  have hl : lv_has ls 8 [(7, .ref xa1), (0, .ref h), (1, .long p0), (3, .long p1), (5, .int p2), (6, .ref o)] := hl
  refine lv_iconst (v := 1) hx hb d_SeriesVaultLaw_ask_18 (by decide) ?_
  exact rfI hx hb hr hlk hS u2 ⟨rfl, hf9⟩ hP hD (show 0 + mc9 ≤ mc9 by omega) (show 0 + ms9 ≤ ms9 by omega) d_SeriesVaultLaw_ask_19
set_option maxHeartbeats 4000000 in
set_option maxRecDepth 100000 in
theorem k8_ask_2 (l : Launch) (D : va_G) (dA : Nat → ClassId) (sz : Nat) (h : Nat) (ad : Nat → Nat) (o : Nat) (og : Nat → Int64) (x : VS) (p0 : Int64) (p1 : Int64) (p2 : Int32) (F9 : VS → Prop) (fr : Nat) (lo : Nat) (mc9 : Nat) (ms9 : Nat) (hc9 : ∀ sz : Nat, mX l ⟨"SeriesVault", "ask", "(JJI)I"⟩ [Cond.code ⟨"SeriesVault", "ask", "(JJI)I"⟩ prog_1_method_45_code 8 (some FieldType.int)] { frames := fr, cells := mc9, slots := ms9, locals := lo } (pC D dA [.ref h, .long p0, .long p1, .int p2] (VW dA h ad x) sz) "java/lang/IllegalArgumentException" (fun st9 t9 => va_F (va_A (VW dA h ad x) sz) st9 t9 ∧ ∃ u9 : VS, F9 u9 ∧ bW D (va_A (VW dA h ad x) sz) (VW dA h ad u9) t9) mc9 ms9 (va_A (VW dA h ad x) sz)) : Met l ⟨"SeriesVaultLaw", "ask", "(LSeriesVault;JJI[J)I"⟩ [Cond.codeWith ⟨"SeriesVaultLaw", "ask", "(LSeriesVault;JJI[J)I"⟩ method_16_code 8 (some FieldType.int) [(0, 13, 16, 29), (0, 13, 20, 19)]] { frames := fr + 1, cells := mc9, slots := ms9, locals := lo + 27 } (pC D dA [.ref h, .long p0, .long p1, .int p2, .ref o] ([(o, .inl (dA 2, 1, .inr (.inl og)))] ++ (VW dA h ad x)) sz) (va_Qi (fun (r9 : Int32) (u9 : VS) => r9 = 2 ∧ F9 u9) (fun (u9 : VS) t9 => bW D (va_A ([(o, .inl (dA 2, 1, .inr (.inl og)))] ++ (VW dA h ad x)) sz) ([(o, .inl (dA 2, 1, .inr (.inl og)))] ++ (VW dA h ad u9)) t9) (va_A ([(o, .inl (dA 2, 1, .inr (.inl og)))] ++ (VW dA h ad x)) sz)) mc9 ms9 (va_A ([(o, .inl (dA 2, 1, .inr (.inl og)))] ++ (VW dA h ad x)) sz) := by
  refine mkW (y := ⟨"SeriesVaultLaw", "ask", "(LSeriesVault;JJI[J)I"⟩) (cc := method_16_code) (maxL := 8) (av := [.ref h, .long p0, .long p1, .int p2, .ref o]) (ws := [(o, .inl (dA 2, 1, .inr (.inl og)))] ++ (VW dA h ad x)) (sz := sz) (Qc := fun A => va_Qi (fun (r9 : Int32) (u9 : VS) => r9 = 2 ∧ F9 u9) (fun (u9 : VS) t9 => bW D A ([(o, .inl (dA 2, 1, .inr (.inl og)))] ++ (VW dA h ad u9)) t9) A) (by decide) (Nat.le_of_ble_eq_true rfl) ?_
  intro A p e s m below meth c ls hsz htab hB
  obtain ⟨hx, hb, hr, hml, hown, hin, hlk, hE, hK, hP, hD, hS, hA, hN, hl⟩ := hB
  have hown : s.vm.findClass "SeriesVaultLaw" = some m.cls := hown
  have hl : lv_has ls 8 [(0, .ref h), (1, .long p0), (3, .long p1), (5, .int p2), (6, .ref o)] := hl
  obtain ⟨H, hH⟩ : ∃ z, z = s.heap := ⟨_, rfl⟩
  have hP : va_P D vwCl ([(o, .inl (dA 2, 1, .inr (.inl og)))] ++ (VW dA h ad x)) H := by rw [hH]; exact hP
  have hS : va_S A s.heap H [] := by rw [hH]; exact hS
  rw [← hH]
  refine lv_aload hx hb d_SeriesVaultLaw_ask_0 (lv_at hl 4 rfl) ?_
  refine lv_iconst (v := 0) hx hb d_SeriesVaultLaw_ask_2 (by decide) ?_
  refine lv_aload_n hx hb d_SeriesVaultLaw_ask_3 rfl (lv_at hl 0 rfl) ?_
  refine lv_lload_n hx hb d_SeriesVaultLaw_ask_4 rfl (lv_at hl 1 rfl) ?_
  refine lv_lload_n hx hb d_SeriesVaultLaw_ask_5 rfl (lv_at hl 2 rfl) ?_
  refine lv_iload hx hb d_SeriesVaultLaw_ask_6 (lv_at hl 3 rfl) ?_
  refine xkV (S := VS) (F := F9) (w1 := fun u => VW dA h ad u) (wr := [(o, .inl (dA 2, 1, .inr (.inl og)))]) (As := [.long p0, .long p1, .int p2]) (rest := [.int 0, .ref o]) hx hb hml hown hE hK (hN _ _ hS) (hc9 H.size) (q0 := 0) rfl rfl w707 w706 w708 w709 w277 rfl rfl ⟨⟨by decide, by decide⟩, rfl⟩ ⟨(by first | exact Nat.le_of_ble_eq_true rfl | (dsimp only; omega)), (by first | exact Nat.le_of_ble_eq_true rfl | (dsimp only; omega))⟩ rfl hl.1 rfl (by first | exact Nat.le_of_ble_eq_true rfl | (dsimp only; omega)) d_SeriesVaultLaw_ask_8 ⟨(show 0 + mc9 ≤ mc9 by omega), (show 0 + ms9 ≤ ms9 by omega)⟩ hP hD hS hA (fun u2 xa1 ce H locs hf9 hP hD hS hce hcv hcl => ?_)
  have hP : va_P D vwCl ([(o, .inl (dA 2, 1, .inr (.inl og)))] ++ (VW dA h ad u2)) H := hP
  have hD : va_D A ([(o, .inl (dA 2, 1, .inr (.inl og)))] ++ (VW dA h ad u2)) := hD
  refine xCatch (E := "java/lang/IllegalArgumentException") hown hE [⟨0, 13, 16, 29⟩] ⟨0, 13, 20, 19⟩ [] htab (List.forall_mem_cons.mpr ⟨⟨by decide, "java/lang/IllegalStateException", w363, by decide⟩, fun _ h => absurd h List.not_mem_nil⟩) (by decide) (by decide) w349 w267 hce hcv hcl ?_
  refine lv_astore hx hb d_SeriesVaultLaw_ask_20 hl (by decide) rfl (fun ls hl => ?_)
  have hl : lv_has ls 8 [(7, .ref xa1), (0, .ref h), (1, .long p0), (3, .long p1), (5, .int p2), (6, .ref o)] := hl
  refine lv_iconst (v := 2) hx hb d_SeriesVaultLaw_ask_22 (by decide) ?_
  exact rfI hx hb hr hlk hS u2 ⟨rfl, hf9⟩ hP hD (show 0 + mc9 ≤ mc9 by omega) (show 0 + ms9 ≤ ms9 by omega) d_SeriesVaultLaw_ask_23
theorem d_SeriesVaultLaw_text_10 : decode method_17_code 10 = .ok (.i2l, 1) := by decide +kernel
theorem d_SeriesVaultLaw_text_11 : decode method_17_code 11 = .ok (.lastore, 1) := by decide +kernel
theorem d_SeriesVaultLaw_text_12 : decode method_17_code 12 = .ok (.goto 7, 3) := by decide +kernel
theorem d_SeriesVaultLaw_text_19 : decode method_17_code 19 = .ok (.iconst 0, 1) := by decide +kernel
theorem d_SeriesVaultLaw_text_20 : decode method_17_code 20 = .ok (.ireturn, 1) := by decide +kernel
set_option maxHeartbeats 4000000 in
set_option maxRecDepth 100000 in
theorem k8_text (l : Launch) (D : va_G) (dA : Nat → ClassId) (sz : Nat) (h : Nat) (ad : Nat → Nat) (o : Nat) (og : Nat → Int64) (x : VS) (p0 : Int32) (p1 : Int32) (p2 : Int32) (v9 : Int32) (F9 : VS → Prop) (fr : Nat) (lo : Nat) (mc9 : Nat) (ms9 : Nat) (hc9 : ∀ sz : Nat, Met l ⟨"SeriesVault", "text", "(III)I"⟩ [Cond.code ⟨"SeriesVault", "text", "(III)I"⟩ prog_1_method_47_code 5 (some FieldType.int)] { frames := fr, cells := mc9, slots := ms9, locals := lo } (pC D dA [.ref h, .int p0, .int p1, .int p2] (VW dA h ad x) sz) (va_Qi (fun (r9 : Int32) (u9 : VS) => r9 = v9 ∧ F9 u9) (fun (u9 : VS) t9 => bW D (va_A (VW dA h ad x) sz) (VW dA h ad u9) t9) (va_A (VW dA h ad x) sz)) mc9 ms9 (va_A (VW dA h ad x) sz)) : Met l ⟨"SeriesVaultLaw", "text", "(LSeriesVault;III[J)I"⟩ [Cond.codeWith ⟨"SeriesVaultLaw", "text", "(LSeriesVault;III[J)I"⟩ method_17_code 6 (some FieldType.int) [(0, 12, 15, 35)]] { frames := fr + 1, cells := mc9, slots := ms9, locals := lo + 24 } (pC D dA [.ref h, .int p0, .int p1, .int p2, .ref o] ([(o, .inl (dA 2, 1, .inr (.inl og)))] ++ (VW dA h ad x)) sz) (va_Qi (fun (r9 : Int32) (u9 : VS) => r9 = 0 ∧ F9 u9) (fun (u9 : VS) t9 => bW D (va_A ([(o, .inl (dA 2, 1, .inr (.inl og)))] ++ (VW dA h ad x)) sz) ([(o, .inl (dA 2, 1, .inr (.inl (va_up og 0 (v9.toInt64)))))] ++ (VW dA h ad u9)) t9) (va_A ([(o, .inl (dA 2, 1, .inr (.inl og)))] ++ (VW dA h ad x)) sz)) mc9 ms9 (va_A ([(o, .inl (dA 2, 1, .inr (.inl og)))] ++ (VW dA h ad x)) sz) := by
  refine mkW (y := ⟨"SeriesVaultLaw", "text", "(LSeriesVault;III[J)I"⟩) (cc := method_17_code) (maxL := 6) (av := [.ref h, .int p0, .int p1, .int p2, .ref o]) (ws := [(o, .inl (dA 2, 1, .inr (.inl og)))] ++ (VW dA h ad x)) (sz := sz) (Qc := fun A => va_Qi (fun (r9 : Int32) (u9 : VS) => r9 = 0 ∧ F9 u9) (fun (u9 : VS) t9 => bW D A ([(o, .inl (dA 2, 1, .inr (.inl (va_up og 0 (v9.toInt64)))))] ++ (VW dA h ad u9)) t9) A) (by decide) (Nat.le_of_ble_eq_true rfl) ?_
  intro A p e s m below meth c ls hsz htab hB
  obtain ⟨hx, hb, hr, hml, hown, hin, hlk, hE, hK, hP, hD, hS, hA, hN, hl⟩ := hB
  have hown : s.vm.findClass "SeriesVaultLaw" = some m.cls := hown
  have hl : lv_has ls 6 [(0, .ref h), (1, .int p0), (2, .int p1), (3, .int p2), (4, .ref o)] := hl
  obtain ⟨H, hH⟩ : ∃ z, z = s.heap := ⟨_, rfl⟩
  have hP : va_P D vwCl ([(o, .inl (dA 2, 1, .inr (.inl og)))] ++ (VW dA h ad x)) H := by rw [hH]; exact hP
  have hS : va_S A s.heap H [] := by rw [hH]; exact hS
  rw [← hH]
  refine lv_aload hx hb d_SeriesVaultLaw_text_0 (lv_at hl 4 rfl) ?_
  refine lv_iconst (v := 0) hx hb d_SeriesVaultLaw_text_2 (by decide) ?_
  refine lv_aload_n hx hb d_SeriesVaultLaw_text_3 rfl (lv_at hl 0 rfl) ?_
  refine lv_iload_n hx hb d_SeriesVaultLaw_text_4 rfl (lv_at hl 1 rfl) ?_
  refine lv_iload_n hx hb d_SeriesVaultLaw_text_5 rfl (lv_at hl 2 rfl) ?_
  refine lv_iload_n hx hb d_SeriesVaultLaw_text_6 rfl (lv_at hl 3 rfl) ?_
  have hPc : va_P D vwCl (VW dA h ad x) H := spP (wr := [(o, .inl (dA 2, 1, .inr (.inl og)))]) hP
  have hDc : va_D A (VW dA h ad x) := spD (wr := [(o, .inl (dA 2, 1, .inr (.inl og)))]) hD
  refine jkI (wr := [(o, .inl (dA 2, 1, .inr (.inl og)))]) (rnV (As := [.int p0, .int p1, .int p2]) (rest := [.int 0, .ref o]) hx hb hml hown hE hK (hN _ _ hS) hPc hDc ((fun (_ : Launch) (_ : va_G) (_ : Nat → ClassId) (sz9 : Nat) (_ : Nat) (_ : Nat → Nat) (_ : VS) (_ : Int32) (_ : Int32) (_ : Int32) => hc9 sz9) l D dA H.size h ad x p0 p1 p2) (q0 := 0) rfl rfl w397 w396 w398 w399 w277 rfl rfl ⟨⟨by decide, by decide⟩, rfl⟩ ⟨(by first | exact Nat.le_of_ble_eq_true rfl | (dsimp only; omega)), (by first | exact Nat.le_of_ble_eq_true rfl | (dsimp only; omega))⟩ rfl hl.1 rfl (by first | exact Nat.le_of_ble_eq_true rfl | (dsimp only; omega)) d_SeriesVaultLaw_text_7 ⟨(show 0 + mc9 ≤ mc9 by omega), (show 0 + ms9 ≤ ms9 by omega)⟩) hP hD hS hA (fun r1 u2 H locs hp9 hP hD hS => ?_)
  obtain ⟨u8, h9u⟩ : ∃ z9, z9 = u2 := ⟨_, rfl⟩
  subst h9u
  have hP : va_P D vwCl ([(o, .inl (dA 2, 1, .inr (.inl og)))] ++ (VW dA h ad u8)) H := hP
  have hD : va_D A ([(o, .inl (dA 2, 1, .inr (.inl og)))] ++ (VW dA h ad u8)) := hD
  obtain ⟨hp9, f_f_3⟩ := hp9
  replace hp9 : v9 = r1 := Eq.symm hp9
  subst hp9
  refine lv_i2l hx hb d_SeriesVaultLaw_text_10 rfl ?_
  refine nlst (n := 1) hx hb hK hP hD hS (0) 2 rfl rfl (0) (by omega) (by decide) d_SeriesVaultLaw_text_11 (fun H locs hP hD hS => ?_)
  have hP : va_P D vwCl ([(o, .inl (dA 2, 1, .inr (.inl (va_up og 0 v9.toInt64))))] ++ (VW dA h ad u8)) H := hP
  have hD : va_D A ([(o, .inl (dA 2, 1, .inr (.inl (va_up og 0 v9.toInt64))))] ++ (VW dA h ad u8)) := hD
  refine lv_goto hx hb d_SeriesVaultLaw_text_12 (tgt := 19) rfl ?_
  refine lv_iconst (v := 0) hx hb d_SeriesVaultLaw_text_19 (by decide) ?_
  exact rfI hx hb hr hlk hS u8 ⟨rfl, f_f_3⟩ hP hD (show 0 + mc9 ≤ mc9 by omega) (show 0 + ms9 ≤ ms9 by omega) d_SeriesVaultLaw_text_20
set_option maxHeartbeats 4000000 in
set_option maxRecDepth 100000 in
theorem k8_text_1 (l : Launch) (D : va_G) (dA : Nat → ClassId) (sz : Nat) (h : Nat) (ad : Nat → Nat) (o : Nat) (og : Nat → Int64) (x : VS) (p0 : Int32) (p1 : Int32) (p2 : Int32) (F9 : VS → Prop) (fr : Nat) (lo : Nat) (mc9 : Nat) (ms9 : Nat) (hc9 : ∀ sz : Nat, mX l ⟨"SeriesVault", "text", "(III)I"⟩ [Cond.code ⟨"SeriesVault", "text", "(III)I"⟩ prog_1_method_47_code 5 (some FieldType.int)] { frames := fr, cells := mc9, slots := ms9, locals := lo } (pC D dA [.ref h, .int p0, .int p1, .int p2] (VW dA h ad x) sz) "java/lang/IndexOutOfBoundsException" (fun st9 t9 => va_F (va_A (VW dA h ad x) sz) st9 t9 ∧ ∃ u9 : VS, F9 u9 ∧ bW D (va_A (VW dA h ad x) sz) (VW dA h ad u9) t9) mc9 ms9 (va_A (VW dA h ad x) sz)) : Met l ⟨"SeriesVaultLaw", "text", "(LSeriesVault;III[J)I"⟩ [Cond.codeWith ⟨"SeriesVaultLaw", "text", "(LSeriesVault;III[J)I"⟩ method_17_code 6 (some FieldType.int) [(0, 12, 15, 35)]] { frames := fr + 1, cells := mc9, slots := ms9, locals := lo + 24 } (pC D dA [.ref h, .int p0, .int p1, .int p2, .ref o] ([(o, .inl (dA 2, 1, .inr (.inl og)))] ++ (VW dA h ad x)) sz) (va_Qi (fun (r9 : Int32) (u9 : VS) => r9 = 1 ∧ F9 u9) (fun (u9 : VS) t9 => bW D (va_A ([(o, .inl (dA 2, 1, .inr (.inl og)))] ++ (VW dA h ad x)) sz) ([(o, .inl (dA 2, 1, .inr (.inl og)))] ++ (VW dA h ad u9)) t9) (va_A ([(o, .inl (dA 2, 1, .inr (.inl og)))] ++ (VW dA h ad x)) sz)) mc9 ms9 (va_A ([(o, .inl (dA 2, 1, .inr (.inl og)))] ++ (VW dA h ad x)) sz) := by
  refine mkW (y := ⟨"SeriesVaultLaw", "text", "(LSeriesVault;III[J)I"⟩) (cc := method_17_code) (maxL := 6) (av := [.ref h, .int p0, .int p1, .int p2, .ref o]) (ws := [(o, .inl (dA 2, 1, .inr (.inl og)))] ++ (VW dA h ad x)) (sz := sz) (Qc := fun A => va_Qi (fun (r9 : Int32) (u9 : VS) => r9 = 1 ∧ F9 u9) (fun (u9 : VS) t9 => bW D A ([(o, .inl (dA 2, 1, .inr (.inl og)))] ++ (VW dA h ad u9)) t9) A) (by decide) (Nat.le_of_ble_eq_true rfl) ?_
  intro A p e s m below meth c ls hsz htab hB
  obtain ⟨hx, hb, hr, hml, hown, hin, hlk, hE, hK, hP, hD, hS, hA, hN, hl⟩ := hB
  have hown : s.vm.findClass "SeriesVaultLaw" = some m.cls := hown
  have hl : lv_has ls 6 [(0, .ref h), (1, .int p0), (2, .int p1), (3, .int p2), (4, .ref o)] := hl
  obtain ⟨H, hH⟩ : ∃ z, z = s.heap := ⟨_, rfl⟩
  have hP : va_P D vwCl ([(o, .inl (dA 2, 1, .inr (.inl og)))] ++ (VW dA h ad x)) H := by rw [hH]; exact hP
  have hS : va_S A s.heap H [] := by rw [hH]; exact hS
  rw [← hH]
  refine lv_aload hx hb d_SeriesVaultLaw_text_0 (lv_at hl 4 rfl) ?_
  refine lv_iconst (v := 0) hx hb d_SeriesVaultLaw_text_2 (by decide) ?_
  refine lv_aload_n hx hb d_SeriesVaultLaw_text_3 rfl (lv_at hl 0 rfl) ?_
  refine lv_iload_n hx hb d_SeriesVaultLaw_text_4 rfl (lv_at hl 1 rfl) ?_
  refine lv_iload_n hx hb d_SeriesVaultLaw_text_5 rfl (lv_at hl 2 rfl) ?_
  refine lv_iload_n hx hb d_SeriesVaultLaw_text_6 rfl (lv_at hl 3 rfl) ?_
  refine xkV (S := VS) (F := F9) (w1 := fun u => VW dA h ad u) (wr := [(o, .inl (dA 2, 1, .inr (.inl og)))]) (As := [.int p0, .int p1, .int p2]) (rest := [.int 0, .ref o]) hx hb hml hown hE hK (hN _ _ hS) (hc9 H.size) (q0 := 0) rfl rfl w397 w396 w398 w399 w277 rfl rfl ⟨⟨by decide, by decide⟩, rfl⟩ ⟨(by first | exact Nat.le_of_ble_eq_true rfl | (dsimp only; omega)), (by first | exact Nat.le_of_ble_eq_true rfl | (dsimp only; omega))⟩ rfl hl.1 rfl (by first | exact Nat.le_of_ble_eq_true rfl | (dsimp only; omega)) d_SeriesVaultLaw_text_7 ⟨(show 0 + mc9 ≤ mc9 by omega), (show 0 + ms9 ≤ ms9 by omega)⟩ hP hD hS hA (fun u2 xa1 ce H locs hf9 hP hD hS hce hcv hcl => ?_)
  have hP : va_P D vwCl ([(o, .inl (dA 2, 1, .inr (.inl og)))] ++ (VW dA h ad u2)) H := hP
  have hD : va_D A ([(o, .inl (dA 2, 1, .inr (.inl og)))] ++ (VW dA h ad u2)) := hD
  refine xCatch (E := "java/lang/IndexOutOfBoundsException") hown hE [] ⟨0, 12, 15, 35⟩ [] htab (fun _ h => absurd h List.not_mem_nil) (by decide) (by decide) w354 w222 hce hcv hcl ?_
  refine lv_astore hx hb d_SeriesVaultLaw_text_15 hl (by decide) rfl (fun ls hl => ?_)
  have hl : lv_has ls 6 [(5, .ref xa1), (0, .ref h), (1, .int p0), (2, .int p1), (3, .int p2), (4, .ref o)] := hl
  refine lv_iconst (v := 1) hx hb d_SeriesVaultLaw_text_17 (by decide) ?_
  exact rfI hx hb hr hlk hS u2 ⟨rfl, hf9⟩ hP hD (show 0 + mc9 ≤ mc9 by omega) (show 0 + ms9 ≤ ms9 by omega) d_SeriesVaultLaw_text_18
theorem d_SeriesVaultLaw_isThere_8 : decode method_18_code 8 = .ok (.ifCond .eq 7, 3) := by decide +kernel
theorem d_SeriesVaultLaw_isThere_11 : decode method_18_code 11 = .ok (.lconst 1, 1) := by decide +kernel
theorem d_SeriesVaultLaw_isThere_12 : decode method_18_code 12 = .ok (.goto 4, 3) := by decide +kernel
theorem d_SeriesVaultLaw_isThere_16 : decode method_18_code 16 = .ok (.lastore, 1) := by decide +kernel
theorem d_SeriesVaultLaw_isThere_17 : decode method_18_code 17 = .ok (.goto 7, 3) := by decide +kernel
theorem d_SeriesVaultLaw_isThere_24 : decode method_18_code 24 = .ok (.iconst 0, 1) := by decide +kernel
theorem d_SeriesVaultLaw_isThere_25 : decode method_18_code 25 = .ok (.ireturn, 1) := by decide +kernel
set_option maxHeartbeats 4000000 in
set_option maxRecDepth 100000 in
theorem k8_isThere_b1 (l : Launch) (D : va_G) (dA : Nat → ClassId) (sz : Nat) (h : Nat) (ad : Nat → Nat) (o : Nat) (og : Nat → Int64) (x : VS) (p0 : Int32) (p1 : Int32) (F9 : VS → Prop) (fr : Nat) (lo : Nat) (mc9 : Nat) (ms9 : Nat) (hc9 : ∀ sz : Nat, Met l ⟨"SeriesVault", "isThere", "(II)Z"⟩ [Cond.code ⟨"SeriesVault", "isThere", "(II)Z"⟩ prog_1_method_48_code 3 (some FieldType.boolean)] { frames := fr, cells := mc9, slots := ms9, locals := lo } (pC D dA [.ref h, .int p0, .int p1] (VW dA h ad x) sz) (va_Qi (fun (r9 : Int32) (u9 : VS) => r9 = 1 ∧ F9 u9) (fun (u9 : VS) t9 => bW D (va_A (VW dA h ad x) sz) (VW dA h ad u9) t9) (va_A (VW dA h ad x) sz)) mc9 ms9 (va_A (VW dA h ad x) sz)) : Met l ⟨"SeriesVaultLaw", "isThere", "(LSeriesVault;II[J)I"⟩ [Cond.codeWith ⟨"SeriesVaultLaw", "isThere", "(LSeriesVault;II[J)I"⟩ method_18_code 5 (some FieldType.int) [(0, 17, 20, 35)]] { frames := fr + 1, cells := mc9, slots := ms9, locals := lo + 22 } (pC D dA [.ref h, .int p0, .int p1, .ref o] ([(o, .inl (dA 2, 1, .inr (.inl og)))] ++ (VW dA h ad x)) sz) (va_Qi (fun (r9 : Int32) (u9 : VS) => r9 = 0 ∧ F9 u9) (fun (u9 : VS) t9 => bW D (va_A ([(o, .inl (dA 2, 1, .inr (.inl og)))] ++ (VW dA h ad x)) sz) ([(o, .inl (dA 2, 1, .inr (.inl (va_up og 0 1))))] ++ (VW dA h ad u9)) t9) (va_A ([(o, .inl (dA 2, 1, .inr (.inl og)))] ++ (VW dA h ad x)) sz)) mc9 ms9 (va_A ([(o, .inl (dA 2, 1, .inr (.inl og)))] ++ (VW dA h ad x)) sz) := by
  refine mkW (y := ⟨"SeriesVaultLaw", "isThere", "(LSeriesVault;II[J)I"⟩) (cc := method_18_code) (maxL := 5) (av := [.ref h, .int p0, .int p1, .ref o]) (ws := [(o, .inl (dA 2, 1, .inr (.inl og)))] ++ (VW dA h ad x)) (sz := sz) (Qc := fun A => va_Qi (fun (r9 : Int32) (u9 : VS) => r9 = 0 ∧ F9 u9) (fun (u9 : VS) t9 => bW D A ([(o, .inl (dA 2, 1, .inr (.inl (va_up og 0 1))))] ++ (VW dA h ad u9)) t9) A) (by decide) (Nat.le_of_ble_eq_true rfl) ?_
  intro A p e s m below meth c ls hsz htab hB
  obtain ⟨hx, hb, hr, hml, hown, hin, hlk, hE, hK, hP, hD, hS, hA, hN, hl⟩ := hB
  have hown : s.vm.findClass "SeriesVaultLaw" = some m.cls := hown
  have hl : lv_has ls 5 [(0, .ref h), (1, .int p0), (2, .int p1), (3, .ref o)] := hl
  obtain ⟨H, hH⟩ : ∃ z, z = s.heap := ⟨_, rfl⟩
  have hP : va_P D vwCl ([(o, .inl (dA 2, 1, .inr (.inl og)))] ++ (VW dA h ad x)) H := by rw [hH]; exact hP
  have hS : va_S A s.heap H [] := by rw [hH]; exact hS
  rw [← hH]
  refine lv_aload_n hx hb d_SeriesVaultLaw_isThere_0 rfl (lv_at hl 3 rfl) ?_
  refine lv_iconst (v := 0) hx hb d_SeriesVaultLaw_isThere_1 (by decide) ?_
  refine lv_aload_n hx hb d_SeriesVaultLaw_isThere_2 rfl (lv_at hl 0 rfl) ?_
  refine lv_iload_n hx hb d_SeriesVaultLaw_isThere_3 rfl (lv_at hl 1 rfl) ?_
  refine lv_iload_n hx hb d_SeriesVaultLaw_isThere_4 rfl (lv_at hl 2 rfl) ?_
  have hPc : va_P D vwCl (VW dA h ad x) H := spP (wr := [(o, .inl (dA 2, 1, .inr (.inl og)))]) hP
  have hDc : va_D A (VW dA h ad x) := spD (wr := [(o, .inl (dA 2, 1, .inr (.inl og)))]) hD
  refine jkI (wr := [(o, .inl (dA 2, 1, .inr (.inl og)))]) (rnV (As := [.int p0, .int p1]) (rest := [.int 0, .ref o]) hx hb hml hown hE hK (hN _ _ hS) hPc hDc ((fun (_ : Launch) (_ : va_G) (_ : Nat → ClassId) (sz9 : Nat) (_ : Nat) (_ : Nat → Nat) (_ : VS) (_ : Int32) (_ : Int32) => hc9 sz9) l D dA H.size h ad x p0 p1) (q0 := 0) rfl rfl w401 w400 w402 w403 w277 rfl rfl ⟨⟨by decide, by decide⟩, rfl⟩ ⟨(by first | exact Nat.le_of_ble_eq_true rfl | (dsimp only; omega)), (by first | exact Nat.le_of_ble_eq_true rfl | (dsimp only; omega))⟩ rfl hl.1 rfl (by first | exact Nat.le_of_ble_eq_true rfl | (dsimp only; omega)) d_SeriesVaultLaw_isThere_5 ⟨(show 0 + mc9 ≤ mc9 by omega), (show 0 + ms9 ≤ ms9 by omega)⟩) hP hD hS hA (fun r1 u2 H locs hp9 hP hD hS => ?_)
  obtain ⟨u8, h9u⟩ : ∃ z9, z9 = u2 := ⟨_, rfl⟩
  subst h9u
  have hP : va_P D vwCl ([(o, .inl (dA 2, 1, .inr (.inl og)))] ++ (VW dA h ad u8)) H := hP
  have hD : va_D A ([(o, .inl (dA 2, 1, .inr (.inl og)))] ++ (VW dA h ad u8)) := hD
  obtain ⟨hp9, f_f_3⟩ := hp9
  replace hp9 : 1 = r1 := Eq.symm hp9
  subst hp9
  refine lv_if_eq hx hb d_SeriesVaultLaw_isThere_8 (tgt := 15) rfl (fun h9 => absurd h9 (by decide)) (fun _ => ?_)
  refine lv_lconst (v := 1) hx hb d_SeriesVaultLaw_isThere_11 (by decide) ?_
  refine lv_goto hx hb d_SeriesVaultLaw_isThere_12 (tgt := 16) rfl ?_
  refine nlst (n := 1) hx hb hK hP hD hS (0) 2 rfl rfl (0) (by omega) (by decide) d_SeriesVaultLaw_isThere_16 (fun H locs hP hD hS => ?_)
  have hP : va_P D vwCl ([(o, .inl (dA 2, 1, .inr (.inl (va_up og 0 1))))] ++ (VW dA h ad u8)) H := hP
  have hD : va_D A ([(o, .inl (dA 2, 1, .inr (.inl (va_up og 0 1))))] ++ (VW dA h ad u8)) := hD
  refine lv_goto hx hb d_SeriesVaultLaw_isThere_17 (tgt := 24) rfl ?_
  refine lv_iconst (v := 0) hx hb d_SeriesVaultLaw_isThere_24 (by decide) ?_
  exact rfI hx hb hr hlk hS u8 ⟨rfl, f_f_3⟩ hP hD (show 0 + mc9 ≤ mc9 by omega) (show 0 + ms9 ≤ ms9 by omega) d_SeriesVaultLaw_isThere_25
theorem d_SeriesVaultLaw_isThere_15 : decode method_18_code 15 = .ok (.lconst 0, 1) := by decide +kernel
set_option maxHeartbeats 4000000 in
set_option maxRecDepth 100000 in
theorem k8_isThere_b0 (l : Launch) (D : va_G) (dA : Nat → ClassId) (sz : Nat) (h : Nat) (ad : Nat → Nat) (o : Nat) (og : Nat → Int64) (x : VS) (p0 : Int32) (p1 : Int32) (F9 : VS → Prop) (fr : Nat) (lo : Nat) (mc9 : Nat) (ms9 : Nat) (hc9 : ∀ sz : Nat, Met l ⟨"SeriesVault", "isThere", "(II)Z"⟩ [Cond.code ⟨"SeriesVault", "isThere", "(II)Z"⟩ prog_1_method_48_code 3 (some FieldType.boolean)] { frames := fr, cells := mc9, slots := ms9, locals := lo } (pC D dA [.ref h, .int p0, .int p1] (VW dA h ad x) sz) (va_Qi (fun (r9 : Int32) (u9 : VS) => r9 = 0 ∧ F9 u9) (fun (u9 : VS) t9 => bW D (va_A (VW dA h ad x) sz) (VW dA h ad u9) t9) (va_A (VW dA h ad x) sz)) mc9 ms9 (va_A (VW dA h ad x) sz)) : Met l ⟨"SeriesVaultLaw", "isThere", "(LSeriesVault;II[J)I"⟩ [Cond.codeWith ⟨"SeriesVaultLaw", "isThere", "(LSeriesVault;II[J)I"⟩ method_18_code 5 (some FieldType.int) [(0, 17, 20, 35)]] { frames := fr + 1, cells := mc9, slots := ms9, locals := lo + 22 } (pC D dA [.ref h, .int p0, .int p1, .ref o] ([(o, .inl (dA 2, 1, .inr (.inl og)))] ++ (VW dA h ad x)) sz) (va_Qi (fun (r9 : Int32) (u9 : VS) => r9 = 0 ∧ F9 u9) (fun (u9 : VS) t9 => bW D (va_A ([(o, .inl (dA 2, 1, .inr (.inl og)))] ++ (VW dA h ad x)) sz) ([(o, .inl (dA 2, 1, .inr (.inl (va_up og 0 0))))] ++ (VW dA h ad u9)) t9) (va_A ([(o, .inl (dA 2, 1, .inr (.inl og)))] ++ (VW dA h ad x)) sz)) mc9 ms9 (va_A ([(o, .inl (dA 2, 1, .inr (.inl og)))] ++ (VW dA h ad x)) sz) := by
  refine mkW (y := ⟨"SeriesVaultLaw", "isThere", "(LSeriesVault;II[J)I"⟩) (cc := method_18_code) (maxL := 5) (av := [.ref h, .int p0, .int p1, .ref o]) (ws := [(o, .inl (dA 2, 1, .inr (.inl og)))] ++ (VW dA h ad x)) (sz := sz) (Qc := fun A => va_Qi (fun (r9 : Int32) (u9 : VS) => r9 = 0 ∧ F9 u9) (fun (u9 : VS) t9 => bW D A ([(o, .inl (dA 2, 1, .inr (.inl (va_up og 0 0))))] ++ (VW dA h ad u9)) t9) A) (by decide) (Nat.le_of_ble_eq_true rfl) ?_
  intro A p e s m below meth c ls hsz htab hB
  obtain ⟨hx, hb, hr, hml, hown, hin, hlk, hE, hK, hP, hD, hS, hA, hN, hl⟩ := hB
  have hown : s.vm.findClass "SeriesVaultLaw" = some m.cls := hown
  have hl : lv_has ls 5 [(0, .ref h), (1, .int p0), (2, .int p1), (3, .ref o)] := hl
  obtain ⟨H, hH⟩ : ∃ z, z = s.heap := ⟨_, rfl⟩
  have hP : va_P D vwCl ([(o, .inl (dA 2, 1, .inr (.inl og)))] ++ (VW dA h ad x)) H := by rw [hH]; exact hP
  have hS : va_S A s.heap H [] := by rw [hH]; exact hS
  rw [← hH]
  refine lv_aload_n hx hb d_SeriesVaultLaw_isThere_0 rfl (lv_at hl 3 rfl) ?_
  refine lv_iconst (v := 0) hx hb d_SeriesVaultLaw_isThere_1 (by decide) ?_
  refine lv_aload_n hx hb d_SeriesVaultLaw_isThere_2 rfl (lv_at hl 0 rfl) ?_
  refine lv_iload_n hx hb d_SeriesVaultLaw_isThere_3 rfl (lv_at hl 1 rfl) ?_
  refine lv_iload_n hx hb d_SeriesVaultLaw_isThere_4 rfl (lv_at hl 2 rfl) ?_
  have hPc : va_P D vwCl (VW dA h ad x) H := spP (wr := [(o, .inl (dA 2, 1, .inr (.inl og)))]) hP
  have hDc : va_D A (VW dA h ad x) := spD (wr := [(o, .inl (dA 2, 1, .inr (.inl og)))]) hD
  refine jkI (wr := [(o, .inl (dA 2, 1, .inr (.inl og)))]) (rnV (As := [.int p0, .int p1]) (rest := [.int 0, .ref o]) hx hb hml hown hE hK (hN _ _ hS) hPc hDc ((fun (_ : Launch) (_ : va_G) (_ : Nat → ClassId) (sz9 : Nat) (_ : Nat) (_ : Nat → Nat) (_ : VS) (_ : Int32) (_ : Int32) => hc9 sz9) l D dA H.size h ad x p0 p1) (q0 := 0) rfl rfl w401 w400 w402 w403 w277 rfl rfl ⟨⟨by decide, by decide⟩, rfl⟩ ⟨(by first | exact Nat.le_of_ble_eq_true rfl | (dsimp only; omega)), (by first | exact Nat.le_of_ble_eq_true rfl | (dsimp only; omega))⟩ rfl hl.1 rfl (by first | exact Nat.le_of_ble_eq_true rfl | (dsimp only; omega)) d_SeriesVaultLaw_isThere_5 ⟨(show 0 + mc9 ≤ mc9 by omega), (show 0 + ms9 ≤ ms9 by omega)⟩) hP hD hS hA (fun r1 u2 H locs hp9 hP hD hS => ?_)
  obtain ⟨u8, h9u⟩ : ∃ z9, z9 = u2 := ⟨_, rfl⟩
  subst h9u
  have hP : va_P D vwCl ([(o, .inl (dA 2, 1, .inr (.inl og)))] ++ (VW dA h ad u8)) H := hP
  have hD : va_D A ([(o, .inl (dA 2, 1, .inr (.inl og)))] ++ (VW dA h ad u8)) := hD
  obtain ⟨hp9, f_f_3⟩ := hp9
  replace hp9 : 0 = r1 := Eq.symm hp9
  subst hp9
  refine lv_if_eq hx hb d_SeriesVaultLaw_isThere_8 (tgt := 15) rfl (fun _ => ?_) (fun h9 => absurd (by decide) h9)
  refine lv_lconst (v := 0) hx hb d_SeriesVaultLaw_isThere_15 (by decide) ?_
  refine nlst (n := 1) hx hb hK hP hD hS (0) 2 rfl rfl (0) (by omega) (by decide) d_SeriesVaultLaw_isThere_16 (fun H locs hP hD hS => ?_)
  have hP : va_P D vwCl ([(o, .inl (dA 2, 1, .inr (.inl (va_up og 0 0))))] ++ (VW dA h ad u8)) H := hP
  have hD : va_D A ([(o, .inl (dA 2, 1, .inr (.inl (va_up og 0 0))))] ++ (VW dA h ad u8)) := hD
  refine lv_goto hx hb d_SeriesVaultLaw_isThere_17 (tgt := 24) rfl ?_
  refine lv_iconst (v := 0) hx hb d_SeriesVaultLaw_isThere_24 (by decide) ?_
  exact rfI hx hb hr hlk hS u8 ⟨rfl, f_f_3⟩ hP hD (show 0 + mc9 ≤ mc9 by omega) (show 0 + ms9 ≤ ms9 by omega) d_SeriesVaultLaw_isThere_25
set_option maxHeartbeats 4000000 in
set_option maxRecDepth 100000 in
theorem k8_isThere_1 (l : Launch) (D : va_G) (dA : Nat → ClassId) (sz : Nat) (h : Nat) (ad : Nat → Nat) (o : Nat) (og : Nat → Int64) (x : VS) (p0 : Int32) (p1 : Int32) (F9 : VS → Prop) (fr : Nat) (lo : Nat) (mc9 : Nat) (ms9 : Nat) (hc9 : ∀ sz : Nat, mX l ⟨"SeriesVault", "isThere", "(II)Z"⟩ [Cond.code ⟨"SeriesVault", "isThere", "(II)Z"⟩ prog_1_method_48_code 3 (some FieldType.boolean)] { frames := fr, cells := mc9, slots := ms9, locals := lo } (pC D dA [.ref h, .int p0, .int p1] (VW dA h ad x) sz) "java/lang/IndexOutOfBoundsException" (fun st9 t9 => va_F (va_A (VW dA h ad x) sz) st9 t9 ∧ ∃ u9 : VS, F9 u9 ∧ bW D (va_A (VW dA h ad x) sz) (VW dA h ad u9) t9) mc9 ms9 (va_A (VW dA h ad x) sz)) : Met l ⟨"SeriesVaultLaw", "isThere", "(LSeriesVault;II[J)I"⟩ [Cond.codeWith ⟨"SeriesVaultLaw", "isThere", "(LSeriesVault;II[J)I"⟩ method_18_code 5 (some FieldType.int) [(0, 17, 20, 35)]] { frames := fr + 1, cells := mc9, slots := ms9, locals := lo + 22 } (pC D dA [.ref h, .int p0, .int p1, .ref o] ([(o, .inl (dA 2, 1, .inr (.inl og)))] ++ (VW dA h ad x)) sz) (va_Qi (fun (r9 : Int32) (u9 : VS) => r9 = 1 ∧ F9 u9) (fun (u9 : VS) t9 => bW D (va_A ([(o, .inl (dA 2, 1, .inr (.inl og)))] ++ (VW dA h ad x)) sz) ([(o, .inl (dA 2, 1, .inr (.inl og)))] ++ (VW dA h ad u9)) t9) (va_A ([(o, .inl (dA 2, 1, .inr (.inl og)))] ++ (VW dA h ad x)) sz)) mc9 ms9 (va_A ([(o, .inl (dA 2, 1, .inr (.inl og)))] ++ (VW dA h ad x)) sz) := by
  refine mkW (y := ⟨"SeriesVaultLaw", "isThere", "(LSeriesVault;II[J)I"⟩) (cc := method_18_code) (maxL := 5) (av := [.ref h, .int p0, .int p1, .ref o]) (ws := [(o, .inl (dA 2, 1, .inr (.inl og)))] ++ (VW dA h ad x)) (sz := sz) (Qc := fun A => va_Qi (fun (r9 : Int32) (u9 : VS) => r9 = 1 ∧ F9 u9) (fun (u9 : VS) t9 => bW D A ([(o, .inl (dA 2, 1, .inr (.inl og)))] ++ (VW dA h ad u9)) t9) A) (by decide) (Nat.le_of_ble_eq_true rfl) ?_
  intro A p e s m below meth c ls hsz htab hB
  obtain ⟨hx, hb, hr, hml, hown, hin, hlk, hE, hK, hP, hD, hS, hA, hN, hl⟩ := hB
  have hown : s.vm.findClass "SeriesVaultLaw" = some m.cls := hown
  have hl : lv_has ls 5 [(0, .ref h), (1, .int p0), (2, .int p1), (3, .ref o)] := hl
  obtain ⟨H, hH⟩ : ∃ z, z = s.heap := ⟨_, rfl⟩
  have hP : va_P D vwCl ([(o, .inl (dA 2, 1, .inr (.inl og)))] ++ (VW dA h ad x)) H := by rw [hH]; exact hP
  have hS : va_S A s.heap H [] := by rw [hH]; exact hS
  rw [← hH]
  refine lv_aload_n hx hb d_SeriesVaultLaw_isThere_0 rfl (lv_at hl 3 rfl) ?_
  refine lv_iconst (v := 0) hx hb d_SeriesVaultLaw_isThere_1 (by decide) ?_
  refine lv_aload_n hx hb d_SeriesVaultLaw_isThere_2 rfl (lv_at hl 0 rfl) ?_
  refine lv_iload_n hx hb d_SeriesVaultLaw_isThere_3 rfl (lv_at hl 1 rfl) ?_
  refine lv_iload_n hx hb d_SeriesVaultLaw_isThere_4 rfl (lv_at hl 2 rfl) ?_
  refine xkV (S := VS) (F := F9) (w1 := fun u => VW dA h ad u) (wr := [(o, .inl (dA 2, 1, .inr (.inl og)))]) (As := [.int p0, .int p1]) (rest := [.int 0, .ref o]) hx hb hml hown hE hK (hN _ _ hS) (hc9 H.size) (q0 := 0) rfl rfl w401 w400 w402 w403 w277 rfl rfl ⟨⟨by decide, by decide⟩, rfl⟩ ⟨(by first | exact Nat.le_of_ble_eq_true rfl | (dsimp only; omega)), (by first | exact Nat.le_of_ble_eq_true rfl | (dsimp only; omega))⟩ rfl hl.1 rfl (by first | exact Nat.le_of_ble_eq_true rfl | (dsimp only; omega)) d_SeriesVaultLaw_isThere_5 ⟨(show 0 + mc9 ≤ mc9 by omega), (show 0 + ms9 ≤ ms9 by omega)⟩ hP hD hS hA (fun u2 xa1 ce H locs hf9 hP hD hS hce hcv hcl => ?_)
  have hP : va_P D vwCl ([(o, .inl (dA 2, 1, .inr (.inl og)))] ++ (VW dA h ad u2)) H := hP
  have hD : va_D A ([(o, .inl (dA 2, 1, .inr (.inl og)))] ++ (VW dA h ad u2)) := hD
  refine xCatch (E := "java/lang/IndexOutOfBoundsException") hown hE [] ⟨0, 17, 20, 35⟩ [] htab (fun _ h => absurd h List.not_mem_nil) (by decide) (by decide) w354 w222 hce hcv hcl ?_
  refine lv_astore hx hb d_SeriesVaultLaw_isThere_20 hl (by decide) rfl (fun ls hl => ?_)
  have hl : lv_has ls 5 [(4, .ref xa1), (0, .ref h), (1, .int p0), (2, .int p1), (3, .ref o)] := hl
  refine lv_iconst (v := 1) hx hb d_SeriesVaultLaw_isThere_22 (by decide) ?_
  exact rfI hx hb hr hlk hS u2 ⟨rfl, hf9⟩ hP hD (show 0 + mc9 ≤ mc9 by omega) (show 0 + ms9 ≤ ms9 by omega) d_SeriesVaultLaw_isThere_23
theorem d_SeriesVaultLaw_cell_8 : decode method_19_code 8 = .ok (.lastore, 1) := by decide +kernel
theorem d_SeriesVaultLaw_cell_9 : decode method_19_code 9 = .ok (.goto 7, 3) := by decide +kernel
theorem d_SeriesVaultLaw_cell_16 : decode method_19_code 16 = .ok (.iconst 0, 1) := by decide +kernel
theorem d_SeriesVaultLaw_cell_17 : decode method_19_code 17 = .ok (.ireturn, 1) := by decide +kernel
set_option maxHeartbeats 4000000 in
set_option maxRecDepth 100000 in
theorem k8_cell (l : Launch) (D : va_G) (dA : Nat → ClassId) (sz : Nat) (h : Nat) (ad : Nat → Nat) (o : Nat) (og : Nat → Int64) (x : VS) (p0 : Int32) (p1 : Int32) (v9 : Int64) (F9 : VS → Prop) (fr : Nat) (lo : Nat) (mc9 : Nat) (ms9 : Nat) (hc9 : ∀ sz : Nat, Met l ⟨"SeriesVault", "cell", "(II)J"⟩ [Cond.code ⟨"SeriesVault", "cell", "(II)J"⟩ prog_1_method_49_code 4 (some FieldType.long)] { frames := fr, cells := mc9, slots := ms9, locals := lo } (pC D dA [.ref h, .int p0, .int p1] (VW dA h ad x) sz) (va_Ql (fun (r9 : Int64) (u9 : VS) => r9 = v9 ∧ F9 u9) (fun (u9 : VS) t9 => bW D (va_A (VW dA h ad x) sz) (VW dA h ad u9) t9) (va_A (VW dA h ad x) sz)) mc9 ms9 (va_A (VW dA h ad x) sz)) : Met l ⟨"SeriesVaultLaw", "cell", "(LSeriesVault;II[J)I"⟩ [Cond.codeWith ⟨"SeriesVaultLaw", "cell", "(LSeriesVault;II[J)I"⟩ method_19_code 5 (some FieldType.int) [(0, 9, 12, 35)]] { frames := fr + 1, cells := mc9, slots := ms9, locals := lo + 23 } (pC D dA [.ref h, .int p0, .int p1, .ref o] ([(o, .inl (dA 2, 1, .inr (.inl og)))] ++ (VW dA h ad x)) sz) (va_Qi (fun (r9 : Int32) (u9 : VS) => r9 = 0 ∧ F9 u9) (fun (u9 : VS) t9 => bW D (va_A ([(o, .inl (dA 2, 1, .inr (.inl og)))] ++ (VW dA h ad x)) sz) ([(o, .inl (dA 2, 1, .inr (.inl (va_up og 0 v9))))] ++ (VW dA h ad u9)) t9) (va_A ([(o, .inl (dA 2, 1, .inr (.inl og)))] ++ (VW dA h ad x)) sz)) mc9 ms9 (va_A ([(o, .inl (dA 2, 1, .inr (.inl og)))] ++ (VW dA h ad x)) sz) := by
  refine mkW (y := ⟨"SeriesVaultLaw", "cell", "(LSeriesVault;II[J)I"⟩) (cc := method_19_code) (maxL := 5) (av := [.ref h, .int p0, .int p1, .ref o]) (ws := [(o, .inl (dA 2, 1, .inr (.inl og)))] ++ (VW dA h ad x)) (sz := sz) (Qc := fun A => va_Qi (fun (r9 : Int32) (u9 : VS) => r9 = 0 ∧ F9 u9) (fun (u9 : VS) t9 => bW D A ([(o, .inl (dA 2, 1, .inr (.inl (va_up og 0 v9))))] ++ (VW dA h ad u9)) t9) A) (by decide) (Nat.le_of_ble_eq_true rfl) ?_
  intro A p e s m below meth c ls hsz htab hB
  obtain ⟨hx, hb, hr, hml, hown, hin, hlk, hE, hK, hP, hD, hS, hA, hN, hl⟩ := hB
  have hown : s.vm.findClass "SeriesVaultLaw" = some m.cls := hown
  have hl : lv_has ls 5 [(0, .ref h), (1, .int p0), (2, .int p1), (3, .ref o)] := hl
  obtain ⟨H, hH⟩ : ∃ z, z = s.heap := ⟨_, rfl⟩
  have hP : va_P D vwCl ([(o, .inl (dA 2, 1, .inr (.inl og)))] ++ (VW dA h ad x)) H := by rw [hH]; exact hP
  have hS : va_S A s.heap H [] := by rw [hH]; exact hS
  rw [← hH]
  refine lv_aload_n hx hb d_SeriesVaultLaw_cell_0 rfl (lv_at hl 3 rfl) ?_
  refine lv_iconst (v := 0) hx hb d_SeriesVaultLaw_cell_1 (by decide) ?_
  refine lv_aload_n hx hb d_SeriesVaultLaw_cell_2 rfl (lv_at hl 0 rfl) ?_
  refine lv_iload_n hx hb d_SeriesVaultLaw_cell_3 rfl (lv_at hl 1 rfl) ?_
  refine lv_iload_n hx hb d_SeriesVaultLaw_cell_4 rfl (lv_at hl 2 rfl) ?_
  have hPc : va_P D vwCl (VW dA h ad x) H := spP (wr := [(o, .inl (dA 2, 1, .inr (.inl og)))]) hP
  have hDc : va_D A (VW dA h ad x) := spD (wr := [(o, .inl (dA 2, 1, .inr (.inl og)))]) hD
  refine jkL (wr := [(o, .inl (dA 2, 1, .inr (.inl og)))]) (rnV (As := [.int p0, .int p1]) (rest := [.int 0, .ref o]) hx hb hml hown hE hK (hN _ _ hS) hPc hDc ((fun (_ : Launch) (_ : va_G) (_ : Nat → ClassId) (sz9 : Nat) (_ : Nat) (_ : Nat → Nat) (_ : VS) (_ : Int32) (_ : Int32) => hc9 sz9) l D dA H.size h ad x p0 p1) (q0 := 0) rfl rfl w405 w404 w406 w407 w277 rfl rfl ⟨⟨by decide, by decide⟩, rfl⟩ ⟨(by first | exact Nat.le_of_ble_eq_true rfl | (dsimp only; omega)), (by first | exact Nat.le_of_ble_eq_true rfl | (dsimp only; omega))⟩ rfl hl.1 rfl (by first | exact Nat.le_of_ble_eq_true rfl | (dsimp only; omega)) d_SeriesVaultLaw_cell_5 ⟨(show 0 + mc9 ≤ mc9 by omega), (show 0 + ms9 ≤ ms9 by omega)⟩) hP hD hS hA (fun r1 u2 H locs hp9 hP hD hS => ?_)
  obtain ⟨u8, h9u⟩ : ∃ z9, z9 = u2 := ⟨_, rfl⟩
  subst h9u
  have hP : va_P D vwCl ([(o, .inl (dA 2, 1, .inr (.inl og)))] ++ (VW dA h ad u8)) H := hP
  have hD : va_D A ([(o, .inl (dA 2, 1, .inr (.inl og)))] ++ (VW dA h ad u8)) := hD
  obtain ⟨hp9, f_f_3⟩ := hp9
  replace hp9 : v9 = r1 := Eq.symm hp9
  subst hp9
  refine nlst (n := 1) hx hb hK hP hD hS (0) 2 rfl rfl (0) (by omega) (by decide) d_SeriesVaultLaw_cell_8 (fun H locs hP hD hS => ?_)
  have hP : va_P D vwCl ([(o, .inl (dA 2, 1, .inr (.inl (va_up og 0 v9))))] ++ (VW dA h ad u8)) H := hP
  have hD : va_D A ([(o, .inl (dA 2, 1, .inr (.inl (va_up og 0 v9))))] ++ (VW dA h ad u8)) := hD
  refine lv_goto hx hb d_SeriesVaultLaw_cell_9 (tgt := 16) rfl ?_
  refine lv_iconst (v := 0) hx hb d_SeriesVaultLaw_cell_16 (by decide) ?_
  exact rfI hx hb hr hlk hS u8 ⟨rfl, f_f_3⟩ hP hD (show 0 + mc9 ≤ mc9 by omega) (show 0 + ms9 ≤ ms9 by omega) d_SeriesVaultLaw_cell_17
set_option maxHeartbeats 4000000 in
set_option maxRecDepth 100000 in
theorem k8_cell_1 (l : Launch) (D : va_G) (dA : Nat → ClassId) (sz : Nat) (h : Nat) (ad : Nat → Nat) (o : Nat) (og : Nat → Int64) (x : VS) (p0 : Int32) (p1 : Int32) (F9 : VS → Prop) (fr : Nat) (lo : Nat) (mc9 : Nat) (ms9 : Nat) (hc9 : ∀ sz : Nat, mX l ⟨"SeriesVault", "cell", "(II)J"⟩ [Cond.code ⟨"SeriesVault", "cell", "(II)J"⟩ prog_1_method_49_code 4 (some FieldType.long)] { frames := fr, cells := mc9, slots := ms9, locals := lo } (pC D dA [.ref h, .int p0, .int p1] (VW dA h ad x) sz) "java/lang/IndexOutOfBoundsException" (fun st9 t9 => va_F (va_A (VW dA h ad x) sz) st9 t9 ∧ ∃ u9 : VS, F9 u9 ∧ bW D (va_A (VW dA h ad x) sz) (VW dA h ad u9) t9) mc9 ms9 (va_A (VW dA h ad x) sz)) : Met l ⟨"SeriesVaultLaw", "cell", "(LSeriesVault;II[J)I"⟩ [Cond.codeWith ⟨"SeriesVaultLaw", "cell", "(LSeriesVault;II[J)I"⟩ method_19_code 5 (some FieldType.int) [(0, 9, 12, 35)]] { frames := fr + 1, cells := mc9, slots := ms9, locals := lo + 23 } (pC D dA [.ref h, .int p0, .int p1, .ref o] ([(o, .inl (dA 2, 1, .inr (.inl og)))] ++ (VW dA h ad x)) sz) (va_Qi (fun (r9 : Int32) (u9 : VS) => r9 = 1 ∧ F9 u9) (fun (u9 : VS) t9 => bW D (va_A ([(o, .inl (dA 2, 1, .inr (.inl og)))] ++ (VW dA h ad x)) sz) ([(o, .inl (dA 2, 1, .inr (.inl og)))] ++ (VW dA h ad u9)) t9) (va_A ([(o, .inl (dA 2, 1, .inr (.inl og)))] ++ (VW dA h ad x)) sz)) mc9 ms9 (va_A ([(o, .inl (dA 2, 1, .inr (.inl og)))] ++ (VW dA h ad x)) sz) := by
  refine mkW (y := ⟨"SeriesVaultLaw", "cell", "(LSeriesVault;II[J)I"⟩) (cc := method_19_code) (maxL := 5) (av := [.ref h, .int p0, .int p1, .ref o]) (ws := [(o, .inl (dA 2, 1, .inr (.inl og)))] ++ (VW dA h ad x)) (sz := sz) (Qc := fun A => va_Qi (fun (r9 : Int32) (u9 : VS) => r9 = 1 ∧ F9 u9) (fun (u9 : VS) t9 => bW D A ([(o, .inl (dA 2, 1, .inr (.inl og)))] ++ (VW dA h ad u9)) t9) A) (by decide) (Nat.le_of_ble_eq_true rfl) ?_
  intro A p e s m below meth c ls hsz htab hB
  obtain ⟨hx, hb, hr, hml, hown, hin, hlk, hE, hK, hP, hD, hS, hA, hN, hl⟩ := hB
  have hown : s.vm.findClass "SeriesVaultLaw" = some m.cls := hown
  have hl : lv_has ls 5 [(0, .ref h), (1, .int p0), (2, .int p1), (3, .ref o)] := hl
  obtain ⟨H, hH⟩ : ∃ z, z = s.heap := ⟨_, rfl⟩
  have hP : va_P D vwCl ([(o, .inl (dA 2, 1, .inr (.inl og)))] ++ (VW dA h ad x)) H := by rw [hH]; exact hP
  have hS : va_S A s.heap H [] := by rw [hH]; exact hS
  rw [← hH]
  refine lv_aload_n hx hb d_SeriesVaultLaw_cell_0 rfl (lv_at hl 3 rfl) ?_
  refine lv_iconst (v := 0) hx hb d_SeriesVaultLaw_cell_1 (by decide) ?_
  refine lv_aload_n hx hb d_SeriesVaultLaw_cell_2 rfl (lv_at hl 0 rfl) ?_
  refine lv_iload_n hx hb d_SeriesVaultLaw_cell_3 rfl (lv_at hl 1 rfl) ?_
  refine lv_iload_n hx hb d_SeriesVaultLaw_cell_4 rfl (lv_at hl 2 rfl) ?_
  refine xkV (S := VS) (F := F9) (w1 := fun u => VW dA h ad u) (wr := [(o, .inl (dA 2, 1, .inr (.inl og)))]) (As := [.int p0, .int p1]) (rest := [.int 0, .ref o]) hx hb hml hown hE hK (hN _ _ hS) (hc9 H.size) (q0 := 0) rfl rfl w405 w404 w406 w407 w277 rfl rfl ⟨⟨by decide, by decide⟩, rfl⟩ ⟨(by first | exact Nat.le_of_ble_eq_true rfl | (dsimp only; omega)), (by first | exact Nat.le_of_ble_eq_true rfl | (dsimp only; omega))⟩ rfl hl.1 rfl (by first | exact Nat.le_of_ble_eq_true rfl | (dsimp only; omega)) d_SeriesVaultLaw_cell_5 ⟨(show 0 + mc9 ≤ mc9 by omega), (show 0 + ms9 ≤ ms9 by omega)⟩ hP hD hS hA (fun u2 xa1 ce H locs hf9 hP hD hS hce hcv hcl => ?_)
  have hP : va_P D vwCl ([(o, .inl (dA 2, 1, .inr (.inl og)))] ++ (VW dA h ad u2)) H := hP
  have hD : va_D A ([(o, .inl (dA 2, 1, .inr (.inl og)))] ++ (VW dA h ad u2)) := hD
  refine xCatch (E := "java/lang/IndexOutOfBoundsException") hown hE [] ⟨0, 9, 12, 35⟩ [] htab (fun _ h => absurd h List.not_mem_nil) (by decide) (by decide) w354 w222 hce hcv hcl ?_
  refine lv_astore hx hb d_SeriesVaultLaw_cell_12 hl (by decide) rfl (fun ls hl => ?_)
  have hl : lv_has ls 5 [(4, .ref xa1), (0, .ref h), (1, .int p0), (2, .int p1), (3, .ref o)] := hl
  refine lv_iconst (v := 1) hx hb d_SeriesVaultLaw_cell_14 (by decide) ?_
  exact rfI hx hb hr hlk hS u2 ⟨rfl, hf9⟩ hP hD (show 0 + mc9 ≤ mc9 by omega) (show 0 + ms9 ≤ ms9 by omega) d_SeriesVaultLaw_cell_15
/-! A method with a table of exceptions, where strings are. -/
theorem mkWs {l : Launch} {y : MethodName} {cc : ByteArray} {maxL : Nat} {ret : Option FieldType} {hh : List (Nat × Nat × Nat × Nat)} {rm : Room} {D : va_G} {dA : Nat → ClassId} {e0 mi : Nat} {kA vA : Nat → Nat} {fm : Nat} {av : List Value} {ws : va_W} {sz mc ms : Nat} {Qc : (Nat → Prop) → Array Value → State → Outcome → State → Prop}
    (hy : plainName y.cls = true) (hlen : (lg_sl av).length ≤ maxL)
    (body : ∀ (A : Nat → Prop) (p : Program) (e : Env) (s : State) (m : MethodId) (below : List Frame) (meth : Method) (c : Code) (ls : Array Slot), s.heap.size = sz → c.exceptionTable.toList = tableOf hh → zZ e0 A s s.heap → zT e0 A s s.heap → va_Mi "[Ljava/lang/Object;" mi s → qS kA vA fm A s s.heap → bS p s m meth c cc ret maxL y D dA ws A av ls →
      W p l e rm s m av.toArray below meth c s.heap [] 0 0 (MQ below (Qc A) av.toArray s mc ms A) (F0 m 0 ls [])) :
    Met l y [Cond.codeWith y cc maxL ret hh] rm (pCs D dA e0 mi kA vA fm av ws sz) (Qc (va_A ws sz)) mc ms (va_A ws sz) := by
  refine va_MetW (cc := cc) (maxL := maxL) (ret := ret) (hh := hh) hy rfl ?_
  intro p e s m args below meth c s₁ B hml hv
  obtain ⟨⟨⟨⟨rfl, hsz, hP, hK, hD0, hE⟩, hZ, hT, hn⟩, hMi⟩, hQ, hn2⟩ := hv
  have hA : ∀ q : Nat, s.heap.size ≤ q → va_A ws sz q := fun q h => by rw [← hsz]; exact Or.inr h
  have hl := lv_entry av (n := maxL) hlen
  rw [lg_entry_eq]
  exact body (va_A ws sz) p e s m below meth c _ hsz (tabOf B (atoms_spec (ws := [Cond.codeWith y cc maxL ret hh]) B.pre _ List.mem_cons_self)) (zZ_in hP hsz hZ) (zT_in hn hT) hMi ⟨S_in hn2 hQ.1, Z_in hP hsz hQ.2.1, Z_in hP hsz hQ.2.2.1, hQ.2.2.2⟩ ⟨B.exec, B.bytes, B.returns, hml, findClass_of_methodNamed B.named, (name_of_methodNamed B.named B.method).1, B.notSynchronized, hE, hK, hP, hD0.self, va_S.rf, hA, fun H L h => by subst hsz; exact sK_of hP h, hl⟩
set_option maxHeartbeats 4000000 in
set_option maxRecDepth 100000 in
theorem k8_ask (l : Launch) (D : va_G) (dA : Nat → ClassId) (sz : Nat) (e0 mi : Nat) (kA vA : Nat → Nat) (fm : Nat) (h : Nat) (ad : Nat → Nat) (o : Nat) (og : Nat → Int64) (x : VS) (p0 : Int64) (p1 : Int64) (p2 : Int32) (v9 : Int32) (F9 : VS → Prop) (fr : Nat) (lo : Nat) (mc9 : Nat) (ms9 : Nat) (hc9 : ∀ sz : Nat, Met l ⟨"SeriesVault", "ask", "(JJI)I"⟩ [Cond.code ⟨"SeriesVault", "ask", "(JJI)I"⟩ prog_1_method_45_code 8 (some FieldType.int)] { frames := fr, cells := mc9, slots := ms9, locals := lo } (pCs D dA e0 mi kA vA fm [.ref h, .long p0, .long p1, .int p2] (VW dA h ad x) sz) (va_Qi (fun (r9 : Int32) (u9 : VS) => r9 = v9 ∧ F9 u9) (fun (u9 : VS) t9 => bW D (va_A (VW dA h ad x) sz) (VW dA h ad u9) t9) (va_A (VW dA h ad x) sz)) mc9 ms9 (va_A (VW dA h ad x) sz)) : Met l ⟨"SeriesVaultLaw", "ask", "(LSeriesVault;JJI[J)I"⟩ [Cond.codeWith ⟨"SeriesVaultLaw", "ask", "(LSeriesVault;JJI[J)I"⟩ method_16_code 8 (some FieldType.int) [(0, 13, 16, 29), (0, 13, 20, 19)]] { frames := fr + 1, cells := mc9, slots := ms9, locals := lo + 27 } (pCs D dA e0 mi kA vA fm [.ref h, .long p0, .long p1, .int p2, .ref o] ([(o, .inl (dA 2, 1, .inr (.inl og)))] ++ (VW dA h ad x)) sz) (va_Qi (fun (r9 : Int32) (u9 : VS) => r9 = 0 ∧ F9 u9) (fun (u9 : VS) t9 => bW D (va_A ([(o, .inl (dA 2, 1, .inr (.inl og)))] ++ (VW dA h ad x)) sz) ([(o, .inl (dA 2, 1, .inr (.inl (va_up og 0 (v9.toInt64)))))] ++ (VW dA h ad u9)) t9) (va_A ([(o, .inl (dA 2, 1, .inr (.inl og)))] ++ (VW dA h ad x)) sz)) mc9 ms9 (va_A ([(o, .inl (dA 2, 1, .inr (.inl og)))] ++ (VW dA h ad x)) sz) := by
  refine mkWs (y := ⟨"SeriesVaultLaw", "ask", "(LSeriesVault;JJI[J)I"⟩) (cc := method_16_code) (maxL := 8) (av := [.ref h, .long p0, .long p1, .int p2, .ref o]) (ws := [(o, .inl (dA 2, 1, .inr (.inl og)))] ++ (VW dA h ad x)) (sz := sz) (Qc := fun A => va_Qi (fun (r9 : Int32) (u9 : VS) => r9 = 0 ∧ F9 u9) (fun (u9 : VS) t9 => bW D A ([(o, .inl (dA 2, 1, .inr (.inl (va_up og 0 (v9.toInt64)))))] ++ (VW dA h ad u9)) t9) A) (by decide) (Nat.le_of_ble_eq_true rfl) ?_
  intro A p e s m below meth c ls hsz htab hZ hT hM hQ hB
  obtain ⟨hx, hb, hr, hml, hown, hin, hlk, hE, hK, hP, hD, hS, hA, hN, hl⟩ := hB
  have hown : s.vm.findClass "SeriesVaultLaw" = some m.cls := hown
  have hl : lv_has ls 8 [(0, .ref h), (1, .long p0), (3, .long p1), (5, .int p2), (6, .ref o)] := hl
  obtain ⟨H, hH⟩ : ∃ z, z = s.heap := ⟨_, rfl⟩
  have hP : va_P D vwCl ([(o, .inl (dA 2, 1, .inr (.inl og)))] ++ (VW dA h ad x)) H := by rw [hH]; exact hP
  have hS : va_S A s.heap H [] := by rw [hH]; exact hS
  rw [← hH]
  refine lv_aload hx hb d_SeriesVaultLaw_ask_0 (lv_at hl 4 rfl) ?_
  refine lv_iconst (v := 0) hx hb d_SeriesVaultLaw_ask_2 (by decide) ?_
  refine lv_aload_n hx hb d_SeriesVaultLaw_ask_3 rfl (lv_at hl 0 rfl) ?_
  refine lv_lload_n hx hb d_SeriesVaultLaw_ask_4 rfl (lv_at hl 1 rfl) ?_
  refine lv_lload_n hx hb d_SeriesVaultLaw_ask_5 rfl (lv_at hl 2 rfl) ?_
  refine lv_iload hx hb d_SeriesVaultLaw_ask_6 (lv_at hl 3 rfl) ?_
  have hPc : va_P D vwCl (VW dA h ad x) H := spP (wr := [(o, .inl (dA 2, 1, .inr (.inl og)))]) hP
  have hDc : va_D A (VW dA h ad x) := spD (wr := [(o, .inl (dA 2, 1, .inr (.inl og)))]) hD
  refine jkI (wr := [(o, .inl (dA 2, 1, .inr (.inl og)))]) (rnVs (As := [.long p0, .long p1, .int p2]) (rest := [.int 0, .ref o]) hx hb hml hown hE hK hZ hT hM hQ hS (hN _ _ hS) hPc hDc ((fun (_ : Launch) (_ : va_G) (_ : Nat → ClassId) (sz9 : Nat) (_ _ : Nat) (_ _ : Nat → Nat) (_ : Nat) (_ : Nat) (_ : Nat → Nat) (_ : VS) (_ : Int64) (_ : Int64) (_ : Int32) => hc9 sz9) l D dA H.size e0 mi kA vA fm h ad x p0 p1 p2) (q0 := 0) rfl rfl w707 w706 w708 w709 w277 rfl rfl ⟨⟨by decide, by decide⟩, rfl⟩ ⟨(by first | exact Nat.le_of_ble_eq_true rfl | (dsimp only; omega)), (by first | exact Nat.le_of_ble_eq_true rfl | (dsimp only; omega))⟩ rfl hl.1 rfl (by first | exact Nat.le_of_ble_eq_true rfl | (dsimp only; omega)) d_SeriesVaultLaw_ask_8 ⟨(show 0 + mc9 ≤ mc9 by omega), (show 0 + ms9 ≤ ms9 by omega)⟩) hP hD hS hA (fun r1 u2 H locs hp9 hP hD hS => ?_)
  obtain ⟨u8, h9u⟩ : ∃ z9, z9 = u2 := ⟨_, rfl⟩
  subst h9u
  have hP : va_P D vwCl ([(o, .inl (dA 2, 1, .inr (.inl og)))] ++ (VW dA h ad u8)) H := hP
  have hD : va_D A ([(o, .inl (dA 2, 1, .inr (.inl og)))] ++ (VW dA h ad u8)) := hD
  obtain ⟨hp9, f_f_3⟩ := hp9
  replace hp9 : v9 = r1 := Eq.symm hp9
  subst hp9
  refine lv_i2l hx hb d_SeriesVaultLaw_ask_11 rfl ?_
  refine nlst (n := 1) hx hb hK hP hD hS (0) 2 rfl rfl (0) (by omega) (by decide) d_SeriesVaultLaw_ask_12 (fun H locs hP hD hS => ?_)
  have hP : va_P D vwCl ([(o, .inl (dA 2, 1, .inr (.inl (va_up og 0 v9.toInt64))))] ++ (VW dA h ad u8)) H := hP
  have hD : va_D A ([(o, .inl (dA 2, 1, .inr (.inl (va_up og 0 v9.toInt64))))] ++ (VW dA h ad u8)) := hD
  refine lv_goto hx hb d_SeriesVaultLaw_ask_13 (tgt := 24) rfl ?_
  refine lv_iconst (v := 0) hx hb d_SeriesVaultLaw_ask_24 (by decide) ?_
  exact rfI hx hb hr hlk hS u8 ⟨rfl, f_f_3⟩ hP hD (show 0 + mc9 ≤ mc9 by omega) (show 0 + ms9 ≤ ms9 by omega) d_SeriesVaultLaw_ask_25
end
section
set_option maxHeartbeats 4000000 in
set_option maxRecDepth 100000 in
theorem k8_count (l : Launch) (D : va_G) (dA : Nat → ClassId) (sz : Nat) (h : Nat) (ad : Nat → Nat) (o : Nat) (og : Nat → Int64) (x : VS) (p0 : Int32) (v9 : Int32) (F9 : VS → Prop) (fr : Nat) (lo : Nat) (mc9 : Nat) (ms9 : Nat) (hc9 : ∀ sz : Nat, Met l ⟨"SeriesVault", "count", "(I)I"⟩ [Cond.code ⟨"SeriesVault", "count", "(I)I"⟩ prog_1_method_43_code 2 (some FieldType.int)] { frames := fr, cells := mc9, slots := ms9, locals := lo } (pC D dA [.ref h, .int p0] (VW dA h ad x) sz) (va_Qi (fun (r9 : Int32) (u9 : VS) => r9 = v9 ∧ F9 u9) (fun (u9 : VS) t9 => bW D (va_A (VW dA h ad x) sz) (VW dA h ad u9) t9) (va_A (VW dA h ad x) sz)) mc9 ms9 (va_A (VW dA h ad x) sz)) : Met l ⟨"SeriesVaultLaw", "count", "(LSeriesVault;I[J)I"⟩ [Cond.codeWith ⟨"SeriesVaultLaw", "count", "(LSeriesVault;I[J)I"⟩ method_20_code 4 (some FieldType.int) [(0, 9, 12, 29), (0, 9, 15, 19)]] { frames := fr + 1, cells := mc9, slots := ms9, locals := lo + 21 } (pC D dA [.ref h, .int p0, .ref o] ([(o, .inl (dA 2, 1, .inr (.inl og)))] ++ (VW dA h ad x)) sz) (va_Qi (fun (r9 : Int32) (u9 : VS) => r9 = 0 ∧ F9 u9) (fun (u9 : VS) t9 => bW D (va_A ([(o, .inl (dA 2, 1, .inr (.inl og)))] ++ (VW dA h ad x)) sz) ([(o, .inl (dA 2, 1, .inr (.inl (va_up og 0 (v9.toInt64)))))] ++ (VW dA h ad u9)) t9) (va_A ([(o, .inl (dA 2, 1, .inr (.inl og)))] ++ (VW dA h ad x)) sz)) mc9 ms9 (va_A ([(o, .inl (dA 2, 1, .inr (.inl og)))] ++ (VW dA h ad x)) sz) := by
  refine mkW (y := ⟨"SeriesVaultLaw", "count", "(LSeriesVault;I[J)I"⟩) (cc := method_20_code) (maxL := 4) (av := [.ref h, .int p0, .ref o]) (ws := [(o, .inl (dA 2, 1, .inr (.inl og)))] ++ (VW dA h ad x)) (sz := sz) (Qc := fun A => va_Qi (fun (r9 : Int32) (u9 : VS) => r9 = 0 ∧ F9 u9) (fun (u9 : VS) t9 => bW D A ([(o, .inl (dA 2, 1, .inr (.inl (va_up og 0 (v9.toInt64)))))] ++ (VW dA h ad u9)) t9) A) (by decide) (Nat.le_of_ble_eq_true rfl) ?_
  intro A p e s m below meth c ls hsz htab hB
  obtain ⟨hx, hb, hr, hml, hown, hin, hlk, hE, hK, hP, hD, hS, hA, hN, hl⟩ := hB
  have hown : s.vm.findClass "SeriesVaultLaw" = some m.cls := hown
  have hl : lv_has ls 4 [(0, .ref h), (1, .int p0), (2, .ref o)] := hl
  obtain ⟨H, hH⟩ : ∃ z, z = s.heap := ⟨_, rfl⟩
  have hP : va_P D vwCl ([(o, .inl (dA 2, 1, .inr (.inl og)))] ++ (VW dA h ad x)) H := by rw [hH]; exact hP
  have hS : va_S A s.heap H [] := by rw [hH]; exact hS
  rw [← hH]
  refine lv_aload_n hx hb d_SeriesVaultLaw_count_0 rfl (lv_at hl 2 rfl) ?_
  refine lv_iconst (v := 0) hx hb d_SeriesVaultLaw_count_1 (by decide) ?_
  refine lv_aload_n hx hb d_SeriesVaultLaw_count_2 rfl (lv_at hl 0 rfl) ?_
  refine lv_iload_n hx hb d_SeriesVaultLaw_count_3 rfl (lv_at hl 1 rfl) ?_
  have hPc : va_P D vwCl (VW dA h ad x) H := spP (wr := [(o, .inl (dA 2, 1, .inr (.inl og)))]) hP
  have hDc : va_D A (VW dA h ad x) := spD (wr := [(o, .inl (dA 2, 1, .inr (.inl og)))]) hD
  refine jkI (wr := [(o, .inl (dA 2, 1, .inr (.inl og)))]) (rnV (As := [.int p0]) (rest := [.int 0, .ref o]) hx hb hml hown hE hK (hN _ _ hS) hPc hDc ((fun (_ : Launch) (_ : va_G) (_ : Nat → ClassId) (sz9 : Nat) (_ : Nat) (_ : Nat → Nat) (_ : VS) (_ : Int32) => hc9 sz9) l D dA H.size h ad x p0) (q0 := 0) rfl rfl w703 w702 w704 w705 w277 rfl rfl ⟨⟨by decide, by decide⟩, rfl⟩ ⟨(by first | exact Nat.le_of_ble_eq_true rfl | (dsimp only; omega)), (by first | exact Nat.le_of_ble_eq_true rfl | (dsimp only; omega))⟩ rfl hl.1 rfl (by first | exact Nat.le_of_ble_eq_true rfl | (dsimp only; omega)) d_SeriesVaultLaw_count_4 ⟨(show 0 + mc9 ≤ mc9 by omega), (show 0 + ms9 ≤ ms9 by omega)⟩) hP hD hS hA (fun r1 u2 H locs hp9 hP hD hS => ?_)
  obtain ⟨u8, h9u⟩ : ∃ z9, z9 = u2 := ⟨_, rfl⟩
  subst h9u
  have hP : va_P D vwCl ([(o, .inl (dA 2, 1, .inr (.inl og)))] ++ (VW dA h ad u8)) H := hP
  have hD : va_D A ([(o, .inl (dA 2, 1, .inr (.inl og)))] ++ (VW dA h ad u8)) := hD
  obtain ⟨hp9, f_f_3⟩ := hp9
  replace hp9 : v9 = r1 := Eq.symm hp9
  subst hp9
  refine lv_i2l hx hb d_SeriesVaultLaw_count_7 rfl ?_
  refine nlst (n := 1) hx hb hK hP hD hS (0) 2 rfl rfl (0) (by omega) (by decide) d_SeriesVaultLaw_count_8 (fun H locs hP hD hS => ?_)
  have hP : va_P D vwCl ([(o, .inl (dA 2, 1, .inr (.inl (va_up og 0 v9.toInt64))))] ++ (VW dA h ad u8)) H := hP
  have hD : va_D A ([(o, .inl (dA 2, 1, .inr (.inl (va_up og 0 v9.toInt64))))] ++ (VW dA h ad u8)) := hD
  refine lv_goto hx hb d_SeriesVaultLaw_count_9 (tgt := 18) rfl ?_
  refine lv_iconst (v := 0) hx hb d_SeriesVaultLaw_count_18 (by decide) ?_
  exact rfI hx hb hr hlk hS u8 ⟨rfl, f_f_3⟩ hP hD (show 0 + mc9 ≤ mc9 by omega) (show 0 + ms9 ≤ ms9 by omega) d_SeriesVaultLaw_count_19
theorem d_SeriesVaultLaw_count_12 : decode method_20_code 12 = .ok (.astore_n 3, 1) := by decide +kernel
theorem d_SeriesVaultLaw_count_13 : decode method_20_code 13 = .ok (.iconst 1, 1) := by decide +kernel
theorem d_SeriesVaultLaw_count_14 : decode method_20_code 14 = .ok (.ireturn, 1) := by decide +kernel
set_option maxHeartbeats 4000000 in
set_option maxRecDepth 100000 in
theorem k8_count_1 (l : Launch) (D : va_G) (dA : Nat → ClassId) (sz : Nat) (h : Nat) (ad : Nat → Nat) (o : Nat) (og : Nat → Int64) (x : VS) (p0 : Int32) (F9 : VS → Prop) (fr : Nat) (lo : Nat) (mc9 : Nat) (ms9 : Nat) (hc9 : ∀ sz : Nat, mX l ⟨"SeriesVault", "count", "(I)I"⟩ [Cond.code ⟨"SeriesVault", "count", "(I)I"⟩ prog_1_method_43_code 2 (some FieldType.int)] { frames := fr, cells := mc9, slots := ms9, locals := lo } (pC D dA [.ref h, .int p0] (VW dA h ad x) sz) "java/lang/IllegalStateException" (fun st9 t9 => va_F (va_A (VW dA h ad x) sz) st9 t9 ∧ ∃ u9 : VS, F9 u9 ∧ bW D (va_A (VW dA h ad x) sz) (VW dA h ad u9) t9) mc9 ms9 (va_A (VW dA h ad x) sz)) : Met l ⟨"SeriesVaultLaw", "count", "(LSeriesVault;I[J)I"⟩ [Cond.codeWith ⟨"SeriesVaultLaw", "count", "(LSeriesVault;I[J)I"⟩ method_20_code 4 (some FieldType.int) [(0, 9, 12, 29), (0, 9, 15, 19)]] { frames := fr + 1, cells := mc9, slots := ms9, locals := lo + 21 } (pC D dA [.ref h, .int p0, .ref o] ([(o, .inl (dA 2, 1, .inr (.inl og)))] ++ (VW dA h ad x)) sz) (va_Qi (fun (r9 : Int32) (u9 : VS) => r9 = 1 ∧ F9 u9) (fun (u9 : VS) t9 => bW D (va_A ([(o, .inl (dA 2, 1, .inr (.inl og)))] ++ (VW dA h ad x)) sz) ([(o, .inl (dA 2, 1, .inr (.inl og)))] ++ (VW dA h ad u9)) t9) (va_A ([(o, .inl (dA 2, 1, .inr (.inl og)))] ++ (VW dA h ad x)) sz)) mc9 ms9 (va_A ([(o, .inl (dA 2, 1, .inr (.inl og)))] ++ (VW dA h ad x)) sz) := by
  refine mkW (y := ⟨"SeriesVaultLaw", "count", "(LSeriesVault;I[J)I"⟩) (cc := method_20_code) (maxL := 4) (av := [.ref h, .int p0, .ref o]) (ws := [(o, .inl (dA 2, 1, .inr (.inl og)))] ++ (VW dA h ad x)) (sz := sz) (Qc := fun A => va_Qi (fun (r9 : Int32) (u9 : VS) => r9 = 1 ∧ F9 u9) (fun (u9 : VS) t9 => bW D A ([(o, .inl (dA 2, 1, .inr (.inl og)))] ++ (VW dA h ad u9)) t9) A) (by decide) (Nat.le_of_ble_eq_true rfl) ?_
  intro A p e s m below meth c ls hsz htab hB
  obtain ⟨hx, hb, hr, hml, hown, hin, hlk, hE, hK, hP, hD, hS, hA, hN, hl⟩ := hB
  have hown : s.vm.findClass "SeriesVaultLaw" = some m.cls := hown
  have hl : lv_has ls 4 [(0, .ref h), (1, .int p0), (2, .ref o)] := hl
  obtain ⟨H, hH⟩ : ∃ z, z = s.heap := ⟨_, rfl⟩
  have hP : va_P D vwCl ([(o, .inl (dA 2, 1, .inr (.inl og)))] ++ (VW dA h ad x)) H := by rw [hH]; exact hP
  have hS : va_S A s.heap H [] := by rw [hH]; exact hS
  rw [← hH]
  refine lv_aload_n hx hb d_SeriesVaultLaw_count_0 rfl (lv_at hl 2 rfl) ?_
  refine lv_iconst (v := 0) hx hb d_SeriesVaultLaw_count_1 (by decide) ?_
  refine lv_aload_n hx hb d_SeriesVaultLaw_count_2 rfl (lv_at hl 0 rfl) ?_
  refine lv_iload_n hx hb d_SeriesVaultLaw_count_3 rfl (lv_at hl 1 rfl) ?_
  refine xkV (S := VS) (F := F9) (w1 := fun u => VW dA h ad u) (wr := [(o, .inl (dA 2, 1, .inr (.inl og)))]) (As := [.int p0]) (rest := [.int 0, .ref o]) hx hb hml hown hE hK (hN _ _ hS) (hc9 H.size) (q0 := 0) rfl rfl w703 w702 w704 w705 w277 rfl rfl ⟨⟨by decide, by decide⟩, rfl⟩ ⟨(by first | exact Nat.le_of_ble_eq_true rfl | (dsimp only; omega)), (by first | exact Nat.le_of_ble_eq_true rfl | (dsimp only; omega))⟩ rfl hl.1 rfl (by first | exact Nat.le_of_ble_eq_true rfl | (dsimp only; omega)) d_SeriesVaultLaw_count_4 ⟨(show 0 + mc9 ≤ mc9 by omega), (show 0 + ms9 ≤ ms9 by omega)⟩ hP hD hS hA (fun u2 xa1 ce H locs hf9 hP hD hS hce hcv hcl => ?_)
  have hP : va_P D vwCl ([(o, .inl (dA 2, 1, .inr (.inl og)))] ++ (VW dA h ad u2)) H := hP
  have hD : va_D A ([(o, .inl (dA 2, 1, .inr (.inl og)))] ++ (VW dA h ad u2)) := hD
  refine xCatch (E := "java/lang/IllegalStateException") hown hE [] ⟨0, 9, 12, 29⟩ [⟨0, 9, 15, 19⟩] htab (fun _ h => absurd h List.not_mem_nil) (by decide) (by decide) w363 w289 hce hcv hcl ?_
  refine lv_astore_n hx hb d_SeriesVaultLaw_count_12 rfl hl (by decide) rfl (fun ls hl => ?_)
  have hl : lv_has ls 4 [(3, .ref xa1), (0, .ref h), (1, .int p0), (2, .ref o)] := hl
  refine lv_iconst (v := 1) hx hb d_SeriesVaultLaw_count_13 (by decide) ?_
  exact rfI hx hb hr hlk hS u2 ⟨rfl, hf9⟩ hP hD (show 0 + mc9 ≤ mc9 by omega) (show 0 + ms9 ≤ ms9 by omega) d_SeriesVaultLaw_count_14
set_option maxHeartbeats 4000000 in
set_option maxRecDepth 100000 in
theorem k8_count_2 (l : Launch) (D : va_G) (dA : Nat → ClassId) (sz : Nat) (h : Nat) (ad : Nat → Nat) (o : Nat) (og : Nat → Int64) (x : VS) (p0 : Int32) (F9 : VS → Prop) (fr : Nat) (lo : Nat) (mc9 : Nat) (ms9 : Nat) (hc9 : ∀ sz : Nat, mX l ⟨"SeriesVault", "count", "(I)I"⟩ [Cond.code ⟨"SeriesVault", "count", "(I)I"⟩ prog_1_method_43_code 2 (some FieldType.int)] { frames := fr, cells := mc9, slots := ms9, locals := lo } (pC D dA [.ref h, .int p0] (VW dA h ad x) sz) "java/lang/IllegalArgumentException" (fun st9 t9 => va_F (va_A (VW dA h ad x) sz) st9 t9 ∧ ∃ u9 : VS, F9 u9 ∧ bW D (va_A (VW dA h ad x) sz) (VW dA h ad u9) t9) mc9 ms9 (va_A (VW dA h ad x) sz)) : Met l ⟨"SeriesVaultLaw", "count", "(LSeriesVault;I[J)I"⟩ [Cond.codeWith ⟨"SeriesVaultLaw", "count", "(LSeriesVault;I[J)I"⟩ method_20_code 4 (some FieldType.int) [(0, 9, 12, 29), (0, 9, 15, 19)]] { frames := fr + 1, cells := mc9, slots := ms9, locals := lo + 21 } (pC D dA [.ref h, .int p0, .ref o] ([(o, .inl (dA 2, 1, .inr (.inl og)))] ++ (VW dA h ad x)) sz) (va_Qi (fun (r9 : Int32) (u9 : VS) => r9 = 2 ∧ F9 u9) (fun (u9 : VS) t9 => bW D (va_A ([(o, .inl (dA 2, 1, .inr (.inl og)))] ++ (VW dA h ad x)) sz) ([(o, .inl (dA 2, 1, .inr (.inl og)))] ++ (VW dA h ad u9)) t9) (va_A ([(o, .inl (dA 2, 1, .inr (.inl og)))] ++ (VW dA h ad x)) sz)) mc9 ms9 (va_A ([(o, .inl (dA 2, 1, .inr (.inl og)))] ++ (VW dA h ad x)) sz) := by
  refine mkW (y := ⟨"SeriesVaultLaw", "count", "(LSeriesVault;I[J)I"⟩) (cc := method_20_code) (maxL := 4) (av := [.ref h, .int p0, .ref o]) (ws := [(o, .inl (dA 2, 1, .inr (.inl og)))] ++ (VW dA h ad x)) (sz := sz) (Qc := fun A => va_Qi (fun (r9 : Int32) (u9 : VS) => r9 = 2 ∧ F9 u9) (fun (u9 : VS) t9 => bW D A ([(o, .inl (dA 2, 1, .inr (.inl og)))] ++ (VW dA h ad u9)) t9) A) (by decide) (Nat.le_of_ble_eq_true rfl) ?_
  intro A p e s m below meth c ls hsz htab hB
  obtain ⟨hx, hb, hr, hml, hown, hin, hlk, hE, hK, hP, hD, hS, hA, hN, hl⟩ := hB
  have hown : s.vm.findClass "SeriesVaultLaw" = some m.cls := hown
  have hl : lv_has ls 4 [(0, .ref h), (1, .int p0), (2, .ref o)] := hl
  obtain ⟨H, hH⟩ : ∃ z, z = s.heap := ⟨_, rfl⟩
  have hP : va_P D vwCl ([(o, .inl (dA 2, 1, .inr (.inl og)))] ++ (VW dA h ad x)) H := by rw [hH]; exact hP
  have hS : va_S A s.heap H [] := by rw [hH]; exact hS
  rw [← hH]
  refine lv_aload_n hx hb d_SeriesVaultLaw_count_0 rfl (lv_at hl 2 rfl) ?_
  refine lv_iconst (v := 0) hx hb d_SeriesVaultLaw_count_1 (by decide) ?_
  refine lv_aload_n hx hb d_SeriesVaultLaw_count_2 rfl (lv_at hl 0 rfl) ?_
  refine lv_iload_n hx hb d_SeriesVaultLaw_count_3 rfl (lv_at hl 1 rfl) ?_
  refine xkV (S := VS) (F := F9) (w1 := fun u => VW dA h ad u) (wr := [(o, .inl (dA 2, 1, .inr (.inl og)))]) (As := [.int p0]) (rest := [.int 0, .ref o]) hx hb hml hown hE hK (hN _ _ hS) (hc9 H.size) (q0 := 0) rfl rfl w703 w702 w704 w705 w277 rfl rfl ⟨⟨by decide, by decide⟩, rfl⟩ ⟨(by first | exact Nat.le_of_ble_eq_true rfl | (dsimp only; omega)), (by first | exact Nat.le_of_ble_eq_true rfl | (dsimp only; omega))⟩ rfl hl.1 rfl (by first | exact Nat.le_of_ble_eq_true rfl | (dsimp only; omega)) d_SeriesVaultLaw_count_4 ⟨(show 0 + mc9 ≤ mc9 by omega), (show 0 + ms9 ≤ ms9 by omega)⟩ hP hD hS hA (fun u2 xa1 ce H locs hf9 hP hD hS hce hcv hcl => ?_)
  have hP : va_P D vwCl ([(o, .inl (dA 2, 1, .inr (.inl og)))] ++ (VW dA h ad u2)) H := hP
  have hD : va_D A ([(o, .inl (dA 2, 1, .inr (.inl og)))] ++ (VW dA h ad u2)) := hD
  refine xCatch (E := "java/lang/IllegalArgumentException") hown hE [⟨0, 9, 12, 29⟩] ⟨0, 9, 15, 19⟩ [] htab (List.forall_mem_cons.mpr ⟨⟨by decide, "java/lang/IllegalStateException", w363, by decide⟩, fun _ h => absurd h List.not_mem_nil⟩) (by decide) (by decide) w349 w267 hce hcv hcl ?_
  refine lv_astore_n hx hb d_SeriesVaultLaw_count_15 rfl hl (by decide) rfl (fun ls hl => ?_)
  have hl : lv_has ls 4 [(3, .ref xa1), (0, .ref h), (1, .int p0), (2, .ref o)] := hl
  refine lv_iconst (v := 2) hx hb d_SeriesVaultLaw_count_16 (by decide) ?_
  exact rfI hx hb hr hlk hS u2 ⟨rfl, hf9⟩ hP hD (show 0 + mc9 ≤ mc9 by omega) (show 0 + ms9 ≤ ms9 by omega) d_SeriesVaultLaw_count_17
theorem d_SeriesVaultLaw_parcel_8 : decode method_21_code 8 = .ok (.i2l, 1) := by decide +kernel
theorem d_SeriesVaultLaw_parcel_9 : decode method_21_code 9 = .ok (.lastore, 1) := by decide +kernel
theorem d_SeriesVaultLaw_parcel_10 : decode method_21_code 10 = .ok (.goto 15, 3) := by decide +kernel
theorem d_SeriesVaultLaw_parcel_25 : decode method_21_code 25 = .ok (.iconst 0, 1) := by decide +kernel
theorem d_SeriesVaultLaw_parcel_26 : decode method_21_code 26 = .ok (.ireturn, 1) := by decide +kernel
set_option maxHeartbeats 4000000 in
set_option maxRecDepth 100000 in
theorem k8_parcel (l : Launch) (D : va_G) (dA : Nat → ClassId) (sz : Nat) (h : Nat) (ad : Nat → Nat) (o : Nat) (og : Nat → Int64) (x : VS) (p0 : Int32) (p1 : Int32) (v9 : Int32) (F9 : VS → Prop) (fr : Nat) (lo : Nat) (mc9 : Nat) (ms9 : Nat) (hc9 : ∀ sz : Nat, Met l ⟨"SeriesVault", "parcel", "(II)I"⟩ [Cond.code ⟨"SeriesVault", "parcel", "(II)I"⟩ prog_1_method_44_code 4 (some FieldType.int)] { frames := fr, cells := mc9, slots := ms9, locals := lo } (pC D dA [.ref h, .int p0, .int p1] (VW dA h ad x) sz) (va_Qi (fun (r9 : Int32) (u9 : VS) => r9 = v9 ∧ F9 u9) (fun (u9 : VS) t9 => bW D (va_A (VW dA h ad x) sz) (VW dA h ad u9) t9) (va_A (VW dA h ad x) sz)) mc9 ms9 (va_A (VW dA h ad x) sz)) : Met l ⟨"SeriesVaultLaw", "parcel", "(LSeriesVault;II[J)I"⟩ [Cond.codeWith ⟨"SeriesVaultLaw", "parcel", "(LSeriesVault;II[J)I"⟩ method_21_code 5 (some FieldType.int) [(0, 10, 13, 29), (0, 10, 17, 35), (0, 10, 21, 19)]] { frames := fr + 1, cells := mc9, slots := ms9, locals := lo + 23 } (pC D dA [.ref h, .int p0, .int p1, .ref o] ([(o, .inl (dA 2, 1, .inr (.inl og)))] ++ (VW dA h ad x)) sz) (va_Qi (fun (r9 : Int32) (u9 : VS) => r9 = 0 ∧ F9 u9) (fun (u9 : VS) t9 => bW D (va_A ([(o, .inl (dA 2, 1, .inr (.inl og)))] ++ (VW dA h ad x)) sz) ([(o, .inl (dA 2, 1, .inr (.inl (va_up og 0 (v9.toInt64)))))] ++ (VW dA h ad u9)) t9) (va_A ([(o, .inl (dA 2, 1, .inr (.inl og)))] ++ (VW dA h ad x)) sz)) mc9 ms9 (va_A ([(o, .inl (dA 2, 1, .inr (.inl og)))] ++ (VW dA h ad x)) sz) := by
  refine mkW (y := ⟨"SeriesVaultLaw", "parcel", "(LSeriesVault;II[J)I"⟩) (cc := method_21_code) (maxL := 5) (av := [.ref h, .int p0, .int p1, .ref o]) (ws := [(o, .inl (dA 2, 1, .inr (.inl og)))] ++ (VW dA h ad x)) (sz := sz) (Qc := fun A => va_Qi (fun (r9 : Int32) (u9 : VS) => r9 = 0 ∧ F9 u9) (fun (u9 : VS) t9 => bW D A ([(o, .inl (dA 2, 1, .inr (.inl (va_up og 0 (v9.toInt64)))))] ++ (VW dA h ad u9)) t9) A) (by decide) (Nat.le_of_ble_eq_true rfl) ?_
  intro A p e s m below meth c ls hsz htab hB
  obtain ⟨hx, hb, hr, hml, hown, hin, hlk, hE, hK, hP, hD, hS, hA, hN, hl⟩ := hB
  have hown : s.vm.findClass "SeriesVaultLaw" = some m.cls := hown
  have hl : lv_has ls 5 [(0, .ref h), (1, .int p0), (2, .int p1), (3, .ref o)] := hl
  obtain ⟨H, hH⟩ : ∃ z, z = s.heap := ⟨_, rfl⟩
  have hP : va_P D vwCl ([(o, .inl (dA 2, 1, .inr (.inl og)))] ++ (VW dA h ad x)) H := by rw [hH]; exact hP
  have hS : va_S A s.heap H [] := by rw [hH]; exact hS
  rw [← hH]
  refine lv_aload_n hx hb d_SeriesVaultLaw_parcel_0 rfl (lv_at hl 3 rfl) ?_
  refine lv_iconst (v := 0) hx hb d_SeriesVaultLaw_parcel_1 (by decide) ?_
  refine lv_aload_n hx hb d_SeriesVaultLaw_parcel_2 rfl (lv_at hl 0 rfl) ?_
  refine lv_iload_n hx hb d_SeriesVaultLaw_parcel_3 rfl (lv_at hl 1 rfl) ?_
  refine lv_iload_n hx hb d_SeriesVaultLaw_parcel_4 rfl (lv_at hl 2 rfl) ?_
  have hPc : va_P D vwCl (VW dA h ad x) H := spP (wr := [(o, .inl (dA 2, 1, .inr (.inl og)))]) hP
  have hDc : va_D A (VW dA h ad x) := spD (wr := [(o, .inl (dA 2, 1, .inr (.inl og)))]) hD
  refine jkI (wr := [(o, .inl (dA 2, 1, .inr (.inl og)))]) (rnV (As := [.int p0, .int p1]) (rest := [.int 0, .ref o]) hx hb hml hown hE hK (hN _ _ hS) hPc hDc ((fun (_ : Launch) (_ : va_G) (_ : Nat → ClassId) (sz9 : Nat) (_ : Nat) (_ : Nat → Nat) (_ : VS) (_ : Int32) (_ : Int32) => hc9 sz9) l D dA H.size h ad x p0 p1) (q0 := 0) rfl rfl w393 w392 w394 w395 w277 rfl rfl ⟨⟨by decide, by decide⟩, rfl⟩ ⟨(by first | exact Nat.le_of_ble_eq_true rfl | (dsimp only; omega)), (by first | exact Nat.le_of_ble_eq_true rfl | (dsimp only; omega))⟩ rfl hl.1 rfl (by first | exact Nat.le_of_ble_eq_true rfl | (dsimp only; omega)) d_SeriesVaultLaw_parcel_5 ⟨(show 0 + mc9 ≤ mc9 by omega), (show 0 + ms9 ≤ ms9 by omega)⟩) hP hD hS hA (fun r1 u2 H locs hp9 hP hD hS => ?_)
  obtain ⟨u8, h9u⟩ : ∃ z9, z9 = u2 := ⟨_, rfl⟩
  subst h9u
  have hP : va_P D vwCl ([(o, .inl (dA 2, 1, .inr (.inl og)))] ++ (VW dA h ad u8)) H := hP
  have hD : va_D A ([(o, .inl (dA 2, 1, .inr (.inl og)))] ++ (VW dA h ad u8)) := hD
  obtain ⟨hp9, f_f_3⟩ := hp9
  replace hp9 : v9 = r1 := Eq.symm hp9
  subst hp9
  refine lv_i2l hx hb d_SeriesVaultLaw_parcel_8 rfl ?_
  refine nlst (n := 1) hx hb hK hP hD hS (0) 2 rfl rfl (0) (by omega) (by decide) d_SeriesVaultLaw_parcel_9 (fun H locs hP hD hS => ?_)
  have hP : va_P D vwCl ([(o, .inl (dA 2, 1, .inr (.inl (va_up og 0 v9.toInt64))))] ++ (VW dA h ad u8)) H := hP
  have hD : va_D A ([(o, .inl (dA 2, 1, .inr (.inl (va_up og 0 v9.toInt64))))] ++ (VW dA h ad u8)) := hD
  refine lv_goto hx hb d_SeriesVaultLaw_parcel_10 (tgt := 25) rfl ?_
  refine lv_iconst (v := 0) hx hb d_SeriesVaultLaw_parcel_25 (by decide) ?_
  exact rfI hx hb hr hlk hS u8 ⟨rfl, f_f_3⟩ hP hD (show 0 + mc9 ≤ mc9 by omega) (show 0 + ms9 ≤ ms9 by omega) d_SeriesVaultLaw_parcel_26
theorem d_SeriesVaultLaw_parcel_13 : decode method_21_code 13 = .ok (.astore 4, 2) := by decide +kernel
theorem d_SeriesVaultLaw_parcel_15 : decode method_21_code 15 = .ok (.iconst 1, 1) := by decide +kernel
theorem d_SeriesVaultLaw_parcel_16 : decode method_21_code 16 = .ok (.ireturn, 1) := by decide +kernel
set_option maxHeartbeats 4000000 in
set_option maxRecDepth 100000 in
theorem k8_parcel_1 (l : Launch) (D : va_G) (dA : Nat → ClassId) (sz : Nat) (h : Nat) (ad : Nat → Nat) (o : Nat) (og : Nat → Int64) (x : VS) (p0 : Int32) (p1 : Int32) (F9 : VS → Prop) (fr : Nat) (lo : Nat) (mc9 : Nat) (ms9 : Nat) (hc9 : ∀ sz : Nat, mX l ⟨"SeriesVault", "parcel", "(II)I"⟩ [Cond.code ⟨"SeriesVault", "parcel", "(II)I"⟩ prog_1_method_44_code 4 (some FieldType.int)] { frames := fr, cells := mc9, slots := ms9, locals := lo } (pC D dA [.ref h, .int p0, .int p1] (VW dA h ad x) sz) "java/lang/IllegalStateException" (fun st9 t9 => va_F (va_A (VW dA h ad x) sz) st9 t9 ∧ ∃ u9 : VS, F9 u9 ∧ bW D (va_A (VW dA h ad x) sz) (VW dA h ad u9) t9) mc9 ms9 (va_A (VW dA h ad x) sz)) : Met l ⟨"SeriesVaultLaw", "parcel", "(LSeriesVault;II[J)I"⟩ [Cond.codeWith ⟨"SeriesVaultLaw", "parcel", "(LSeriesVault;II[J)I"⟩ method_21_code 5 (some FieldType.int) [(0, 10, 13, 29), (0, 10, 17, 35), (0, 10, 21, 19)]] { frames := fr + 1, cells := mc9, slots := ms9, locals := lo + 23 } (pC D dA [.ref h, .int p0, .int p1, .ref o] ([(o, .inl (dA 2, 1, .inr (.inl og)))] ++ (VW dA h ad x)) sz) (va_Qi (fun (r9 : Int32) (u9 : VS) => r9 = 1 ∧ F9 u9) (fun (u9 : VS) t9 => bW D (va_A ([(o, .inl (dA 2, 1, .inr (.inl og)))] ++ (VW dA h ad x)) sz) ([(o, .inl (dA 2, 1, .inr (.inl og)))] ++ (VW dA h ad u9)) t9) (va_A ([(o, .inl (dA 2, 1, .inr (.inl og)))] ++ (VW dA h ad x)) sz)) mc9 ms9 (va_A ([(o, .inl (dA 2, 1, .inr (.inl og)))] ++ (VW dA h ad x)) sz) := by
  refine mkW (y := ⟨"SeriesVaultLaw", "parcel", "(LSeriesVault;II[J)I"⟩) (cc := method_21_code) (maxL := 5) (av := [.ref h, .int p0, .int p1, .ref o]) (ws := [(o, .inl (dA 2, 1, .inr (.inl og)))] ++ (VW dA h ad x)) (sz := sz) (Qc := fun A => va_Qi (fun (r9 : Int32) (u9 : VS) => r9 = 1 ∧ F9 u9) (fun (u9 : VS) t9 => bW D A ([(o, .inl (dA 2, 1, .inr (.inl og)))] ++ (VW dA h ad u9)) t9) A) (by decide) (Nat.le_of_ble_eq_true rfl) ?_
  intro A p e s m below meth c ls hsz htab hB
  obtain ⟨hx, hb, hr, hml, hown, hin, hlk, hE, hK, hP, hD, hS, hA, hN, hl⟩ := hB
  have hown : s.vm.findClass "SeriesVaultLaw" = some m.cls := hown
  have hl : lv_has ls 5 [(0, .ref h), (1, .int p0), (2, .int p1), (3, .ref o)] := hl
  obtain ⟨H, hH⟩ : ∃ z, z = s.heap := ⟨_, rfl⟩
  have hP : va_P D vwCl ([(o, .inl (dA 2, 1, .inr (.inl og)))] ++ (VW dA h ad x)) H := by rw [hH]; exact hP
  have hS : va_S A s.heap H [] := by rw [hH]; exact hS
  rw [← hH]
  refine lv_aload_n hx hb d_SeriesVaultLaw_parcel_0 rfl (lv_at hl 3 rfl) ?_
  refine lv_iconst (v := 0) hx hb d_SeriesVaultLaw_parcel_1 (by decide) ?_
  refine lv_aload_n hx hb d_SeriesVaultLaw_parcel_2 rfl (lv_at hl 0 rfl) ?_
  refine lv_iload_n hx hb d_SeriesVaultLaw_parcel_3 rfl (lv_at hl 1 rfl) ?_
  refine lv_iload_n hx hb d_SeriesVaultLaw_parcel_4 rfl (lv_at hl 2 rfl) ?_
  refine xkV (S := VS) (F := F9) (w1 := fun u => VW dA h ad u) (wr := [(o, .inl (dA 2, 1, .inr (.inl og)))]) (As := [.int p0, .int p1]) (rest := [.int 0, .ref o]) hx hb hml hown hE hK (hN _ _ hS) (hc9 H.size) (q0 := 0) rfl rfl w393 w392 w394 w395 w277 rfl rfl ⟨⟨by decide, by decide⟩, rfl⟩ ⟨(by first | exact Nat.le_of_ble_eq_true rfl | (dsimp only; omega)), (by first | exact Nat.le_of_ble_eq_true rfl | (dsimp only; omega))⟩ rfl hl.1 rfl (by first | exact Nat.le_of_ble_eq_true rfl | (dsimp only; omega)) d_SeriesVaultLaw_parcel_5 ⟨(show 0 + mc9 ≤ mc9 by omega), (show 0 + ms9 ≤ ms9 by omega)⟩ hP hD hS hA (fun u2 xa1 ce H locs hf9 hP hD hS hce hcv hcl => ?_)
  have hP : va_P D vwCl ([(o, .inl (dA 2, 1, .inr (.inl og)))] ++ (VW dA h ad u2)) H := hP
  have hD : va_D A ([(o, .inl (dA 2, 1, .inr (.inl og)))] ++ (VW dA h ad u2)) := hD
  refine xCatch (E := "java/lang/IllegalStateException") hown hE [] ⟨0, 10, 13, 29⟩ [⟨0, 10, 17, 35⟩, ⟨0, 10, 21, 19⟩] htab (fun _ h => absurd h List.not_mem_nil) (by decide) (by decide) w363 w289 hce hcv hcl ?_
  refine lv_astore hx hb d_SeriesVaultLaw_parcel_13 hl (by decide) rfl (fun ls hl => ?_)
  have hl : lv_has ls 5 [(4, .ref xa1), (0, .ref h), (1, .int p0), (2, .int p1), (3, .ref o)] := hl
  refine lv_iconst (v := 1) hx hb d_SeriesVaultLaw_parcel_15 (by decide) ?_
  exact rfI hx hb hr hlk hS u2 ⟨rfl, hf9⟩ hP hD (show 0 + mc9 ≤ mc9 by omega) (show 0 + ms9 ≤ ms9 by omega) d_SeriesVaultLaw_parcel_16
set_option maxHeartbeats 4000000 in
set_option maxRecDepth 100000 in
theorem k8_parcel_2 (l : Launch) (D : va_G) (dA : Nat → ClassId) (sz : Nat) (h : Nat) (ad : Nat → Nat) (o : Nat) (og : Nat → Int64) (x : VS) (p0 : Int32) (p1 : Int32) (F9 : VS → Prop) (fr : Nat) (lo : Nat) (mc9 : Nat) (ms9 : Nat) (hc9 : ∀ sz : Nat, mX l ⟨"SeriesVault", "parcel", "(II)I"⟩ [Cond.code ⟨"SeriesVault", "parcel", "(II)I"⟩ prog_1_method_44_code 4 (some FieldType.int)] { frames := fr, cells := mc9, slots := ms9, locals := lo } (pC D dA [.ref h, .int p0, .int p1] (VW dA h ad x) sz) "java/lang/IndexOutOfBoundsException" (fun st9 t9 => va_F (va_A (VW dA h ad x) sz) st9 t9 ∧ ∃ u9 : VS, F9 u9 ∧ bW D (va_A (VW dA h ad x) sz) (VW dA h ad u9) t9) mc9 ms9 (va_A (VW dA h ad x) sz)) : Met l ⟨"SeriesVaultLaw", "parcel", "(LSeriesVault;II[J)I"⟩ [Cond.codeWith ⟨"SeriesVaultLaw", "parcel", "(LSeriesVault;II[J)I"⟩ method_21_code 5 (some FieldType.int) [(0, 10, 13, 29), (0, 10, 17, 35), (0, 10, 21, 19)]] { frames := fr + 1, cells := mc9, slots := ms9, locals := lo + 23 } (pC D dA [.ref h, .int p0, .int p1, .ref o] ([(o, .inl (dA 2, 1, .inr (.inl og)))] ++ (VW dA h ad x)) sz) (va_Qi (fun (r9 : Int32) (u9 : VS) => r9 = 2 ∧ F9 u9) (fun (u9 : VS) t9 => bW D (va_A ([(o, .inl (dA 2, 1, .inr (.inl og)))] ++ (VW dA h ad x)) sz) ([(o, .inl (dA 2, 1, .inr (.inl og)))] ++ (VW dA h ad u9)) t9) (va_A ([(o, .inl (dA 2, 1, .inr (.inl og)))] ++ (VW dA h ad x)) sz)) mc9 ms9 (va_A ([(o, .inl (dA 2, 1, .inr (.inl og)))] ++ (VW dA h ad x)) sz) := by
  refine mkW (y := ⟨"SeriesVaultLaw", "parcel", "(LSeriesVault;II[J)I"⟩) (cc := method_21_code) (maxL := 5) (av := [.ref h, .int p0, .int p1, .ref o]) (ws := [(o, .inl (dA 2, 1, .inr (.inl og)))] ++ (VW dA h ad x)) (sz := sz) (Qc := fun A => va_Qi (fun (r9 : Int32) (u9 : VS) => r9 = 2 ∧ F9 u9) (fun (u9 : VS) t9 => bW D A ([(o, .inl (dA 2, 1, .inr (.inl og)))] ++ (VW dA h ad u9)) t9) A) (by decide) (Nat.le_of_ble_eq_true rfl) ?_
  intro A p e s m below meth c ls hsz htab hB
  obtain ⟨hx, hb, hr, hml, hown, hin, hlk, hE, hK, hP, hD, hS, hA, hN, hl⟩ := hB
  have hown : s.vm.findClass "SeriesVaultLaw" = some m.cls := hown
  have hl : lv_has ls 5 [(0, .ref h), (1, .int p0), (2, .int p1), (3, .ref o)] := hl
  obtain ⟨H, hH⟩ : ∃ z, z = s.heap := ⟨_, rfl⟩
  have hP : va_P D vwCl ([(o, .inl (dA 2, 1, .inr (.inl og)))] ++ (VW dA h ad x)) H := by rw [hH]; exact hP
  have hS : va_S A s.heap H [] := by rw [hH]; exact hS
  rw [← hH]
  refine lv_aload_n hx hb d_SeriesVaultLaw_parcel_0 rfl (lv_at hl 3 rfl) ?_
  refine lv_iconst (v := 0) hx hb d_SeriesVaultLaw_parcel_1 (by decide) ?_
  refine lv_aload_n hx hb d_SeriesVaultLaw_parcel_2 rfl (lv_at hl 0 rfl) ?_
  refine lv_iload_n hx hb d_SeriesVaultLaw_parcel_3 rfl (lv_at hl 1 rfl) ?_
  refine lv_iload_n hx hb d_SeriesVaultLaw_parcel_4 rfl (lv_at hl 2 rfl) ?_
  refine xkV (S := VS) (F := F9) (w1 := fun u => VW dA h ad u) (wr := [(o, .inl (dA 2, 1, .inr (.inl og)))]) (As := [.int p0, .int p1]) (rest := [.int 0, .ref o]) hx hb hml hown hE hK (hN _ _ hS) (hc9 H.size) (q0 := 0) rfl rfl w393 w392 w394 w395 w277 rfl rfl ⟨⟨by decide, by decide⟩, rfl⟩ ⟨(by first | exact Nat.le_of_ble_eq_true rfl | (dsimp only; omega)), (by first | exact Nat.le_of_ble_eq_true rfl | (dsimp only; omega))⟩ rfl hl.1 rfl (by first | exact Nat.le_of_ble_eq_true rfl | (dsimp only; omega)) d_SeriesVaultLaw_parcel_5 ⟨(show 0 + mc9 ≤ mc9 by omega), (show 0 + ms9 ≤ ms9 by omega)⟩ hP hD hS hA (fun u2 xa1 ce H locs hf9 hP hD hS hce hcv hcl => ?_)
  have hP : va_P D vwCl ([(o, .inl (dA 2, 1, .inr (.inl og)))] ++ (VW dA h ad u2)) H := hP
  have hD : va_D A ([(o, .inl (dA 2, 1, .inr (.inl og)))] ++ (VW dA h ad u2)) := hD
  refine xCatch (E := "java/lang/IndexOutOfBoundsException") hown hE [⟨0, 10, 13, 29⟩] ⟨0, 10, 17, 35⟩ [⟨0, 10, 21, 19⟩] htab (List.forall_mem_cons.mpr ⟨⟨by decide, "java/lang/IllegalStateException", w363, by decide⟩, fun _ h => absurd h List.not_mem_nil⟩) (by decide) (by decide) w354 w222 hce hcv hcl ?_
  refine lv_astore hx hb d_SeriesVaultLaw_parcel_17 hl (by decide) rfl (fun ls hl => ?_)
  have hl : lv_has ls 5 [(4, .ref xa1), (0, .ref h), (1, .int p0), (2, .int p1), (3, .ref o)] := hl
  refine lv_iconst (v := 2) hx hb d_SeriesVaultLaw_parcel_19 (by decide) ?_
  exact rfI hx hb hr hlk hS u2 ⟨rfl, hf9⟩ hP hD (show 0 + mc9 ≤ mc9 by omega) (show 0 + ms9 ≤ ms9 by omega) d_SeriesVaultLaw_parcel_20
theorem d_SeriesVaultLaw_parcel_21 : decode method_21_code 21 = .ok (.astore 4, 2) := by decide +kernel
theorem d_SeriesVaultLaw_parcel_23 : decode method_21_code 23 = .ok (.iconst 3, 1) := by decide +kernel
theorem d_SeriesVaultLaw_parcel_24 : decode method_21_code 24 = .ok (.ireturn, 1) := by decide +kernel
set_option maxHeartbeats 4000000 in
set_option maxRecDepth 100000 in
theorem k8_parcel_3 (l : Launch) (D : va_G) (dA : Nat → ClassId) (sz : Nat) (h : Nat) (ad : Nat → Nat) (o : Nat) (og : Nat → Int64) (x : VS) (p0 : Int32) (p1 : Int32) (F9 : VS → Prop) (fr : Nat) (lo : Nat) (mc9 : Nat) (ms9 : Nat) (hc9 : ∀ sz : Nat, mX l ⟨"SeriesVault", "parcel", "(II)I"⟩ [Cond.code ⟨"SeriesVault", "parcel", "(II)I"⟩ prog_1_method_44_code 4 (some FieldType.int)] { frames := fr, cells := mc9, slots := ms9, locals := lo } (pC D dA [.ref h, .int p0, .int p1] (VW dA h ad x) sz) "java/lang/IllegalArgumentException" (fun st9 t9 => va_F (va_A (VW dA h ad x) sz) st9 t9 ∧ ∃ u9 : VS, F9 u9 ∧ bW D (va_A (VW dA h ad x) sz) (VW dA h ad u9) t9) mc9 ms9 (va_A (VW dA h ad x) sz)) : Met l ⟨"SeriesVaultLaw", "parcel", "(LSeriesVault;II[J)I"⟩ [Cond.codeWith ⟨"SeriesVaultLaw", "parcel", "(LSeriesVault;II[J)I"⟩ method_21_code 5 (some FieldType.int) [(0, 10, 13, 29), (0, 10, 17, 35), (0, 10, 21, 19)]] { frames := fr + 1, cells := mc9, slots := ms9, locals := lo + 23 } (pC D dA [.ref h, .int p0, .int p1, .ref o] ([(o, .inl (dA 2, 1, .inr (.inl og)))] ++ (VW dA h ad x)) sz) (va_Qi (fun (r9 : Int32) (u9 : VS) => r9 = 3 ∧ F9 u9) (fun (u9 : VS) t9 => bW D (va_A ([(o, .inl (dA 2, 1, .inr (.inl og)))] ++ (VW dA h ad x)) sz) ([(o, .inl (dA 2, 1, .inr (.inl og)))] ++ (VW dA h ad u9)) t9) (va_A ([(o, .inl (dA 2, 1, .inr (.inl og)))] ++ (VW dA h ad x)) sz)) mc9 ms9 (va_A ([(o, .inl (dA 2, 1, .inr (.inl og)))] ++ (VW dA h ad x)) sz) := by
  refine mkW (y := ⟨"SeriesVaultLaw", "parcel", "(LSeriesVault;II[J)I"⟩) (cc := method_21_code) (maxL := 5) (av := [.ref h, .int p0, .int p1, .ref o]) (ws := [(o, .inl (dA 2, 1, .inr (.inl og)))] ++ (VW dA h ad x)) (sz := sz) (Qc := fun A => va_Qi (fun (r9 : Int32) (u9 : VS) => r9 = 3 ∧ F9 u9) (fun (u9 : VS) t9 => bW D A ([(o, .inl (dA 2, 1, .inr (.inl og)))] ++ (VW dA h ad u9)) t9) A) (by decide) (Nat.le_of_ble_eq_true rfl) ?_
  intro A p e s m below meth c ls hsz htab hB
  obtain ⟨hx, hb, hr, hml, hown, hin, hlk, hE, hK, hP, hD, hS, hA, hN, hl⟩ := hB
  have hown : s.vm.findClass "SeriesVaultLaw" = some m.cls := hown
  have hl : lv_has ls 5 [(0, .ref h), (1, .int p0), (2, .int p1), (3, .ref o)] := hl
  obtain ⟨H, hH⟩ : ∃ z, z = s.heap := ⟨_, rfl⟩
  have hP : va_P D vwCl ([(o, .inl (dA 2, 1, .inr (.inl og)))] ++ (VW dA h ad x)) H := by rw [hH]; exact hP
  have hS : va_S A s.heap H [] := by rw [hH]; exact hS
  rw [← hH]
  refine lv_aload_n hx hb d_SeriesVaultLaw_parcel_0 rfl (lv_at hl 3 rfl) ?_
  refine lv_iconst (v := 0) hx hb d_SeriesVaultLaw_parcel_1 (by decide) ?_
  refine lv_aload_n hx hb d_SeriesVaultLaw_parcel_2 rfl (lv_at hl 0 rfl) ?_
  refine lv_iload_n hx hb d_SeriesVaultLaw_parcel_3 rfl (lv_at hl 1 rfl) ?_
  refine lv_iload_n hx hb d_SeriesVaultLaw_parcel_4 rfl (lv_at hl 2 rfl) ?_
  refine xkV (S := VS) (F := F9) (w1 := fun u => VW dA h ad u) (wr := [(o, .inl (dA 2, 1, .inr (.inl og)))]) (As := [.int p0, .int p1]) (rest := [.int 0, .ref o]) hx hb hml hown hE hK (hN _ _ hS) (hc9 H.size) (q0 := 0) rfl rfl w393 w392 w394 w395 w277 rfl rfl ⟨⟨by decide, by decide⟩, rfl⟩ ⟨(by first | exact Nat.le_of_ble_eq_true rfl | (dsimp only; omega)), (by first | exact Nat.le_of_ble_eq_true rfl | (dsimp only; omega))⟩ rfl hl.1 rfl (by first | exact Nat.le_of_ble_eq_true rfl | (dsimp only; omega)) d_SeriesVaultLaw_parcel_5 ⟨(show 0 + mc9 ≤ mc9 by omega), (show 0 + ms9 ≤ ms9 by omega)⟩ hP hD hS hA (fun u2 xa1 ce H locs hf9 hP hD hS hce hcv hcl => ?_)
  have hP : va_P D vwCl ([(o, .inl (dA 2, 1, .inr (.inl og)))] ++ (VW dA h ad u2)) H := hP
  have hD : va_D A ([(o, .inl (dA 2, 1, .inr (.inl og)))] ++ (VW dA h ad u2)) := hD
  refine xCatch (E := "java/lang/IllegalArgumentException") hown hE [⟨0, 10, 13, 29⟩, ⟨0, 10, 17, 35⟩] ⟨0, 10, 21, 19⟩ [] htab (List.forall_mem_cons.mpr ⟨⟨by decide, "java/lang/IllegalStateException", w363, by decide⟩, List.forall_mem_cons.mpr ⟨⟨by decide, "java/lang/IndexOutOfBoundsException", w354, by decide⟩, fun _ h => absurd h List.not_mem_nil⟩⟩) (by decide) (by decide) w349 w267 hce hcv hcl ?_
  refine lv_astore hx hb d_SeriesVaultLaw_parcel_21 hl (by decide) rfl (fun ls hl => ?_)
  have hl : lv_has ls 5 [(4, .ref xa1), (0, .ref h), (1, .int p0), (2, .int p1), (3, .ref o)] := hl
  refine lv_iconst (v := 3) hx hb d_SeriesVaultLaw_parcel_23 (by decide) ?_
  exact rfI hx hb hr hlk hS u2 ⟨rfl, hf9⟩ hP hD (show 0 + mc9 ≤ mc9 by omega) (show 0 + ms9 ≤ ms9 by omega) d_SeriesVaultLaw_parcel_24
theorem d_SeriesVaultLaw_last_7 : decode method_22_code 7 = .ok (.lastore, 1) := by decide +kernel
theorem d_SeriesVaultLaw_last_8 : decode method_22_code 8 = .ok (.goto 9, 3) := by decide +kernel
theorem d_SeriesVaultLaw_last_17 : decode method_22_code 17 = .ok (.iconst 0, 1) := by decide +kernel
theorem d_SeriesVaultLaw_last_18 : decode method_22_code 18 = .ok (.ireturn, 1) := by decide +kernel
set_option maxHeartbeats 4000000 in
set_option maxRecDepth 100000 in
theorem k8_last (l : Launch) (D : va_G) (dA : Nat → ClassId) (sz : Nat) (h : Nat) (ad : Nat → Nat) (o : Nat) (og : Nat → Int64) (x : VS) (p0 : Int32) (v9 : Int64) (F9 : VS → Prop) (fr : Nat) (lo : Nat) (mc9 : Nat) (ms9 : Nat) (hc9 : ∀ sz : Nat, Met l ⟨"SeriesVault", "last", "(I)J"⟩ [Cond.code ⟨"SeriesVault", "last", "(I)J"⟩ prog_1_method_27_code 2 (some FieldType.long)] { frames := fr, cells := mc9, slots := ms9, locals := lo } (pC D dA [.ref h, .int p0] (VW dA h ad x) sz) (va_Ql (fun (r9 : Int64) (u9 : VS) => r9 = v9 ∧ F9 u9) (fun (u9 : VS) t9 => bW D (va_A (VW dA h ad x) sz) (VW dA h ad u9) t9) (va_A (VW dA h ad x) sz)) mc9 ms9 (va_A (VW dA h ad x) sz)) : Met l ⟨"SeriesVaultLaw", "last", "(LSeriesVault;I[J)I"⟩ [Cond.codeWith ⟨"SeriesVaultLaw", "last", "(LSeriesVault;I[J)I"⟩ method_22_code 4 (some FieldType.int) [(0, 8, 11, 29), (0, 8, 14, 35)]] { frames := fr + 1, cells := mc9, slots := ms9, locals := lo + 21 } (pC D dA [.ref h, .int p0, .ref o] ([(o, .inl (dA 2, 1, .inr (.inl og)))] ++ (VW dA h ad x)) sz) (va_Qi (fun (r9 : Int32) (u9 : VS) => r9 = 0 ∧ F9 u9) (fun (u9 : VS) t9 => bW D (va_A ([(o, .inl (dA 2, 1, .inr (.inl og)))] ++ (VW dA h ad x)) sz) ([(o, .inl (dA 2, 1, .inr (.inl (va_up og 0 v9))))] ++ (VW dA h ad u9)) t9) (va_A ([(o, .inl (dA 2, 1, .inr (.inl og)))] ++ (VW dA h ad x)) sz)) mc9 ms9 (va_A ([(o, .inl (dA 2, 1, .inr (.inl og)))] ++ (VW dA h ad x)) sz) := by
  refine mkW (y := ⟨"SeriesVaultLaw", "last", "(LSeriesVault;I[J)I"⟩) (cc := method_22_code) (maxL := 4) (av := [.ref h, .int p0, .ref o]) (ws := [(o, .inl (dA 2, 1, .inr (.inl og)))] ++ (VW dA h ad x)) (sz := sz) (Qc := fun A => va_Qi (fun (r9 : Int32) (u9 : VS) => r9 = 0 ∧ F9 u9) (fun (u9 : VS) t9 => bW D A ([(o, .inl (dA 2, 1, .inr (.inl (va_up og 0 v9))))] ++ (VW dA h ad u9)) t9) A) (by decide) (Nat.le_of_ble_eq_true rfl) ?_
  intro A p e s m below meth c ls hsz htab hB
  obtain ⟨hx, hb, hr, hml, hown, hin, hlk, hE, hK, hP, hD, hS, hA, hN, hl⟩ := hB
  have hown : s.vm.findClass "SeriesVaultLaw" = some m.cls := hown
  have hl : lv_has ls 4 [(0, .ref h), (1, .int p0), (2, .ref o)] := hl
  obtain ⟨H, hH⟩ : ∃ z, z = s.heap := ⟨_, rfl⟩
  have hP : va_P D vwCl ([(o, .inl (dA 2, 1, .inr (.inl og)))] ++ (VW dA h ad x)) H := by rw [hH]; exact hP
  have hS : va_S A s.heap H [] := by rw [hH]; exact hS
  rw [← hH]
  refine lv_aload_n hx hb d_SeriesVaultLaw_last_0 rfl (lv_at hl 2 rfl) ?_
  refine lv_iconst (v := 0) hx hb d_SeriesVaultLaw_last_1 (by decide) ?_
  refine lv_aload_n hx hb d_SeriesVaultLaw_last_2 rfl (lv_at hl 0 rfl) ?_
  refine lv_iload_n hx hb d_SeriesVaultLaw_last_3 rfl (lv_at hl 1 rfl) ?_
  have hPc : va_P D vwCl (VW dA h ad x) H := spP (wr := [(o, .inl (dA 2, 1, .inr (.inl og)))]) hP
  have hDc : va_D A (VW dA h ad x) := spD (wr := [(o, .inl (dA 2, 1, .inr (.inl og)))]) hD
  refine jkL (wr := [(o, .inl (dA 2, 1, .inr (.inl og)))]) (rnV (As := [.int p0]) (rest := [.int 0, .ref o]) hx hb hml hown hE hK (hN _ _ hS) hPc hDc ((fun (_ : Launch) (_ : va_G) (_ : Nat → ClassId) (sz9 : Nat) (_ : Nat) (_ : Nat → Nat) (_ : VS) (_ : Int32) => hc9 sz9) l D dA H.size h ad x p0) (q0 := 0) rfl rfl w373 w372 w374 w375 w277 rfl rfl ⟨⟨by decide, by decide⟩, rfl⟩ ⟨(by first | exact Nat.le_of_ble_eq_true rfl | (dsimp only; omega)), (by first | exact Nat.le_of_ble_eq_true rfl | (dsimp only; omega))⟩ rfl hl.1 rfl (by first | exact Nat.le_of_ble_eq_true rfl | (dsimp only; omega)) d_SeriesVaultLaw_last_4 ⟨(show 0 + mc9 ≤ mc9 by omega), (show 0 + ms9 ≤ ms9 by omega)⟩) hP hD hS hA (fun r1 u2 H locs hp9 hP hD hS => ?_)
  obtain ⟨u8, h9u⟩ : ∃ z9, z9 = u2 := ⟨_, rfl⟩
  subst h9u
  have hP : va_P D vwCl ([(o, .inl (dA 2, 1, .inr (.inl og)))] ++ (VW dA h ad u8)) H := hP
  have hD : va_D A ([(o, .inl (dA 2, 1, .inr (.inl og)))] ++ (VW dA h ad u8)) := hD
  obtain ⟨hp9, f_f_3⟩ := hp9
  replace hp9 : v9 = r1 := Eq.symm hp9
  subst hp9
  refine nlst (n := 1) hx hb hK hP hD hS (0) 2 rfl rfl (0) (by omega) (by decide) d_SeriesVaultLaw_last_7 (fun H locs hP hD hS => ?_)
  have hP : va_P D vwCl ([(o, .inl (dA 2, 1, .inr (.inl (va_up og 0 v9))))] ++ (VW dA h ad u8)) H := hP
  have hD : va_D A ([(o, .inl (dA 2, 1, .inr (.inl (va_up og 0 v9))))] ++ (VW dA h ad u8)) := hD
  refine lv_goto hx hb d_SeriesVaultLaw_last_8 (tgt := 17) rfl ?_
  refine lv_iconst (v := 0) hx hb d_SeriesVaultLaw_last_17 (by decide) ?_
  exact rfI hx hb hr hlk hS u8 ⟨rfl, f_f_3⟩ hP hD (show 0 + mc9 ≤ mc9 by omega) (show 0 + ms9 ≤ ms9 by omega) d_SeriesVaultLaw_last_18
theorem d_SeriesVaultLaw_last_11 : decode method_22_code 11 = .ok (.astore_n 3, 1) := by decide +kernel
theorem d_SeriesVaultLaw_last_12 : decode method_22_code 12 = .ok (.iconst 1, 1) := by decide +kernel
theorem d_SeriesVaultLaw_last_13 : decode method_22_code 13 = .ok (.ireturn, 1) := by decide +kernel
set_option maxHeartbeats 4000000 in
set_option maxRecDepth 100000 in
theorem k8_last_1 (l : Launch) (D : va_G) (dA : Nat → ClassId) (sz : Nat) (h : Nat) (ad : Nat → Nat) (o : Nat) (og : Nat → Int64) (x : VS) (p0 : Int32) (F9 : VS → Prop) (fr : Nat) (lo : Nat) (mc9 : Nat) (ms9 : Nat) (hc9 : ∀ sz : Nat, mX l ⟨"SeriesVault", "last", "(I)J"⟩ [Cond.code ⟨"SeriesVault", "last", "(I)J"⟩ prog_1_method_27_code 2 (some FieldType.long)] { frames := fr, cells := mc9, slots := ms9, locals := lo } (pC D dA [.ref h, .int p0] (VW dA h ad x) sz) "java/lang/IllegalStateException" (fun st9 t9 => va_F (va_A (VW dA h ad x) sz) st9 t9 ∧ ∃ u9 : VS, F9 u9 ∧ bW D (va_A (VW dA h ad x) sz) (VW dA h ad u9) t9) mc9 ms9 (va_A (VW dA h ad x) sz)) : Met l ⟨"SeriesVaultLaw", "last", "(LSeriesVault;I[J)I"⟩ [Cond.codeWith ⟨"SeriesVaultLaw", "last", "(LSeriesVault;I[J)I"⟩ method_22_code 4 (some FieldType.int) [(0, 8, 11, 29), (0, 8, 14, 35)]] { frames := fr + 1, cells := mc9, slots := ms9, locals := lo + 21 } (pC D dA [.ref h, .int p0, .ref o] ([(o, .inl (dA 2, 1, .inr (.inl og)))] ++ (VW dA h ad x)) sz) (va_Qi (fun (r9 : Int32) (u9 : VS) => r9 = 1 ∧ F9 u9) (fun (u9 : VS) t9 => bW D (va_A ([(o, .inl (dA 2, 1, .inr (.inl og)))] ++ (VW dA h ad x)) sz) ([(o, .inl (dA 2, 1, .inr (.inl og)))] ++ (VW dA h ad u9)) t9) (va_A ([(o, .inl (dA 2, 1, .inr (.inl og)))] ++ (VW dA h ad x)) sz)) mc9 ms9 (va_A ([(o, .inl (dA 2, 1, .inr (.inl og)))] ++ (VW dA h ad x)) sz) := by
  refine mkW (y := ⟨"SeriesVaultLaw", "last", "(LSeriesVault;I[J)I"⟩) (cc := method_22_code) (maxL := 4) (av := [.ref h, .int p0, .ref o]) (ws := [(o, .inl (dA 2, 1, .inr (.inl og)))] ++ (VW dA h ad x)) (sz := sz) (Qc := fun A => va_Qi (fun (r9 : Int32) (u9 : VS) => r9 = 1 ∧ F9 u9) (fun (u9 : VS) t9 => bW D A ([(o, .inl (dA 2, 1, .inr (.inl og)))] ++ (VW dA h ad u9)) t9) A) (by decide) (Nat.le_of_ble_eq_true rfl) ?_
  intro A p e s m below meth c ls hsz htab hB
  obtain ⟨hx, hb, hr, hml, hown, hin, hlk, hE, hK, hP, hD, hS, hA, hN, hl⟩ := hB
  have hown : s.vm.findClass "SeriesVaultLaw" = some m.cls := hown
  have hl : lv_has ls 4 [(0, .ref h), (1, .int p0), (2, .ref o)] := hl
  obtain ⟨H, hH⟩ : ∃ z, z = s.heap := ⟨_, rfl⟩
  have hP : va_P D vwCl ([(o, .inl (dA 2, 1, .inr (.inl og)))] ++ (VW dA h ad x)) H := by rw [hH]; exact hP
  have hS : va_S A s.heap H [] := by rw [hH]; exact hS
  rw [← hH]
  refine lv_aload_n hx hb d_SeriesVaultLaw_last_0 rfl (lv_at hl 2 rfl) ?_
  refine lv_iconst (v := 0) hx hb d_SeriesVaultLaw_last_1 (by decide) ?_
  refine lv_aload_n hx hb d_SeriesVaultLaw_last_2 rfl (lv_at hl 0 rfl) ?_
  refine lv_iload_n hx hb d_SeriesVaultLaw_last_3 rfl (lv_at hl 1 rfl) ?_
  refine xkV (S := VS) (F := F9) (w1 := fun u => VW dA h ad u) (wr := [(o, .inl (dA 2, 1, .inr (.inl og)))]) (As := [.int p0]) (rest := [.int 0, .ref o]) hx hb hml hown hE hK (hN _ _ hS) (hc9 H.size) (q0 := 0) rfl rfl w373 w372 w374 w375 w277 rfl rfl ⟨⟨by decide, by decide⟩, rfl⟩ ⟨(by first | exact Nat.le_of_ble_eq_true rfl | (dsimp only; omega)), (by first | exact Nat.le_of_ble_eq_true rfl | (dsimp only; omega))⟩ rfl hl.1 rfl (by first | exact Nat.le_of_ble_eq_true rfl | (dsimp only; omega)) d_SeriesVaultLaw_last_4 ⟨(show 0 + mc9 ≤ mc9 by omega), (show 0 + ms9 ≤ ms9 by omega)⟩ hP hD hS hA (fun u2 xa1 ce H locs hf9 hP hD hS hce hcv hcl => ?_)
  have hP : va_P D vwCl ([(o, .inl (dA 2, 1, .inr (.inl og)))] ++ (VW dA h ad u2)) H := hP
  have hD : va_D A ([(o, .inl (dA 2, 1, .inr (.inl og)))] ++ (VW dA h ad u2)) := hD
  refine xCatch (E := "java/lang/IllegalStateException") hown hE [] ⟨0, 8, 11, 29⟩ [⟨0, 8, 14, 35⟩] htab (fun _ h => absurd h List.not_mem_nil) (by decide) (by decide) w363 w289 hce hcv hcl ?_
  refine lv_astore_n hx hb d_SeriesVaultLaw_last_11 rfl hl (by decide) rfl (fun ls hl => ?_)
  have hl : lv_has ls 4 [(3, .ref xa1), (0, .ref h), (1, .int p0), (2, .ref o)] := hl
  refine lv_iconst (v := 1) hx hb d_SeriesVaultLaw_last_12 (by decide) ?_
  exact rfI hx hb hr hlk hS u2 ⟨rfl, hf9⟩ hP hD (show 0 + mc9 ≤ mc9 by omega) (show 0 + ms9 ≤ ms9 by omega) d_SeriesVaultLaw_last_13
set_option maxHeartbeats 4000000 in
set_option maxRecDepth 100000 in
theorem k8_last_2 (l : Launch) (D : va_G) (dA : Nat → ClassId) (sz : Nat) (h : Nat) (ad : Nat → Nat) (o : Nat) (og : Nat → Int64) (x : VS) (p0 : Int32) (F9 : VS → Prop) (fr : Nat) (lo : Nat) (mc9 : Nat) (ms9 : Nat) (hc9 : ∀ sz : Nat, mX l ⟨"SeriesVault", "last", "(I)J"⟩ [Cond.code ⟨"SeriesVault", "last", "(I)J"⟩ prog_1_method_27_code 2 (some FieldType.long)] { frames := fr, cells := mc9, slots := ms9, locals := lo } (pC D dA [.ref h, .int p0] (VW dA h ad x) sz) "java/lang/IndexOutOfBoundsException" (fun st9 t9 => va_F (va_A (VW dA h ad x) sz) st9 t9 ∧ ∃ u9 : VS, F9 u9 ∧ bW D (va_A (VW dA h ad x) sz) (VW dA h ad u9) t9) mc9 ms9 (va_A (VW dA h ad x) sz)) : Met l ⟨"SeriesVaultLaw", "last", "(LSeriesVault;I[J)I"⟩ [Cond.codeWith ⟨"SeriesVaultLaw", "last", "(LSeriesVault;I[J)I"⟩ method_22_code 4 (some FieldType.int) [(0, 8, 11, 29), (0, 8, 14, 35)]] { frames := fr + 1, cells := mc9, slots := ms9, locals := lo + 21 } (pC D dA [.ref h, .int p0, .ref o] ([(o, .inl (dA 2, 1, .inr (.inl og)))] ++ (VW dA h ad x)) sz) (va_Qi (fun (r9 : Int32) (u9 : VS) => r9 = 2 ∧ F9 u9) (fun (u9 : VS) t9 => bW D (va_A ([(o, .inl (dA 2, 1, .inr (.inl og)))] ++ (VW dA h ad x)) sz) ([(o, .inl (dA 2, 1, .inr (.inl og)))] ++ (VW dA h ad u9)) t9) (va_A ([(o, .inl (dA 2, 1, .inr (.inl og)))] ++ (VW dA h ad x)) sz)) mc9 ms9 (va_A ([(o, .inl (dA 2, 1, .inr (.inl og)))] ++ (VW dA h ad x)) sz) := by
  refine mkW (y := ⟨"SeriesVaultLaw", "last", "(LSeriesVault;I[J)I"⟩) (cc := method_22_code) (maxL := 4) (av := [.ref h, .int p0, .ref o]) (ws := [(o, .inl (dA 2, 1, .inr (.inl og)))] ++ (VW dA h ad x)) (sz := sz) (Qc := fun A => va_Qi (fun (r9 : Int32) (u9 : VS) => r9 = 2 ∧ F9 u9) (fun (u9 : VS) t9 => bW D A ([(o, .inl (dA 2, 1, .inr (.inl og)))] ++ (VW dA h ad u9)) t9) A) (by decide) (Nat.le_of_ble_eq_true rfl) ?_
  intro A p e s m below meth c ls hsz htab hB
  obtain ⟨hx, hb, hr, hml, hown, hin, hlk, hE, hK, hP, hD, hS, hA, hN, hl⟩ := hB
  have hown : s.vm.findClass "SeriesVaultLaw" = some m.cls := hown
  have hl : lv_has ls 4 [(0, .ref h), (1, .int p0), (2, .ref o)] := hl
  obtain ⟨H, hH⟩ : ∃ z, z = s.heap := ⟨_, rfl⟩
  have hP : va_P D vwCl ([(o, .inl (dA 2, 1, .inr (.inl og)))] ++ (VW dA h ad x)) H := by rw [hH]; exact hP
  have hS : va_S A s.heap H [] := by rw [hH]; exact hS
  rw [← hH]
  refine lv_aload_n hx hb d_SeriesVaultLaw_last_0 rfl (lv_at hl 2 rfl) ?_
  refine lv_iconst (v := 0) hx hb d_SeriesVaultLaw_last_1 (by decide) ?_
  refine lv_aload_n hx hb d_SeriesVaultLaw_last_2 rfl (lv_at hl 0 rfl) ?_
  refine lv_iload_n hx hb d_SeriesVaultLaw_last_3 rfl (lv_at hl 1 rfl) ?_
  refine xkV (S := VS) (F := F9) (w1 := fun u => VW dA h ad u) (wr := [(o, .inl (dA 2, 1, .inr (.inl og)))]) (As := [.int p0]) (rest := [.int 0, .ref o]) hx hb hml hown hE hK (hN _ _ hS) (hc9 H.size) (q0 := 0) rfl rfl w373 w372 w374 w375 w277 rfl rfl ⟨⟨by decide, by decide⟩, rfl⟩ ⟨(by first | exact Nat.le_of_ble_eq_true rfl | (dsimp only; omega)), (by first | exact Nat.le_of_ble_eq_true rfl | (dsimp only; omega))⟩ rfl hl.1 rfl (by first | exact Nat.le_of_ble_eq_true rfl | (dsimp only; omega)) d_SeriesVaultLaw_last_4 ⟨(show 0 + mc9 ≤ mc9 by omega), (show 0 + ms9 ≤ ms9 by omega)⟩ hP hD hS hA (fun u2 xa1 ce H locs hf9 hP hD hS hce hcv hcl => ?_)
  have hP : va_P D vwCl ([(o, .inl (dA 2, 1, .inr (.inl og)))] ++ (VW dA h ad u2)) H := hP
  have hD : va_D A ([(o, .inl (dA 2, 1, .inr (.inl og)))] ++ (VW dA h ad u2)) := hD
  refine xCatch (E := "java/lang/IndexOutOfBoundsException") hown hE [⟨0, 8, 11, 29⟩] ⟨0, 8, 14, 35⟩ [] htab (List.forall_mem_cons.mpr ⟨⟨by decide, "java/lang/IllegalStateException", w363, by decide⟩, fun _ h => absurd h List.not_mem_nil⟩) (by decide) (by decide) w354 w222 hce hcv hcl ?_
  refine lv_astore_n hx hb d_SeriesVaultLaw_last_14 rfl hl (by decide) rfl (fun ls hl => ?_)
  have hl : lv_has ls 4 [(3, .ref xa1), (0, .ref h), (1, .int p0), (2, .ref o)] := hl
  refine lv_iconst (v := 2) hx hb d_SeriesVaultLaw_last_15 (by decide) ?_
  exact rfI hx hb hr hlk hS u2 ⟨rfl, hf9⟩ hP hD (show 0 + mc9 ≤ mc9 by omega) (show 0 + ms9 ≤ ms9 by omega) d_SeriesVaultLaw_last_16
set_option maxHeartbeats 4000000 in
set_option maxRecDepth 100000 in
theorem k8_cut (l : Launch) (D : va_G) (dA : Nat → ClassId) (sz : Nat) (h : Nat) (ad : Nat → Nat) (x : VS) (p0 : Int32) (F9 : VS → Prop) (fr : Nat) (lo : Nat) (mc9 : Nat) (ms9 : Nat) (hc9 : ∀ sz : Nat, Met l ⟨"SeriesVault", "cut", "(I)V"⟩ [Cond.code ⟨"SeriesVault", "cut", "(I)V"⟩ prog_1_method_11_code 2 none] { frames := fr, cells := mc9, slots := ms9, locals := lo } (pC D dA [.ref h, .int p0] (VW dA h ad x) sz) (va_Qv (fun (u9 : VS) => F9 u9) (fun (u9 : VS) t9 => bW D (va_A (VW dA h ad x) sz) (VW dA h ad u9) t9) (va_A (VW dA h ad x) sz)) mc9 ms9 (va_A (VW dA h ad x) sz)) : Met l ⟨"SeriesVaultLaw", "cut", "(LSeriesVault;I)I"⟩ [Cond.codeWith ⟨"SeriesVaultLaw", "cut", "(LSeriesVault;I)I"⟩ method_23_code 3 (some FieldType.int) [(0, 5, 8, 29), (0, 5, 11, 19)]] { frames := fr + 1, cells := mc9, slots := ms9, locals := lo + 21 } (pC D dA [.ref h, .int p0] (VW dA h ad x) sz) (va_Qi (fun (r9 : Int32) (u9 : VS) => r9 = 0 ∧ F9 u9) (fun (u9 : VS) t9 => bW D (va_A (VW dA h ad x) sz) (VW dA h ad u9) t9) (va_A (VW dA h ad x) sz)) mc9 ms9 (va_A (VW dA h ad x) sz) := by
  refine mkW (y := ⟨"SeriesVaultLaw", "cut", "(LSeriesVault;I)I"⟩) (cc := method_23_code) (maxL := 3) (av := [.ref h, .int p0]) (ws := VW dA h ad x) (sz := sz) (Qc := fun A => va_Qi (fun (r9 : Int32) (u9 : VS) => r9 = 0 ∧ F9 u9) (fun (u9 : VS) t9 => bW D A (VW dA h ad u9) t9) A) (by decide) (Nat.le_of_ble_eq_true rfl) ?_
  intro A p e s m below meth c ls hsz htab hB
  obtain ⟨hx, hb, hr, hml, hown, hin, hlk, hE, hK, hP, hD, hS, hA, hN, hl⟩ := hB
  have hown : s.vm.findClass "SeriesVaultLaw" = some m.cls := hown
  have hl : lv_has ls 3 [(0, .ref h), (1, .int p0)] := hl
  obtain ⟨H, hH⟩ : ∃ z, z = s.heap := ⟨_, rfl⟩
  have hP : va_P D vwCl (VW dA h ad x) H := by rw [hH]; exact hP
  have hS : va_S A s.heap H [] := by rw [hH]; exact hS
  rw [← hH]
  refine lv_aload_n hx hb d_SeriesVaultLaw_cut_0 rfl (lv_at hl 0 rfl) ?_
  refine lv_iload_n hx hb d_SeriesVaultLaw_cut_1 rfl (lv_at hl 1 rfl) ?_
  refine jkV (wr := []) (rnV (As := [.int p0]) (rest := []) hx hb hml hown hE hK (hN _ _ hS) hP hD ((fun (_ : Launch) (_ : va_G) (_ : Nat → ClassId) (sz9 : Nat) (_ : Nat) (_ : Nat → Nat) (_ : VS) (_ : Int32) => hc9 sz9) l D dA H.size h ad x p0) (q0 := 0) rfl rfl w360 w359 w361 w362 w277 rfl rfl ⟨⟨by decide, by decide⟩, rfl⟩ ⟨(by first | exact Nat.le_of_ble_eq_true rfl | (dsimp only; omega)), (by first | exact Nat.le_of_ble_eq_true rfl | (dsimp only; omega))⟩ rfl hl.1 rfl (by first | exact Nat.le_of_ble_eq_true rfl | (dsimp only; omega)) d_SeriesVaultLaw_cut_2 ⟨(show 0 + mc9 ≤ mc9 by omega), (show 0 + ms9 ≤ ms9 by omega)⟩) hP hD hS hA (fun u2 H locs hp9 hP hD hS => ?_)
  obtain ⟨u8, h9u⟩ : ∃ z9, z9 = u2 := ⟨_, rfl⟩
  subst h9u
  have hP : va_P D vwCl (VW dA h ad u8) H := hP
  have hD : va_D A (VW dA h ad u8) := hD
  have f_f_3 := hp9
  refine lv_goto hx hb d_SeriesVaultLaw_cut_5 (tgt := 14) rfl ?_
  refine lv_iconst (v := 0) hx hb d_SeriesVaultLaw_cut_14 (by decide) ?_
  exact rfI hx hb hr hlk hS u8 ⟨rfl, f_f_3⟩ hP hD (show 0 + mc9 ≤ mc9 by omega) (show 0 + ms9 ≤ ms9 by omega) d_SeriesVaultLaw_cut_15
theorem d_SeriesVaultLaw_cut_8 : decode method_23_code 8 = .ok (.astore_n 2, 1) := by decide +kernel
theorem d_SeriesVaultLaw_cut_9 : decode method_23_code 9 = .ok (.iconst 1, 1) := by decide +kernel
theorem d_SeriesVaultLaw_cut_10 : decode method_23_code 10 = .ok (.ireturn, 1) := by decide +kernel
set_option maxHeartbeats 4000000 in
set_option maxRecDepth 100000 in
theorem k8_cut_1 (l : Launch) (D : va_G) (dA : Nat → ClassId) (sz : Nat) (h : Nat) (ad : Nat → Nat) (x : VS) (p0 : Int32) (F9 : VS → Prop) (fr : Nat) (lo : Nat) (mc9 : Nat) (ms9 : Nat) (hc9 : ∀ sz : Nat, mX l ⟨"SeriesVault", "cut", "(I)V"⟩ [Cond.code ⟨"SeriesVault", "cut", "(I)V"⟩ prog_1_method_11_code 2 none] { frames := fr, cells := mc9, slots := ms9, locals := lo } (pC D dA [.ref h, .int p0] (VW dA h ad x) sz) "java/lang/IllegalStateException" (fun st9 t9 => va_F (va_A (VW dA h ad x) sz) st9 t9 ∧ ∃ u9 : VS, F9 u9 ∧ bW D (va_A (VW dA h ad x) sz) (VW dA h ad u9) t9) mc9 ms9 (va_A (VW dA h ad x) sz)) : Met l ⟨"SeriesVaultLaw", "cut", "(LSeriesVault;I)I"⟩ [Cond.codeWith ⟨"SeriesVaultLaw", "cut", "(LSeriesVault;I)I"⟩ method_23_code 3 (some FieldType.int) [(0, 5, 8, 29), (0, 5, 11, 19)]] { frames := fr + 1, cells := mc9, slots := ms9, locals := lo + 21 } (pC D dA [.ref h, .int p0] (VW dA h ad x) sz) (va_Qi (fun (r9 : Int32) (u9 : VS) => r9 = 1 ∧ F9 u9) (fun (u9 : VS) t9 => bW D (va_A (VW dA h ad x) sz) (VW dA h ad u9) t9) (va_A (VW dA h ad x) sz)) mc9 ms9 (va_A (VW dA h ad x) sz) := by
  refine mkW (y := ⟨"SeriesVaultLaw", "cut", "(LSeriesVault;I)I"⟩) (cc := method_23_code) (maxL := 3) (av := [.ref h, .int p0]) (ws := VW dA h ad x) (sz := sz) (Qc := fun A => va_Qi (fun (r9 : Int32) (u9 : VS) => r9 = 1 ∧ F9 u9) (fun (u9 : VS) t9 => bW D A (VW dA h ad u9) t9) A) (by decide) (Nat.le_of_ble_eq_true rfl) ?_
  intro A p e s m below meth c ls hsz htab hB
  obtain ⟨hx, hb, hr, hml, hown, hin, hlk, hE, hK, hP, hD, hS, hA, hN, hl⟩ := hB
  have hown : s.vm.findClass "SeriesVaultLaw" = some m.cls := hown
  have hl : lv_has ls 3 [(0, .ref h), (1, .int p0)] := hl
  obtain ⟨H, hH⟩ : ∃ z, z = s.heap := ⟨_, rfl⟩
  have hP : va_P D vwCl (VW dA h ad x) H := by rw [hH]; exact hP
  have hS : va_S A s.heap H [] := by rw [hH]; exact hS
  rw [← hH]
  refine lv_aload_n hx hb d_SeriesVaultLaw_cut_0 rfl (lv_at hl 0 rfl) ?_
  refine lv_iload_n hx hb d_SeriesVaultLaw_cut_1 rfl (lv_at hl 1 rfl) ?_
  refine xkV (S := VS) (F := F9) (w1 := fun u => VW dA h ad u) (wr := []) (As := [.int p0]) (rest := []) hx hb hml hown hE hK (hN _ _ hS) (hc9 H.size) (q0 := 0) rfl rfl w360 w359 w361 w362 w277 rfl rfl ⟨⟨by decide, by decide⟩, rfl⟩ ⟨(by first | exact Nat.le_of_ble_eq_true rfl | (dsimp only; omega)), (by first | exact Nat.le_of_ble_eq_true rfl | (dsimp only; omega))⟩ rfl hl.1 rfl (by first | exact Nat.le_of_ble_eq_true rfl | (dsimp only; omega)) d_SeriesVaultLaw_cut_2 ⟨(show 0 + mc9 ≤ mc9 by omega), (show 0 + ms9 ≤ ms9 by omega)⟩ hP hD hS hA (fun u2 xa1 ce H locs hf9 hP hD hS hce hcv hcl => ?_)
  have hP : va_P D vwCl (VW dA h ad u2) H := hP
  have hD : va_D A (VW dA h ad u2) := hD
  refine xCatch (E := "java/lang/IllegalStateException") hown hE [] ⟨0, 5, 8, 29⟩ [⟨0, 5, 11, 19⟩] htab (fun _ h => absurd h List.not_mem_nil) (by decide) (by decide) w363 w289 hce hcv hcl ?_
  refine lv_astore_n hx hb d_SeriesVaultLaw_cut_8 rfl hl (by decide) rfl (fun ls hl => ?_)
  have hl : lv_has ls 3 [(2, .ref xa1), (0, .ref h), (1, .int p0)] := hl
  refine lv_iconst (v := 1) hx hb d_SeriesVaultLaw_cut_9 (by decide) ?_
  exact rfI hx hb hr hlk hS u2 ⟨rfl, hf9⟩ hP hD (show 0 + mc9 ≤ mc9 by omega) (show 0 + ms9 ≤ ms9 by omega) d_SeriesVaultLaw_cut_10
set_option maxHeartbeats 4000000 in
set_option maxRecDepth 100000 in
theorem k8_cut_2 (l : Launch) (D : va_G) (dA : Nat → ClassId) (sz : Nat) (h : Nat) (ad : Nat → Nat) (x : VS) (p0 : Int32) (F9 : VS → Prop) (fr : Nat) (lo : Nat) (mc9 : Nat) (ms9 : Nat) (hc9 : ∀ sz : Nat, mX l ⟨"SeriesVault", "cut", "(I)V"⟩ [Cond.code ⟨"SeriesVault", "cut", "(I)V"⟩ prog_1_method_11_code 2 none] { frames := fr, cells := mc9, slots := ms9, locals := lo } (pC D dA [.ref h, .int p0] (VW dA h ad x) sz) "java/lang/IllegalArgumentException" (fun st9 t9 => va_F (va_A (VW dA h ad x) sz) st9 t9 ∧ ∃ u9 : VS, F9 u9 ∧ bW D (va_A (VW dA h ad x) sz) (VW dA h ad u9) t9) mc9 ms9 (va_A (VW dA h ad x) sz)) : Met l ⟨"SeriesVaultLaw", "cut", "(LSeriesVault;I)I"⟩ [Cond.codeWith ⟨"SeriesVaultLaw", "cut", "(LSeriesVault;I)I"⟩ method_23_code 3 (some FieldType.int) [(0, 5, 8, 29), (0, 5, 11, 19)]] { frames := fr + 1, cells := mc9, slots := ms9, locals := lo + 21 } (pC D dA [.ref h, .int p0] (VW dA h ad x) sz) (va_Qi (fun (r9 : Int32) (u9 : VS) => r9 = 2 ∧ F9 u9) (fun (u9 : VS) t9 => bW D (va_A (VW dA h ad x) sz) (VW dA h ad u9) t9) (va_A (VW dA h ad x) sz)) mc9 ms9 (va_A (VW dA h ad x) sz) := by
  refine mkW (y := ⟨"SeriesVaultLaw", "cut", "(LSeriesVault;I)I"⟩) (cc := method_23_code) (maxL := 3) (av := [.ref h, .int p0]) (ws := VW dA h ad x) (sz := sz) (Qc := fun A => va_Qi (fun (r9 : Int32) (u9 : VS) => r9 = 2 ∧ F9 u9) (fun (u9 : VS) t9 => bW D A (VW dA h ad u9) t9) A) (by decide) (Nat.le_of_ble_eq_true rfl) ?_
  intro A p e s m below meth c ls hsz htab hB
  obtain ⟨hx, hb, hr, hml, hown, hin, hlk, hE, hK, hP, hD, hS, hA, hN, hl⟩ := hB
  have hown : s.vm.findClass "SeriesVaultLaw" = some m.cls := hown
  have hl : lv_has ls 3 [(0, .ref h), (1, .int p0)] := hl
  obtain ⟨H, hH⟩ : ∃ z, z = s.heap := ⟨_, rfl⟩
  have hP : va_P D vwCl (VW dA h ad x) H := by rw [hH]; exact hP
  have hS : va_S A s.heap H [] := by rw [hH]; exact hS
  rw [← hH]
  refine lv_aload_n hx hb d_SeriesVaultLaw_cut_0 rfl (lv_at hl 0 rfl) ?_
  refine lv_iload_n hx hb d_SeriesVaultLaw_cut_1 rfl (lv_at hl 1 rfl) ?_
  refine xkV (S := VS) (F := F9) (w1 := fun u => VW dA h ad u) (wr := []) (As := [.int p0]) (rest := []) hx hb hml hown hE hK (hN _ _ hS) (hc9 H.size) (q0 := 0) rfl rfl w360 w359 w361 w362 w277 rfl rfl ⟨⟨by decide, by decide⟩, rfl⟩ ⟨(by first | exact Nat.le_of_ble_eq_true rfl | (dsimp only; omega)), (by first | exact Nat.le_of_ble_eq_true rfl | (dsimp only; omega))⟩ rfl hl.1 rfl (by first | exact Nat.le_of_ble_eq_true rfl | (dsimp only; omega)) d_SeriesVaultLaw_cut_2 ⟨(show 0 + mc9 ≤ mc9 by omega), (show 0 + ms9 ≤ ms9 by omega)⟩ hP hD hS hA (fun u2 xa1 ce H locs hf9 hP hD hS hce hcv hcl => ?_)
  have hP : va_P D vwCl (VW dA h ad u2) H := hP
  have hD : va_D A (VW dA h ad u2) := hD
  refine xCatch (E := "java/lang/IllegalArgumentException") hown hE [⟨0, 5, 8, 29⟩] ⟨0, 5, 11, 19⟩ [] htab (List.forall_mem_cons.mpr ⟨⟨by decide, "java/lang/IllegalStateException", w363, by decide⟩, fun _ h => absurd h List.not_mem_nil⟩) (by decide) (by decide) w349 w267 hce hcv hcl ?_
  refine lv_astore_n hx hb d_SeriesVaultLaw_cut_11 rfl hl (by decide) rfl (fun ls hl => ?_)
  have hl : lv_has ls 3 [(2, .ref xa1), (0, .ref h), (1, .int p0)] := hl
  refine lv_iconst (v := 2) hx hb d_SeriesVaultLaw_cut_12 (by decide) ?_
  exact rfI hx hb hr hlk hS u2 ⟨rfl, hf9⟩ hP hD (show 0 + mc9 ≤ mc9 by omega) (show 0 + ms9 ≤ ms9 by omega) d_SeriesVaultLaw_cut_13
set_option maxHeartbeats 4000000 in
set_option maxRecDepth 100000 in
theorem k8_off (l : Launch) (D : va_G) (dA : Nat → ClassId) (sz : Nat) (h : Nat) (ad : Nat → Nat) (x : VS) (F9 : VS → Prop) (fr : Nat) (lo : Nat) (mc9 : Nat) (ms9 : Nat) (hc9 : ∀ sz : Nat, Met l ⟨"SeriesVault", "off", "()V"⟩ [Cond.code ⟨"SeriesVault", "off", "()V"⟩ prog_1_method_12_code 1 none] { frames := fr, cells := mc9, slots := ms9, locals := lo } (pC D dA [.ref h] (VW dA h ad x) sz) (va_Qv (fun (u9 : VS) => F9 u9) (fun (u9 : VS) t9 => bW D (va_A (VW dA h ad x) sz) (VW dA h ad u9) t9) (va_A (VW dA h ad x) sz)) mc9 ms9 (va_A (VW dA h ad x) sz)) : Met l ⟨"SeriesVaultLaw", "off", "(LSeriesVault;)I"⟩ [Cond.codeWith ⟨"SeriesVaultLaw", "off", "(LSeriesVault;)I"⟩ method_24_code 2 (some FieldType.int) [(0, 4, 7, 29)]] { frames := fr + 1, cells := mc9, slots := ms9, locals := lo + 20 } (pC D dA [.ref h] (VW dA h ad x) sz) (va_Qi (fun (r9 : Int32) (u9 : VS) => r9 = 0 ∧ F9 u9) (fun (u9 : VS) t9 => bW D (va_A (VW dA h ad x) sz) (VW dA h ad u9) t9) (va_A (VW dA h ad x) sz)) mc9 ms9 (va_A (VW dA h ad x) sz) := by
  refine mkW (y := ⟨"SeriesVaultLaw", "off", "(LSeriesVault;)I"⟩) (cc := method_24_code) (maxL := 2) (av := [.ref h]) (ws := VW dA h ad x) (sz := sz) (Qc := fun A => va_Qi (fun (r9 : Int32) (u9 : VS) => r9 = 0 ∧ F9 u9) (fun (u9 : VS) t9 => bW D A (VW dA h ad u9) t9) A) (by decide) (Nat.le_of_ble_eq_true rfl) ?_
  intro A p e s m below meth c ls hsz htab hB
  obtain ⟨hx, hb, hr, hml, hown, hin, hlk, hE, hK, hP, hD, hS, hA, hN, hl⟩ := hB
  have hown : s.vm.findClass "SeriesVaultLaw" = some m.cls := hown
  have hl : lv_has ls 2 [(0, .ref h)] := hl
  obtain ⟨H, hH⟩ : ∃ z, z = s.heap := ⟨_, rfl⟩
  have hP : va_P D vwCl (VW dA h ad x) H := by rw [hH]; exact hP
  have hS : va_S A s.heap H [] := by rw [hH]; exact hS
  rw [← hH]
  refine lv_aload_n hx hb d_SeriesVaultLaw_off_0 rfl (lv_at hl 0 rfl) ?_
  refine jkV (wr := []) (rnV (As := []) (rest := []) hx hb hml hown hE hK (hN _ _ hS) hP hD ((fun (_ : Launch) (_ : va_G) (_ : Nat → ClassId) (sz9 : Nat) (_ : Nat) (_ : Nat → Nat) (_ : VS) => hc9 sz9) l D dA H.size h ad x) (q0 := 0) rfl rfl w356 w355 w357 w358 w277 rfl rfl ⟨⟨by decide, by decide⟩, rfl⟩ ⟨(by first | exact Nat.le_of_ble_eq_true rfl | (dsimp only; omega)), (by first | exact Nat.le_of_ble_eq_true rfl | (dsimp only; omega))⟩ rfl hl.1 rfl (by first | exact Nat.le_of_ble_eq_true rfl | (dsimp only; omega)) d_SeriesVaultLaw_off_1 ⟨(show 0 + mc9 ≤ mc9 by omega), (show 0 + ms9 ≤ ms9 by omega)⟩) hP hD hS hA (fun u2 H locs hp9 hP hD hS => ?_)
  obtain ⟨u8, h9u⟩ : ∃ z9, z9 = u2 := ⟨_, rfl⟩
  subst h9u
  have hP : va_P D vwCl (VW dA h ad u8) H := hP
  have hD : va_D A (VW dA h ad u8) := hD
  have f_f_3 := hp9
  refine lv_goto hx hb d_SeriesVaultLaw_off_4 (tgt := 10) rfl ?_
  refine lv_iconst (v := 0) hx hb d_SeriesVaultLaw_off_10 (by decide) ?_
  exact rfI hx hb hr hlk hS u8 ⟨rfl, f_f_3⟩ hP hD (show 0 + mc9 ≤ mc9 by omega) (show 0 + ms9 ≤ ms9 by omega) d_SeriesVaultLaw_off_11
theorem d_SeriesVaultLaw_off_7 : decode method_24_code 7 = .ok (.astore_n 1, 1) := by decide +kernel
theorem d_SeriesVaultLaw_off_8 : decode method_24_code 8 = .ok (.iconst 1, 1) := by decide +kernel
theorem d_SeriesVaultLaw_off_9 : decode method_24_code 9 = .ok (.ireturn, 1) := by decide +kernel
set_option maxHeartbeats 4000000 in
set_option maxRecDepth 100000 in
theorem k8_off_1 (l : Launch) (D : va_G) (dA : Nat → ClassId) (sz : Nat) (h : Nat) (ad : Nat → Nat) (x : VS) (F9 : VS → Prop) (fr : Nat) (lo : Nat) (mc9 : Nat) (ms9 : Nat) (hc9 : ∀ sz : Nat, mX l ⟨"SeriesVault", "off", "()V"⟩ [Cond.code ⟨"SeriesVault", "off", "()V"⟩ prog_1_method_12_code 1 none] { frames := fr, cells := mc9, slots := ms9, locals := lo } (pC D dA [.ref h] (VW dA h ad x) sz) "java/lang/IllegalStateException" (fun st9 t9 => va_F (va_A (VW dA h ad x) sz) st9 t9 ∧ ∃ u9 : VS, F9 u9 ∧ bW D (va_A (VW dA h ad x) sz) (VW dA h ad u9) t9) mc9 ms9 (va_A (VW dA h ad x) sz)) : Met l ⟨"SeriesVaultLaw", "off", "(LSeriesVault;)I"⟩ [Cond.codeWith ⟨"SeriesVaultLaw", "off", "(LSeriesVault;)I"⟩ method_24_code 2 (some FieldType.int) [(0, 4, 7, 29)]] { frames := fr + 1, cells := mc9, slots := ms9, locals := lo + 20 } (pC D dA [.ref h] (VW dA h ad x) sz) (va_Qi (fun (r9 : Int32) (u9 : VS) => r9 = 1 ∧ F9 u9) (fun (u9 : VS) t9 => bW D (va_A (VW dA h ad x) sz) (VW dA h ad u9) t9) (va_A (VW dA h ad x) sz)) mc9 ms9 (va_A (VW dA h ad x) sz) := by
  refine mkW (y := ⟨"SeriesVaultLaw", "off", "(LSeriesVault;)I"⟩) (cc := method_24_code) (maxL := 2) (av := [.ref h]) (ws := VW dA h ad x) (sz := sz) (Qc := fun A => va_Qi (fun (r9 : Int32) (u9 : VS) => r9 = 1 ∧ F9 u9) (fun (u9 : VS) t9 => bW D A (VW dA h ad u9) t9) A) (by decide) (Nat.le_of_ble_eq_true rfl) ?_
  intro A p e s m below meth c ls hsz htab hB
  obtain ⟨hx, hb, hr, hml, hown, hin, hlk, hE, hK, hP, hD, hS, hA, hN, hl⟩ := hB
  have hown : s.vm.findClass "SeriesVaultLaw" = some m.cls := hown
  have hl : lv_has ls 2 [(0, .ref h)] := hl
  obtain ⟨H, hH⟩ : ∃ z, z = s.heap := ⟨_, rfl⟩
  have hP : va_P D vwCl (VW dA h ad x) H := by rw [hH]; exact hP
  have hS : va_S A s.heap H [] := by rw [hH]; exact hS
  rw [← hH]
  refine lv_aload_n hx hb d_SeriesVaultLaw_off_0 rfl (lv_at hl 0 rfl) ?_
  refine xkV (S := VS) (F := F9) (w1 := fun u => VW dA h ad u) (wr := []) (As := []) (rest := []) hx hb hml hown hE hK (hN _ _ hS) (hc9 H.size) (q0 := 0) rfl rfl w356 w355 w357 w358 w277 rfl rfl ⟨⟨by decide, by decide⟩, rfl⟩ ⟨(by first | exact Nat.le_of_ble_eq_true rfl | (dsimp only; omega)), (by first | exact Nat.le_of_ble_eq_true rfl | (dsimp only; omega))⟩ rfl hl.1 rfl (by first | exact Nat.le_of_ble_eq_true rfl | (dsimp only; omega)) d_SeriesVaultLaw_off_1 ⟨(show 0 + mc9 ≤ mc9 by omega), (show 0 + ms9 ≤ ms9 by omega)⟩ hP hD hS hA (fun u2 xa1 ce H locs hf9 hP hD hS hce hcv hcl => ?_)
  have hP : va_P D vwCl (VW dA h ad u2) H := hP
  have hD : va_D A (VW dA h ad u2) := hD
  refine xCatch (E := "java/lang/IllegalStateException") hown hE [] ⟨0, 4, 7, 29⟩ [] htab (fun _ h => absurd h List.not_mem_nil) (by decide) (by decide) w363 w289 hce hcv hcl ?_
  refine lv_astore_n hx hb d_SeriesVaultLaw_off_7 rfl hl (by decide) rfl (fun ls hl => ?_)
  have hl : lv_has ls 2 [(1, .ref xa1), (0, .ref h)] := hl
  refine lv_iconst (v := 1) hx hb d_SeriesVaultLaw_off_8 (by decide) ?_
  exact rfI hx hb hr hlk hS u2 ⟨rfl, hf9⟩ hP hD (show 0 + mc9 ≤ mc9 by omega) (show 0 + ms9 ≤ ms9 by omega) d_SeriesVaultLaw_off_9
theorem d_SeriesVaultLaw_start_6 : decode method_25_code 6 = .ok (.i2l, 1) := by decide +kernel
theorem d_SeriesVaultLaw_start_7 : decode method_25_code 7 = .ok (.lastore, 1) := by decide +kernel
theorem d_SeriesVaultLaw_start_8 : decode method_25_code 8 = .ok (.goto 6, 3) := by decide +kernel
theorem d_SeriesVaultLaw_start_14 : decode method_25_code 14 = .ok (.iconst 0, 1) := by decide +kernel
theorem d_SeriesVaultLaw_start_15 : decode method_25_code 15 = .ok (.ireturn, 1) := by decide +kernel
set_option maxHeartbeats 4000000 in
set_option maxRecDepth 100000 in
theorem k8_start (l : Launch) (D : va_G) (dA : Nat → ClassId) (sz : Nat) (h : Nat) (ad : Nat → Nat) (o : Nat) (og : Nat → Int64) (x : VS) (v9 : Int32) (F9 : VS → Prop) (fr : Nat) (lo : Nat) (mc9 : Nat) (ms9 : Nat) (hc9 : ∀ sz : Nat, Met l ⟨"SeriesVault", "start", "()I"⟩ [Cond.code ⟨"SeriesVault", "start", "()I"⟩ prog_1_method_18_code 2 (some FieldType.int)] { frames := fr, cells := mc9, slots := ms9, locals := lo } (pC D dA [.ref h] (VW dA h ad x) sz) (va_Qi (fun (r9 : Int32) (u9 : VS) => r9 = v9 ∧ F9 u9) (fun (u9 : VS) t9 => bW D (va_A (VW dA h ad x) sz) (VW dA h ad u9) t9) (va_A (VW dA h ad x) sz)) mc9 ms9 (va_A (VW dA h ad x) sz)) : Met l ⟨"SeriesVaultLaw", "start", "(LSeriesVault;[J)I"⟩ [Cond.codeWith ⟨"SeriesVaultLaw", "start", "(LSeriesVault;[J)I"⟩ method_25_code 3 (some FieldType.int) [(0, 8, 11, 29)]] { frames := fr + 1, cells := mc9, slots := ms9, locals := lo + 21 } (pC D dA [.ref h, .ref o] ([(o, .inl (dA 2, 1, .inr (.inl og)))] ++ (VW dA h ad x)) sz) (va_Qi (fun (r9 : Int32) (u9 : VS) => r9 = 0 ∧ F9 u9) (fun (u9 : VS) t9 => bW D (va_A ([(o, .inl (dA 2, 1, .inr (.inl og)))] ++ (VW dA h ad x)) sz) ([(o, .inl (dA 2, 1, .inr (.inl (va_up og 0 (v9.toInt64)))))] ++ (VW dA h ad u9)) t9) (va_A ([(o, .inl (dA 2, 1, .inr (.inl og)))] ++ (VW dA h ad x)) sz)) mc9 ms9 (va_A ([(o, .inl (dA 2, 1, .inr (.inl og)))] ++ (VW dA h ad x)) sz) := by
  refine mkW (y := ⟨"SeriesVaultLaw", "start", "(LSeriesVault;[J)I"⟩) (cc := method_25_code) (maxL := 3) (av := [.ref h, .ref o]) (ws := [(o, .inl (dA 2, 1, .inr (.inl og)))] ++ (VW dA h ad x)) (sz := sz) (Qc := fun A => va_Qi (fun (r9 : Int32) (u9 : VS) => r9 = 0 ∧ F9 u9) (fun (u9 : VS) t9 => bW D A ([(o, .inl (dA 2, 1, .inr (.inl (va_up og 0 (v9.toInt64)))))] ++ (VW dA h ad u9)) t9) A) (by decide) (Nat.le_of_ble_eq_true rfl) ?_
  intro A p e s m below meth c ls hsz htab hB
  obtain ⟨hx, hb, hr, hml, hown, hin, hlk, hE, hK, hP, hD, hS, hA, hN, hl⟩ := hB
  have hown : s.vm.findClass "SeriesVaultLaw" = some m.cls := hown
  have hl : lv_has ls 3 [(0, .ref h), (1, .ref o)] := hl
  obtain ⟨H, hH⟩ : ∃ z, z = s.heap := ⟨_, rfl⟩
  have hP : va_P D vwCl ([(o, .inl (dA 2, 1, .inr (.inl og)))] ++ (VW dA h ad x)) H := by rw [hH]; exact hP
  have hS : va_S A s.heap H [] := by rw [hH]; exact hS
  rw [← hH]
  refine lv_aload_n hx hb d_SeriesVaultLaw_start_0 rfl (lv_at hl 1 rfl) ?_
  refine lv_iconst (v := 0) hx hb d_SeriesVaultLaw_start_1 (by decide) ?_
  refine lv_aload_n hx hb d_SeriesVaultLaw_start_2 rfl (lv_at hl 0 rfl) ?_
  have hPc : va_P D vwCl (VW dA h ad x) H := spP (wr := [(o, .inl (dA 2, 1, .inr (.inl og)))]) hP
  have hDc : va_D A (VW dA h ad x) := spD (wr := [(o, .inl (dA 2, 1, .inr (.inl og)))]) hD
  refine jkI (wr := [(o, .inl (dA 2, 1, .inr (.inl og)))]) (rnV (As := []) (rest := [.int 0, .ref o]) hx hb hml hown hE hK (hN _ _ hS) hPc hDc ((fun (_ : Launch) (_ : va_G) (_ : Nat → ClassId) (sz9 : Nat) (_ : Nat) (_ : Nat → Nat) (_ : VS) => hc9 sz9) l D dA H.size h ad x) (q0 := 0) rfl rfl w365 w364 w366 w367 w277 rfl rfl ⟨⟨by decide, by decide⟩, rfl⟩ ⟨(by first | exact Nat.le_of_ble_eq_true rfl | (dsimp only; omega)), (by first | exact Nat.le_of_ble_eq_true rfl | (dsimp only; omega))⟩ rfl hl.1 rfl (by first | exact Nat.le_of_ble_eq_true rfl | (dsimp only; omega)) d_SeriesVaultLaw_start_3 ⟨(show 0 + mc9 ≤ mc9 by omega), (show 0 + ms9 ≤ ms9 by omega)⟩) hP hD hS hA (fun r1 u2 H locs hp9 hP hD hS => ?_)
  obtain ⟨u8, h9u⟩ : ∃ z9, z9 = u2 := ⟨_, rfl⟩
  subst h9u
  have hP : va_P D vwCl ([(o, .inl (dA 2, 1, .inr (.inl og)))] ++ (VW dA h ad u8)) H := hP
  have hD : va_D A ([(o, .inl (dA 2, 1, .inr (.inl og)))] ++ (VW dA h ad u8)) := hD
  obtain ⟨hp9, f_f_3⟩ := hp9
  replace hp9 : v9 = r1 := Eq.symm hp9
  subst hp9
  refine lv_i2l hx hb d_SeriesVaultLaw_start_6 rfl ?_
  refine nlst (n := 1) hx hb hK hP hD hS (0) 2 rfl rfl (0) (by omega) (by decide) d_SeriesVaultLaw_start_7 (fun H locs hP hD hS => ?_)
  have hP : va_P D vwCl ([(o, .inl (dA 2, 1, .inr (.inl (va_up og 0 v9.toInt64))))] ++ (VW dA h ad u8)) H := hP
  have hD : va_D A ([(o, .inl (dA 2, 1, .inr (.inl (va_up og 0 v9.toInt64))))] ++ (VW dA h ad u8)) := hD
  refine lv_goto hx hb d_SeriesVaultLaw_start_8 (tgt := 14) rfl ?_
  refine lv_iconst (v := 0) hx hb d_SeriesVaultLaw_start_14 (by decide) ?_
  exact rfI hx hb hr hlk hS u8 ⟨rfl, f_f_3⟩ hP hD (show 0 + mc9 ≤ mc9 by omega) (show 0 + ms9 ≤ ms9 by omega) d_SeriesVaultLaw_start_15
set_option maxHeartbeats 4000000 in
set_option maxRecDepth 100000 in
theorem k8_start_1 (l : Launch) (D : va_G) (dA : Nat → ClassId) (sz : Nat) (h : Nat) (ad : Nat → Nat) (o : Nat) (og : Nat → Int64) (x : VS) (F9 : VS → Prop) (fr : Nat) (lo : Nat) (mc9 : Nat) (ms9 : Nat) (hc9 : ∀ sz : Nat, mX l ⟨"SeriesVault", "start", "()I"⟩ [Cond.code ⟨"SeriesVault", "start", "()I"⟩ prog_1_method_18_code 2 (some FieldType.int)] { frames := fr, cells := mc9, slots := ms9, locals := lo } (pC D dA [.ref h] (VW dA h ad x) sz) "java/lang/IllegalStateException" (fun st9 t9 => va_F (va_A (VW dA h ad x) sz) st9 t9 ∧ ∃ u9 : VS, F9 u9 ∧ bW D (va_A (VW dA h ad x) sz) (VW dA h ad u9) t9) mc9 ms9 (va_A (VW dA h ad x) sz)) : Met l ⟨"SeriesVaultLaw", "start", "(LSeriesVault;[J)I"⟩ [Cond.codeWith ⟨"SeriesVaultLaw", "start", "(LSeriesVault;[J)I"⟩ method_25_code 3 (some FieldType.int) [(0, 8, 11, 29)]] { frames := fr + 1, cells := mc9, slots := ms9, locals := lo + 21 } (pC D dA [.ref h, .ref o] ([(o, .inl (dA 2, 1, .inr (.inl og)))] ++ (VW dA h ad x)) sz) (va_Qi (fun (r9 : Int32) (u9 : VS) => r9 = 1 ∧ F9 u9) (fun (u9 : VS) t9 => bW D (va_A ([(o, .inl (dA 2, 1, .inr (.inl og)))] ++ (VW dA h ad x)) sz) ([(o, .inl (dA 2, 1, .inr (.inl og)))] ++ (VW dA h ad u9)) t9) (va_A ([(o, .inl (dA 2, 1, .inr (.inl og)))] ++ (VW dA h ad x)) sz)) mc9 ms9 (va_A ([(o, .inl (dA 2, 1, .inr (.inl og)))] ++ (VW dA h ad x)) sz) := by
  refine mkW (y := ⟨"SeriesVaultLaw", "start", "(LSeriesVault;[J)I"⟩) (cc := method_25_code) (maxL := 3) (av := [.ref h, .ref o]) (ws := [(o, .inl (dA 2, 1, .inr (.inl og)))] ++ (VW dA h ad x)) (sz := sz) (Qc := fun A => va_Qi (fun (r9 : Int32) (u9 : VS) => r9 = 1 ∧ F9 u9) (fun (u9 : VS) t9 => bW D A ([(o, .inl (dA 2, 1, .inr (.inl og)))] ++ (VW dA h ad u9)) t9) A) (by decide) (Nat.le_of_ble_eq_true rfl) ?_
  intro A p e s m below meth c ls hsz htab hB
  obtain ⟨hx, hb, hr, hml, hown, hin, hlk, hE, hK, hP, hD, hS, hA, hN, hl⟩ := hB
  have hown : s.vm.findClass "SeriesVaultLaw" = some m.cls := hown
  have hl : lv_has ls 3 [(0, .ref h), (1, .ref o)] := hl
  obtain ⟨H, hH⟩ : ∃ z, z = s.heap := ⟨_, rfl⟩
  have hP : va_P D vwCl ([(o, .inl (dA 2, 1, .inr (.inl og)))] ++ (VW dA h ad x)) H := by rw [hH]; exact hP
  have hS : va_S A s.heap H [] := by rw [hH]; exact hS
  rw [← hH]
  refine lv_aload_n hx hb d_SeriesVaultLaw_start_0 rfl (lv_at hl 1 rfl) ?_
  refine lv_iconst (v := 0) hx hb d_SeriesVaultLaw_start_1 (by decide) ?_
  refine lv_aload_n hx hb d_SeriesVaultLaw_start_2 rfl (lv_at hl 0 rfl) ?_
  refine xkV (S := VS) (F := F9) (w1 := fun u => VW dA h ad u) (wr := [(o, .inl (dA 2, 1, .inr (.inl og)))]) (As := []) (rest := [.int 0, .ref o]) hx hb hml hown hE hK (hN _ _ hS) (hc9 H.size) (q0 := 0) rfl rfl w365 w364 w366 w367 w277 rfl rfl ⟨⟨by decide, by decide⟩, rfl⟩ ⟨(by first | exact Nat.le_of_ble_eq_true rfl | (dsimp only; omega)), (by first | exact Nat.le_of_ble_eq_true rfl | (dsimp only; omega))⟩ rfl hl.1 rfl (by first | exact Nat.le_of_ble_eq_true rfl | (dsimp only; omega)) d_SeriesVaultLaw_start_3 ⟨(show 0 + mc9 ≤ mc9 by omega), (show 0 + ms9 ≤ ms9 by omega)⟩ hP hD hS hA (fun u2 xa1 ce H locs hf9 hP hD hS hce hcv hcl => ?_)
  have hP : va_P D vwCl ([(o, .inl (dA 2, 1, .inr (.inl og)))] ++ (VW dA h ad u2)) H := hP
  have hD : va_D A ([(o, .inl (dA 2, 1, .inr (.inl og)))] ++ (VW dA h ad u2)) := hD
  refine xCatch (E := "java/lang/IllegalStateException") hown hE [] ⟨0, 8, 11, 29⟩ [] htab (fun _ h => absurd h List.not_mem_nil) (by decide) (by decide) w363 w289 hce hcv hcl ?_
  refine lv_astore_n hx hb d_SeriesVaultLaw_start_11 rfl hl (by decide) rfl (fun ls hl => ?_)
  have hl : lv_has ls 3 [(2, .ref xa1), (0, .ref h), (1, .ref o)] := hl
  refine lv_iconst (v := 1) hx hb d_SeriesVaultLaw_start_12 (by decide) ?_
  exact rfI hx hb hr hlk hS u2 ⟨rfl, hf9⟩ hP hD (show 0 + mc9 ≤ mc9 by omega) (show 0 + ms9 ≤ ms9 by omega) d_SeriesVaultLaw_start_13
end
section
/-! THE CLAIM OUT OF ONE WALK OF THE LAW'S BODY. Your part is whole_start (and what it stands on); all else here is the same for every law, but numbers. -/
def R_law : String := "SeriesVaultLaw"
def lw_P (b : Addr) (xs : List Int32) (args : Array Value) (s : State) : Prop := args = #[.ref b] ∧ s.IntsAt b xs ∧ xs.length ≤ 3072 ∧ (Jvm.Cond.and given_1 narrow_1).before args s = true
def lw_Q (_ : Array Value) (s : State) (o : Outcome) (t : State) : Prop := o = .returned (some (.int 1)) ∧ Framed s o t [] 601024 7293034
def lw_Z (below : List Frame) (a : Array Value) (s : State) : State → Prop := fun t => ∃ o, t.status = .running ∧ Ended t below o ∧ lw_Q a s o t
/-- the law's own end, with 1 on the stack, nothing written that was there before, its room as the claim has it -/
theorem lw_ret {p : Program} {l : Launch} {e : Env} {s : State} {m : MethodId} {below : List Frame} {meth : Method} {c : Code} {b : Nat} (hx : p.tables.exec = Jvm.exec) (hb : c.code = code) (hr : meth.sig.returnType = ret) (hlocks : meth.locks = false) {pc : Nat} {H : Heap} {ls : Array Slot} (hdg : decode code pc = .ok (.ireturn, 1)) : W p l e room_1 s m #[Value.ref b] below meth c H [] 601024 7293034 (lw_Z below #[Value.ref b] s) (F0 m pc ls [.int 1]) := by
  intro T hT X
  obtain ⟨fs, hret, hrun, hended, hW, hframe⟩ := X.leave (v := some (.int 1)) (hlocks := hlocks) (fun h => by rw [hr] at h; cases h)
  have hmeth' : T.vm.method? m = some meth := X.method'
  refine ⟨T.setFrames fs, ?_, .returned (some (.int 1)), hrun, hended, rfl, ⟨_, rfl⟩, hW, hframe⟩
  jvm_step X.here [X.here.top, hx, hb, hdg, hmeth', hr, ret, narrow_b1]
  (try refine ⟨rfl, ?_⟩); (try refine ⟨rfl, ?_⟩)
  first | (intro acts; rw [hret _ acts rfl rfl rfl]) | rw [hret _ _ rfl rfl rfl]
  exact Steps.refl _
/-- what holds at the law's entry: the machine, the code, the tables' words (any of lw_tbl by 'hts w (by decide +kernel)'), the script of L ints xs at the cell b, what the Statement gives of the start (any of its parts by flat_of_before) -/
def lw_At (p : Program) (s : State) (m : MethodId) (meth : Method) (c : Code) (b L : Nat) (xs : Nat → Int32) : Prop :=
  p.tables.exec = Jvm.exec ∧ c.code = code ∧ meth.sig.returnType = ret ∧ c.maxLocals = 8 ∧ s.vm.findClass R_law = some m.cls ∧ (∀ w ∈ lw_tbl, w.before #[Value.ref b] s = true) ∧ va_X b L xs s s.heap ∧ b < s.heap.size ∧ meth.locks = false ∧ (Jvm.Cond.and given_1 narrow_1).before #[Value.ref b] s = true
theorem w851 : Cond.laysStatic "java/lang/Throwable" "UNASSIGNED_STACK" "[Ljava/lang/StackTraceElement;" ∈ aW := aw_of (tb_3 (List.mem_of_getElem? (i := 82) rfl)) rfl
theorem w852 : Cond.laysStatic "java/lang/Throwable" "SUPPRESSED_SENTINEL" "Ljava/util/List;" ∈ aW := aw_of (tb_3 (List.mem_of_getElem? (i := 84) rfl)) rfl
theorem w853 : Cond.laysStatic "java/util/ArrayList" "DEFAULTCAPACITY_EMPTY_ELEMENTDATA" "[Ljava/lang/Object;" ∈ aW := aw_of (tb_1 (List.mem_of_getElem? (i := 232) rfl)) rfl
theorem w854 : Cond.instantiable "SeriesVault" 18 ∈ aW := aw_of (tb_1 (List.mem_of_getElem? (i := 39) rfl)) rfl
theorem w855 : Cond.instantiable "SeriesVaultModel" 79 ∈ aW := aw_of (tb_8 (List.mem_of_getElem? (i := 165) rfl)) rfl
theorem cw_args {w : Cond} {a : Array Value} {s : State} (hc : cw_b w = true) (h : w.before a s = true) : w.before #[] s = true := by
  cases w <;> first | exact h | exact va_tabs rfl rfl h | exact absurd hc (by simp [cw_b, goodWord, Cond.onTables, Cond.keeps])
/-- what holds all along the law -/
def lS (p : Program) (l : Launch) (s : State) (m : MethodId) (meth : Method) (c : Code) (b L : Nat) (xs : Nat → Int32) (D : va_G) (dA : Nat → ClassId) (e0 : Nat) (A : Nat → Prop) : Prop :=
  p.tables.exec = Jvm.exec ∧ c.code = code ∧ meth.sig.returnType = ret ∧ c.maxLocals = 8 ∧ s.vm.findClass "SeriesVaultLaw" = some m.cls ∧ meth.locks = false ∧ eV s ∧ va_K D vwCl (arT dA) s ∧ (∀ q : Nat, s.heap.size ≤ q → A q) ∧ (∀ (H : Heap) (L : List Loc), va_S A s.heap H L → sK s.heap H) ∧ zZ e0 A s s.heap ∧ zT e0 A s s.heap ∧ va_X b L xs s s.heap ∧ b < s.heap.size ∧ ¬ A b ∧ (∀ q : Nat, A q → s.heap.size ≤ q) ∧ l.stackTraces = false
theorem in_cl {s : State} (hE : eV s) : ∀ k : Nat, ∃ z : ClassId × (Nat → Nat), ∀ q : vw_C, vwCl[k]? = some q → u_Kn s q.1 q.2.1 q.2.2 z.1 z.2 := by
  intro k
  match k with
  | 0 => obtain ⟨a1, a2, h⟩ := u_known (ws := aW) (args := #[]) hE.1 layV (hE.1 _ w854); exact ⟨(a1, a2), fun q hq => by obtain rfl : (("SeriesVault", TV, 18) : vw_C) = q := Option.some.inj hq; exact h⟩
  | 1 => obtain ⟨a1, a2, h⟩ := u_known (ws := aW) (args := #[]) hE.1 layJ (hE.1 _ w817); exact ⟨(a1, a2), fun q hq => by obtain rfl : (("SeriesVault$Journal", TJ, 13) : vw_C) = q := Option.some.inj hq; exact h⟩
  | 2 => obtain ⟨a1, a2, h⟩ := u_known (ws := aW) (args := #[]) hE.1 layP (hE.1 _ w822); exact ⟨(a1, a2), fun q hq => by obtain rfl : (("SeriesVault$Points", TP, 4) : vw_C) = q := Option.some.inj hq; exact h⟩
  | 3 => obtain ⟨a1, a2, h⟩ := u_known (ws := aW) (args := #[]) hE.1 layH (hE.1 _ w828); exact ⟨(a1, a2), fun q hq => by obtain rfl : (("SeriesVault$Shelf", TH, 11) : vw_C) = q := Option.some.inj hq; exact h⟩
  | 4 => obtain ⟨a1, a2, h⟩ := u_known (ws := aW) (args := #[]) hE.1 layR (hE.1 _ w835); exact ⟨(a1, a2), fun q hq => by obtain rfl : (("SeriesVault$SeriesReader", TR, 6) : vw_C) = q := Option.some.inj hq; exact h⟩
  | 5 => obtain ⟨a1, a2, h⟩ := u_known (ws := aW) (args := #[]) hE.1 layQ (hE.1 _ w840); exact ⟨(a1, a2), fun q hq => by obtain rfl : (("SeriesVault$Question", TQ, 9) : vw_C) = q := Option.some.inj hq; exact h⟩
  | 6 => obtain ⟨a1, a2, h⟩ := u_known (ws := aW) (args := #[]) hE.1 layL (hE.1 _ w792); exact ⟨(a1, a2), fun q hq => by obtain rfl : (("java/util/ArrayList", TL, 3) : vw_C) = q := Option.some.inj hq; exact h⟩
  | 7 => obtain ⟨a1, a2, h⟩ := u_known (ws := aW) (args := #[]) hE.1 layA (hE.1 _ w845); exact ⟨(a1, a2), fun q hq => by obtain rfl : (("SeriesVault$Answers", TA, 10) : vw_C) = q := Option.some.inj hq; exact h⟩
  | 8 => obtain ⟨a1, a2, h⟩ := u_known (ws := aW) (args := #[]) hE.1 layT (hE.1 _ w806); exact ⟨(a1, a2), fun q hq => by obtain rfl : (("SeriesVault$Table", TT, 7) : vw_C) = q := Option.some.inj hq; exact h⟩
  | 9 => obtain ⟨a1, a2, h⟩ := u_known (ws := aW) (args := #[]) hE.1 layM (hE.1 _ w855); exact ⟨(a1, a2), fun q hq => by obtain rfl : (("SeriesVaultModel", TM, 79) : vw_C) = q := Option.some.inj hq; exact h⟩
  | 10 => obtain ⟨a1, a2, h⟩ := u_known (ws := aW) (args := #[]) hE.1 layW (hE.1 _ w856); exact ⟨(a1, a2), fun q hq => by obtain rfl : (("SeriesVault$Word", TW, 1) : vw_C) = q := Option.some.inj hq; exact h⟩
  | 11 => obtain ⟨a1, a2, h⟩ := u_known (ws := aW) (args := #[]) hE.1 layS (hE.1 _ w857); exact ⟨(a1, a2), fun q hq => by obtain rfl : (("SeriesVault$Series", TS, 4) : vw_C) = q := Option.some.inj hq; exact h⟩
  | 12 => obtain ⟨a1, a2, h⟩ := u_known (ws := aW) (args := #[]) hE.1 layC (hE.1 _ w858); exact ⟨(a1, a2), fun q hq => by obtain rfl : (("SeriesVault$Parcel", TC, 8) : vw_C) = q := Option.some.inj hq; exact h⟩
  | 13 => obtain ⟨a1, a2, h⟩ := u_known (ws := aW) (args := #[]) hE.1 layE (hE.1 _ w859); exact ⟨(a1, a2), fun q hq => by obtain rfl : (("SeriesVault$Step", TE, 8) : vw_C) = q := Option.some.inj hq; exact h⟩
  | n + 14 => exact ⟨(default, fun _ => 0), fun q hq => nomatch (show (none : Option vw_C) = some q from hq)⟩
abbrev arTy : List FieldType := [.byte, .int, .long, .boolean, .object "SeriesVault$Parcel", .object "SeriesVault$Series", .object "SeriesVault$Word", .object "java/lang/Object"]
theorem in_ar {s : State} (hE : eV s) : ∀ k : Nat, ∃ z : ClassId, ∀ q : FieldType, arTy[k]? = some q → ArrOfT s z q ∧ va_RA s z q := by
  intro k
  match k with
  | 0 => obtain ⟨cA, kA, comp, h1, h2, h3⟩ := Cond.arrayClass_spec (hE.1 _ w496); exact ⟨cA, fun q hq => by obtain rfl : (.byte : FieldType) = q := Option.some.inj hq; exact ⟨fun N z => ⟨(fun k h => by cases h), kA, h2, comp, h3⟩, h1⟩⟩
  | 1 => obtain ⟨cA, kA, comp, h1, h2, h3⟩ := Cond.arrayClass_spec (hE.1 _ w184); exact ⟨cA, fun q hq => by obtain rfl : (.int : FieldType) = q := Option.some.inj hq; exact ⟨fun N z => ⟨(fun k h => by cases h), kA, h2, comp, h3⟩, h1⟩⟩
  | 2 => obtain ⟨cA, kA, comp, h1, h2, h3⟩ := Cond.arrayClass_spec (hE.1 _ w186); exact ⟨cA, fun q hq => by obtain rfl : (.long : FieldType) = q := Option.some.inj hq; exact ⟨fun N z => ⟨(fun k h => by cases h), kA, h2, comp, h3⟩, h1⟩⟩
  | 3 => obtain ⟨cA, kA, comp, h1, h2, h3⟩ := Cond.arrayClass_spec (hE.1 _ w525); exact ⟨cA, fun q hq => by obtain rfl : (.boolean : FieldType) = q := Option.some.inj hq; exact ⟨fun N z => ⟨(fun k h => by cases h), kA, h2, comp, h3⟩, h1⟩⟩
  | 4 => obtain ⟨comp, cA, kA, h1, h2, h3, h4, h5⟩ := Cond.arrayOver_spec (hE.1 _ w198); exact ⟨cA, fun q hq => by obtain rfl : (.object "SeriesVault$Parcel" : FieldType) = q := Option.some.inj hq; exact ⟨fun N z => ⟨(fun k h => by cases h), kA, h3, comp, h4⟩, kA, comp, h3, h4, h1, h5⟩⟩
  | 5 => obtain ⟨comp, cA, kA, h1, h2, h3, h4, h5⟩ := Cond.arrayOver_spec (hE.1 _ w786); exact ⟨cA, fun q hq => by obtain rfl : (.object "SeriesVault$Series" : FieldType) = q := Option.some.inj hq; exact ⟨fun N z => ⟨(fun k h => by cases h), kA, h3, comp, h4⟩, kA, comp, h3, h4, h1, h5⟩⟩
  | 6 => obtain ⟨comp, cA, kA, h1, h2, h3, h4, h5⟩ := Cond.arrayOver_spec (hE.1 _ w783); exact ⟨cA, fun q hq => by obtain rfl : (.object "SeriesVault$Word" : FieldType) = q := Option.some.inj hq; exact ⟨fun N z => ⟨(fun k h => by cases h), kA, h3, comp, h4⟩, kA, comp, h3, h4, h1, h5⟩⟩
  | 7 => obtain ⟨comp, cA, kA, h1, h2, h3, h4, h5⟩ := Cond.arrayOver_spec (hE.1 _ w767); exact ⟨cA, fun q hq => by obtain rfl : (.object "java/lang/Object" : FieldType) = q := Option.some.inj hq; exact ⟨fun N z => ⟨(fun k h => by cases h), kA, h3, comp, h4⟩, kA, comp, h3, h4, h1, h5⟩⟩
  | n + 8 => exact ⟨default, fun q hq => nomatch (show (none : Option FieldType) = some q from hq)⟩
theorem in_ar2 {s : State} {dA : Nat → ClassId} (h : ∀ (k : Nat) (q : FieldType), arTy[k]? = some q → ArrOfT s (dA k) q ∧ va_RA s (dA k) q) : ∀ (k : Nat) (q : ClassId × FieldType), (arT dA)[k]? = some q → ArrOfT s q.1 q.2 ∧ va_RA s q.1 q.2 := by
  intro k q hq
  match k, hq with
  | 0 , hq => obtain rfl : ((dA 0, .byte) : ClassId × FieldType) = q := Option.some.inj hq; exact h 0 _ rfl
  | 1 , hq => obtain rfl : ((dA 1, .int) : ClassId × FieldType) = q := Option.some.inj hq; exact h 1 _ rfl
  | 2 , hq => obtain rfl : ((dA 2, .long) : ClassId × FieldType) = q := Option.some.inj hq; exact h 2 _ rfl
  | 3 , hq => obtain rfl : ((dA 3, .boolean) : ClassId × FieldType) = q := Option.some.inj hq; exact h 3 _ rfl
  | 4 , hq => obtain rfl : ((dA 4, .object "SeriesVault$Parcel") : ClassId × FieldType) = q := Option.some.inj hq; exact h 4 _ rfl
  | 5 , hq => obtain rfl : ((dA 5, .object "SeriesVault$Series") : ClassId × FieldType) = q := Option.some.inj hq; exact h 5 _ rfl
  | 6 , hq => obtain rfl : ((dA 6, .object "SeriesVault$Word") : ClassId × FieldType) = q := Option.some.inj hq; exact h 6 _ rfl
  | 7 , hq => obtain rfl : ((dA 7, .object "java/lang/Object") : ClassId × FieldType) = q := Option.some.inj hq; exact h 7 _ rfl
  | n + 8, hq => exact nomatch (show (none : Option (ClassId × FieldType)) = some q from hq)
theorem law_in {p : Program} {s : State} {m : MethodId} {meth : Method} {c : Code} (l : Launch) (hfl : l.flags = flags0) {b L : Nat} {xs : Nat → Int32} (C0 : lw_At p s m meth c b L xs) : ∃ (D : va_G) (dA : Nat → ClassId) (e0 : Nat), lS p l s m meth c b L xs D dA e0 (fun q => s.heap.size ≤ q) := by
  obtain ⟨hx, hb, hr, hml, hown, hts, hX, hbl, hlk, hgv⟩ := C0
  have hs := flat_of_before _ hgv
  have hW : ∀ w ∈ aW, w.before #[] s = true := fun w hw => cw_args (List.mem_filter.mp hw).2 (hts w (List.mem_filter.mp hw).1)
  have hzU : (Cond.isRef (.static "java/lang/Throwable" "UNASSIGNED_STACK" "[Ljava/lang/StackTraceElement;")).before #[Value.ref b] s = true := hs _ (by decide +kernel)
  have hzS : (Cond.isRef (.static "java/lang/Throwable" "SUPPRESSED_SENTINEL" "Ljava/util/List;")).before #[Value.ref b] s = true := hs _ (by decide +kernel)
  have hNc : ∀ q ∈ ncL, va_Nc q.1 q.2 s := List.forall_mem_cons.mpr ⟨va_Nc.of (hs _ (by decide +kernel)), List.forall_mem_cons.mpr ⟨va_Nc.of (hs _ (by decide +kernel)), List.forall_mem_cons.mpr ⟨va_Nc.of (hs _ (by decide +kernel)), List.forall_mem_cons.mpr ⟨va_Nc.of (hs _ (by decide +kernel)), List.forall_mem_cons.mpr ⟨va_Nc.of (hs _ (by decide +kernel)), List.forall_mem_cons.mpr ⟨va_Nc.of (hs _ (by decide +kernel)), fun _ h => absurd h List.not_mem_nil⟩⟩⟩⟩⟩⟩
  have hE : eV s := ⟨hW, hW _ w851, hW _ w852, hzU, hzS, hNc⟩
  have harr : (Cond.arrayOf (Term.static "java/util/ArrayList" "DEFAULTCAPACITY_EMPTY_ELEMENTDATA" "[Ljava/lang/Object;") (.object "java/lang/Object")).before #[Value.ref b] s = true := hs _ (by decide +kernel)
  have hlen : (Cond.eq (.length (Term.static "java/util/ArrayList" "DEFAULTCAPACITY_EMPTY_ELEMENTDATA" "[Ljava/lang/Object;")) (.int 0)).before #[Value.ref b] s = true := hs _ (by decide +kernel)
  have hA : ∀ a : Nat, a < s.heap.size → ¬ (fun q : Nat => s.heap.size ≤ q) a := fun a h => Nat.not_le.mpr h
  obtain ⟨e0, hv, hT⟩ := va_Tof (N := 0) (f := fun _ => Value.null) (A := fun q => s.heap.size ≤ q) (by decide) harr (va_eqt hlen) (fun j hj => absurd hj (Nat.not_lt_zero j)) hA
  have hZ : zZ e0 (fun q => s.heap.size ≤ q) s s.heap := va_Zref (args := #[Value.ref b]) (ho_1 (hW _ w853)) (hE.t w680 rfl) hv hA
  obtain ⟨f, hf⟩ := Classical.skolem.mp (in_cl hE)
  obtain ⟨dA, hd⟩ := Classical.skolem.mp (in_ar hE)
  have hK : va_K (fun k => (f k).1, fun k => (f k).2) vwCl (arT dA) s := ⟨fun k q hq => hf k q hq, in_ar2 hd⟩
  refine ⟨_, dA, e0, hx, hb, hr, hml, hown, hlk, hE, hK, fun q h => h, ?_, hZ, hT, hX, hbl, Nat.not_le.mpr hbl, fun q h => h, ?_⟩
  · intro H L1 hS q cell hc hst
    have h1 := (Array.getElem?_eq_some_iff.mp hc).1
    rw [hS.2.1 q h1 (Nat.not_le.mpr h1)]
    exact hc
  · show l.stackTraces = false
    unfold Launch.stackTraces
    rw [hfl]
    decide
theorem lw_fin {p : Program} {l : Launch} {e : Env} {s : State} {m : MethodId} {below : List Frame} {meth : Method} {c : Code} {b L : Nat} {xs : Nat → Int32} {D : va_G} {dA : Nat → ClassId} {e0 : Nat} {A : Nat → Prop} {H : Heap} {locs : List Loc} {cells slots pc : Nat} {ls : Array Slot} (hC : lS p l s m meth c b L xs D dA e0 A) (hS : va_S A s.heap H locs) (hc : cells ≤ 601024) (hs : slots ≤ 7293034) (hdg : decode code pc = .ok (.ireturn, 1)) :
    W p l e room_1 s m #[Value.ref b] below meth c H locs cells slots (lw_Z below #[Value.ref b] s) (F0 m pc ls [.int 1]) :=
  va_forget (fun q hq => hC.2.2.2.2.2.2.2.2.2.2.2.2.2.2.2.1 _ (hS.2.2 q hq)) (W.widen hc hs (lw_ret hC.1 hC.2.1 hC.2.2.1 hC.2.2.2.2.2.1 hdg))
/-! The law's script. -/
section SL
variable {p : Program} {l : Launch} {e : Env} {R : Room} {s : State} {m : MethodId} {args : Array Value} {below : List Frame} {meth : Method} {c : Code} {H H0 : Heap} {locs : List Loc} {cells slots : Nat} {Q : State → Prop} {A : Nat → Prop} {cc : ByteArray} {pc : Nat} {ls : Array Slot} {rest : List Value}
theorem sldN (hexec : p.tables.exec = Jvm.exec) (hb : c.code = cc) {b L : Nat} {xs : Nat → Int32} (hX : va_X b L xs s H0) (hbl : b < H0.size) (hbA : ¬ A b) (hS : va_S A H0 H locs) {a : Nat} (ha : a < L) (hL : L ≤ 65536) (hdg : decode cc pc = .ok (.iaload, 1))
    (kk : W p l e R s m args below meth c H locs cells slots Q (F0 m (pc + 1) ls (.int (xs a) :: rest))) : W p l e R s m args below meth c H locs cells slots Q (F0 m pc ls (.int (nI a) :: .ref b :: rest)) := by
  have e1 : (nI a).toNatClampNeg = a := i2n_of (by omega)
  refine va_sld hexec hb hX hbl hbA hS (i := nI a) (fun q => ?_) hdg (by rw [e1]; exact kk)
  rcases q with q | q
  · exact nI_nn (by omega) q
  · rw [e1] at q
    omega
variable {D : va_G} {dA : Nat → ClassId} {st0 : List Value} {wc : va_W} {e0 mi : Nat} {kA vA : Nat → Nat} {fm : Nat}
theorem rnWs {y : MethodName} {bytes : ByteArray} {maxL mc ms n index nL : Nat} {ret : Option FieldType} {hh : List (Nat × Nat × Nat × Nat)} {rm : Room} {Qc : Array Value → State → Outcome → State → Prop} {free : Addr → Prop} {own : String} {As : List Value}
    (hx : p.tables.exec = Jvm.exec) (hb : c.code = cc) (hml : c.maxLocals = nL) (hown : s.vm.findClass own = some m.cls) (hE : eV s) (hK : va_K D vwCl (arT dA) s) (hZ : zZ e0 A s s.heap) (hT0 : zT e0 A s s.heap) (hMi : va_Mi "[Ljava/lang/Object;" mi s) (hQ : qS kA vA fm A s s.heap) (hS : va_S A s.heap H locs) (hN : sK s.heap H) (hP : va_P D vwCl wc H) (hD : va_D A wc)
    (hM : Met l y [Cond.codeWith y bytes maxL ret hh] rm (pCs D dA e0 mi kA vA fm As wc H.size) Qc mc ms free)
    (hc : Cond.codeWith y bytes maxL ret hh ∈ aW) (hl : Cond.methodLink own index y ∈ aW) (hstat : Cond.static y ∈ aW) (hini : Cond.initialized y.cls ∈ aW) (hrc : rm.cells = mc) (hrs : rm.slots = ms)
    (hd : (y.cls ≠ "java/lang/invoke/MethodHandle" ∧ y.cls ≠ "java/lang/invoke/VarHandle") ∧ (parseMethodDescriptor y.desc).map (fun d => d.parameters.length) = some n) (hR : rm.frames + 1 ≤ R.frames ∧ 8 + (maxL + 11) + rm.locals ≤ R.locals)
    (hn : As.length = n) (hsize : ls.size = nL) (hst : st0 = As.reverse ++ rest) (hW : (rest.map fun v => v.category).sum ≤ 8) (hdg : decode cc pc = .ok (.invokestatic index, 3)) (hf : cells + mc ≤ R.cells ∧ slots + ms ≤ R.slots) :
    va_Run p l e R s m args below meth c H locs cells slots mc ms (F0 m pc ls st0) rest (Qc As.toArray) free := by
  have hcode : (Cond.codeWith y bytes maxL ret hh).before args s = true := hE.t hc rfl
  have hK9 : Back l R p e below s args y 3 8 (PreOf R mc ms (pCs D dA e0 mi kA vA fm As wc H.size)) (PostOf Qc mc ms free) := va_backW (hh := hh) (bytes := bytes) (maxL := maxL) (ret := ret) hM pCs_blind hrc hrs hR.1 hR.2
    (fun w hw a' U hW9 => by
      have hw' : w = Cond.codeWith y bytes maxL ret hh := by simpa using hw
      subst hw'
      exact word_at (args := #[]) hW9 (Or.inl rfl) (hE.1 _ hc)) List.mem_cons_self (fun a' U hW9 => word_at hW9 (Or.inl rfl) (hE.1 _ hini))
  intro T hT X
  obtain ⟨mk, methM, cM, hnamed, hmethM, -, -, -, -, -, -, hsigM⟩ := Cond.codeWith_spec hcode
  have hstatic : methM.isStatic = true := Cond.static_spec hnamed hmethM (hE.t (args := args) hstat rfl)
  obtain ⟨kP, hkP, -⟩ := className_of_methodNamed hnamed
  have hinitP : kP.init = .initialized := Cond.initialized_spec (findClass_of_methodNamed hnamed) hkP (hE.t (args := args) hini rfl)
  have hlen : As.length = methM.sig.parameters.length := by
    have h2 := hd.2
    rw [hsigM] at h2
    exact hn.trans (Option.some.inj h2).symm
  obtain ⟨vm₁, X₁, hstep₁⟩ := X.invokestatic hx hown (hE.t hl rfl) hnamed hmethM hstatic hkP hinitP hd.1 (g := F0 m pc ls st0) rfl (argsL := As) (rest := rest) hlen hst (by rw [hb]; exact hdg)
  obtain ⟨v, ⟨U', l2, c2, s2⟩, X', ⟨g', mk', t, L, e1, e2, hq, h1, hL, h2, h3⟩, hsteps⟩ := hK9 m meth c ⟨T.setVm vm₁, locs, cells, slots⟩ (F0 m pc ls rest) (.invokestatic index) mk As.toArray X₁ rfl (hsize.trans hml.symm) (by rw [hb]; exact hdg) (lv_room hW) (X₁.named hnamed) ⟨hf.1, hf.2, pre_s hE hK hZ hT0 hMi hQ hS hN hP hD (T.setVm vm₁) hT X₁.warmed⟩
  dsimp only [Pt.U, Pt.locs, Pt.cells, Pt.slots] at X' e1 e2 h1 h2 h3 hsteps
  subst h1; subst h2; subst h3
  exact ⟨v, (T.setVm vm₁).calling g' mk' As.toArray, t, U', L, hT, X', hL, e1, e2, hq, fun target h => hstep₁ _ fun acts => by rw [doInvoke_state]; exact hsteps.trans h⟩
end SL
end
