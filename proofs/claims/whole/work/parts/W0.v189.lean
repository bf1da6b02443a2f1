set_option maxHeartbeats 4000000 in
set_option maxRecDepth 100000 in
theorem k8_end (l : Launch) (D : va_G) (dA : Nat → ClassId) (sz : Nat) (h : Nat) (ad : Nat → Nat) (x : VS) (p0 : Int32) (F9 : VS → Prop) (fr : Nat) (lo : Nat) (mc9 : Nat) (ms9 : Nat) (hc9 : ∀ sz : Nat, Met l ⟨"SeriesVault", "end", "(I)V"⟩ [Cond.code ⟨"SeriesVault", "end", "(I)V"⟩ prog_1_method_4_code 2 none] { frames := fr, cells := mc9, slots := ms9, locals := lo } (pC D dA [.ref h, .int p0] (VW dA h ad x) sz) (va_Qv (fun (u9 : VS) => F9 u9) (fun (u9 : VS) t9 => bW D (va_A (VW dA h ad x) sz) (VW dA h ad u9) t9) (va_A (VW dA h ad x) sz)) mc9 ms9 (va_A (VW dA h ad x) sz)) : Met l ⟨"SeriesVaultLaw", "end", "(LSeriesVault;I)I"⟩ [Cond.codeWith ⟨"SeriesVaultLaw", "end", "(LSeriesVault;I)I"⟩ method_4_code 3 (some FieldType.int) [(0, 5, 8, 19)]] { frames := fr + 1, cells := mc9, slots := ms9, locals := lo + 21 } (pC D dA [.ref h, .int p0] (VW dA h ad x) sz) (va_Qi (fun (r9 : Int32) (u9 : VS) => r9 = 0 ∧ F9 u9) (fun (u9 : VS) t9 => bW D (va_A (VW dA h ad x) sz) (VW dA h ad u9) t9) (va_A (VW dA h ad x) sz)) mc9 ms9 (va_A (VW dA h ad x) sz) := by
  refine mkW (y := ⟨"SeriesVaultLaw", "end", "(LSeriesVault;I)I"⟩) (cc := method_4_code) (maxL := 3) (av := [.ref h, .int p0]) (ws := VW dA h ad x) (sz := sz) (Qc := fun A => va_Qi (fun (r9 : Int32) (u9 : VS) => r9 = 0 ∧ F9 u9) (fun (u9 : VS) t9 => bW D A (VW dA h ad u9) t9) A) (by decide) (Nat.le_of_ble_eq_true rfl) ?_
  intro A p e s m below meth c ls hsz htab hB
  obtain ⟨hx, hb, hr, hml, hown, hin, hlk, hE, hK, hP, hD, hS, hA, hN, hl⟩ := hB
  have hown : s.vm.findClass "SeriesVaultLaw" = some m.cls := hown
  have hl : lv_has ls 3 [(0, .ref h), (1, .int p0)] := hl
  obtain ⟨H, hH⟩ : ∃ z, z = s.heap := ⟨_, rfl⟩
  have hP : va_P D vwCl (VW dA h ad x) H := by rw [hH]; exact hP
  have hS : va_S A s.heap H [] := by rw [hH]; exact hS
  rw [← hH]
  refine lv_aload_n hx hb d_SeriesVaultLaw_end_0 rfl (lv_at hl 0 rfl) ?_
  refine lv_iload_n hx hb d_SeriesVaultLaw_end_1 rfl (lv_at hl 1 rfl) ?_
  refine jkV (wr := []) (rnV (As := [.int p0]) (rest := []) hx hb hml hown hE hK (hN _ _ hS) hP hD ((fun (_ : Launch) (_ : va_G) (_ : Nat → ClassId) (sz9 : Nat) (_ : Nat) (_ : Nat → Nat) (_ : VS) (_ : Int32) => hc9 sz9) l D dA H.size h ad x p0) (q0 := 0) rfl rfl w346 w345 w347 w348 w277 rfl rfl ⟨⟨by decide, by decide⟩, rfl⟩ ⟨(by first | exact Nat.le_of_ble_eq_true rfl | (dsimp only; omega)), (by first | exact Nat.le_of_ble_eq_true rfl | (dsimp only; omega))⟩ rfl hl.1 rfl (by first | exact Nat.le_of_ble_eq_true rfl | (dsimp only; omega)) d_SeriesVaultLaw_end_2 ⟨(show 0 + mc9 ≤ mc9 by omega), (show 0 + ms9 ≤ ms9 by omega)⟩) hP hD hS hA (fun u2 H locs hp9 hP hD hS => ?_)
  obtain ⟨u8, h9u⟩ : ∃ z9, z9 = u2 := ⟨_, rfl⟩
  subst h9u
  have hP : va_P D vwCl (VW dA h ad u8) H := hP
  have hD : va_D A (VW dA h ad u8) := hD
  have f_f_3 := hp9
  refine lv_goto hx hb d_SeriesVaultLaw_end_5 (tgt := 11) rfl ?_
  refine lv_iconst (v := 0) hx hb d_SeriesVaultLaw_end_11 (by decide) ?_
  exact rfI hx hb hr hlk hS u8 ⟨rfl, f_f_3⟩ hP hD (show 0 + mc9 ≤ mc9 by omega) (show 0 + ms9 ≤ ms9 by omega) d_SeriesVaultLaw_end_12
set_option maxHeartbeats 4000000 in
set_option maxRecDepth 100000 in
theorem k8_end_1 (l : Launch) (D : va_G) (dA : Nat → ClassId) (sz : Nat) (h : Nat) (ad : Nat → Nat) (x : VS) (p0 : Int32) (F9 : VS → Prop) (fr : Nat) (lo : Nat) (mc9 : Nat) (ms9 : Nat) (hc9 : ∀ sz : Nat, mX l ⟨"SeriesVault", "end", "(I)V"⟩ [Cond.code ⟨"SeriesVault", "end", "(I)V"⟩ prog_1_method_4_code 2 none] { frames := fr, cells := mc9, slots := ms9, locals := lo } (pC D dA [.ref h, .int p0] (VW dA h ad x) sz) "java/lang/IllegalArgumentException" (fun st9 t9 => va_F (va_A (VW dA h ad x) sz) st9 t9 ∧ ∃ u9 : VS, F9 u9 ∧ bW D (va_A (VW dA h ad x) sz) (VW dA h ad u9) t9) mc9 ms9 (va_A (VW dA h ad x) sz)) : Met l ⟨"SeriesVaultLaw", "end", "(LSeriesVault;I)I"⟩ [Cond.codeWith ⟨"SeriesVaultLaw", "end", "(LSeriesVault;I)I"⟩ method_4_code 3 (some FieldType.int) [(0, 5, 8, 19)]] { frames := fr + 1, cells := mc9, slots := ms9, locals := lo + 21 } (pC D dA [.ref h, .int p0] (VW dA h ad x) sz) (va_Qi (fun (r9 : Int32) (u9 : VS) => r9 = 1 ∧ F9 u9) (fun (u9 : VS) t9 => bW D (va_A (VW dA h ad x) sz) (VW dA h ad u9) t9) (va_A (VW dA h ad x) sz)) mc9 ms9 (va_A (VW dA h ad x) sz) := by
  refine mkW (y := ⟨"SeriesVaultLaw", "end", "(LSeriesVault;I)I"⟩) (cc := method_4_code) (maxL := 3) (av := [.ref h, .int p0]) (ws := VW dA h ad x) (sz := sz) (Qc := fun A => va_Qi (fun (r9 : Int32) (u9 : VS) => r9 = 1 ∧ F9 u9) (fun (u9 : VS) t9 => bW D A (VW dA h ad u9) t9) A) (by decide) (Nat.le_of_ble_eq_true rfl) ?_
  intro A p e s m below meth c ls hsz htab hB
  obtain ⟨hx, hb, hr, hml, hown, hin, hlk, hE, hK, hP, hD, hS, hA, hN, hl⟩ := hB
  have hown : s.vm.findClass "SeriesVaultLaw" = some m.cls := hown
  have hl : lv_has ls 3 [(0, .ref h), (1, .int p0)] := hl
  obtain ⟨H, hH⟩ : ∃ z, z = s.heap := ⟨_, rfl⟩
  have hP : va_P D vwCl (VW dA h ad x) H := by rw [hH]; exact hP
  have hS : va_S A s.heap H [] := by rw [hH]; exact hS
  rw [← hH]
  refine lv_aload_n hx hb d_SeriesVaultLaw_end_0 rfl (lv_at hl 0 rfl) ?_
  refine lv_iload_n hx hb d_SeriesVaultLaw_end_1 rfl (lv_at hl 1 rfl) ?_
  refine xkV (S := VS) (F := F9) (w1 := fun u => VW dA h ad u) (wr := []) (As := [.int p0]) (rest := []) hx hb hml hown hE hK (hN _ _ hS) (hc9 H.size) (q0 := 0) rfl rfl w346 w345 w347 w348 w277 rfl rfl ⟨⟨by decide, by decide⟩, rfl⟩ ⟨(by first | exact Nat.le_of_ble_eq_true rfl | (dsimp only; omega)), (by first | exact Nat.le_of_ble_eq_true rfl | (dsimp only; omega))⟩ rfl hl.1 rfl (by first | exact Nat.le_of_ble_eq_true rfl | (dsimp only; omega)) d_SeriesVaultLaw_end_2 ⟨(show 0 + mc9 ≤ mc9 by omega), (show 0 + ms9 ≤ ms9 by omega)⟩ hP hD hS hA (fun u2 xa1 ce H locs hf9 hP hD hS hce hcv hcl => ?_)
  have hP : va_P D vwCl (VW dA h ad u2) H := hP
  have hD : va_D A (VW dA h ad u2) := hD
  refine xCatch (E := "java/lang/IllegalArgumentException") hown hE [] ⟨0, 5, 8, 19⟩ [] htab (fun _ h => absurd h List.not_mem_nil) (by decide) (by decide) w349 w267 hce hcv hcl ?_
  refine lv_astore_n hx hb d_SeriesVaultLaw_end_8 rfl hl (by decide) rfl (fun ls hl => ?_)
  have hl : lv_has ls 3 [(2, .ref xa1), (0, .ref h), (1, .int p0)] := hl
  refine lv_iconst (v := 1) hx hb d_SeriesVaultLaw_end_9 (by decide) ?_
  exact rfI hx hb hr hlk hS u2 ⟨rfl, hf9⟩ hP hD (show 0 + mc9 ≤ mc9 by omega) (show 0 + ms9 ≤ ms9 by omega) d_SeriesVaultLaw_end_10
set_option maxHeartbeats 4000000 in
set_option maxRecDepth 100000 in
theorem k8_fault (l : Launch) (D : va_G) (dA : Nat → ClassId) (sz : Nat) (h : Nat) (ad : Nat → Nat) (o : Nat) (og : Nat → Int64) (x : VS) (p0 : Int32) (v9 : Int32) (F9 : VS → Prop) (fr : Nat) (lo : Nat) (mc9 : Nat) (ms9 : Nat) (hc9 : ∀ sz : Nat, Met l ⟨"SeriesVault", "fault", "(I)I"⟩ [Cond.code ⟨"SeriesVault", "fault", "(I)I"⟩ prog_1_method_6_code 2 (some FieldType.int)] { frames := fr, cells := mc9, slots := ms9, locals := lo } (pC D dA [.ref h, .int p0] (VW dA h ad x) sz) (va_Qi (fun (r9 : Int32) (u9 : VS) => r9 = v9 ∧ F9 u9) (fun (u9 : VS) t9 => bW D (va_A (VW dA h ad x) sz) (VW dA h ad u9) t9) (va_A (VW dA h ad x) sz)) mc9 ms9 (va_A (VW dA h ad x) sz)) : Met l ⟨"SeriesVaultLaw", "fault", "(LSeriesVault;I[J)I"⟩ [Cond.codeWith ⟨"SeriesVaultLaw", "fault", "(LSeriesVault;I[J)I"⟩ method_7_code 4 (some FieldType.int) [(0, 9, 12, 35)]] { frames := fr + 1, cells := mc9, slots := ms9, locals := lo + 21 } (pC D dA [.ref h, .int p0, .ref o] ([(o, .inl (dA 2, 1, .inr (.inl og)))] ++ (VW dA h ad x)) sz) (va_Qi (fun (r9 : Int32) (u9 : VS) => r9 = 0 ∧ F9 u9) (fun (u9 : VS) t9 => bW D (va_A ([(o, .inl (dA 2, 1, .inr (.inl og)))] ++ (VW dA h ad x)) sz) ([(o, .inl (dA 2, 1, .inr (.inl (va_up og 0 (v9.toInt64)))))] ++ (VW dA h ad u9)) t9) (va_A ([(o, .inl (dA 2, 1, .inr (.inl og)))] ++ (VW dA h ad x)) sz)) mc9 ms9 (va_A ([(o, .inl (dA 2, 1, .inr (.inl og)))] ++ (VW dA h ad x)) sz) := by
  refine mkW (y := ⟨"SeriesVaultLaw", "fault", "(LSeriesVault;I[J)I"⟩) (cc := method_7_code) (maxL := 4) (av := [.ref h, .int p0, .ref o]) (ws := [(o, .inl (dA 2, 1, .inr (.inl og)))] ++ (VW dA h ad x)) (sz := sz) (Qc := fun A => va_Qi (fun (r9 : Int32) (u9 : VS) => r9 = 0 ∧ F9 u9) (fun (u9 : VS) t9 => bW D A ([(o, .inl (dA 2, 1, .inr (.inl (va_up og 0 (v9.toInt64)))))] ++ (VW dA h ad u9)) t9) A) (by decide) (Nat.le_of_ble_eq_true rfl) ?_
  intro A p e s m below meth c ls hsz htab hB
  obtain ⟨hx, hb, hr, hml, hown, hin, hlk, hE, hK, hP, hD, hS, hA, hN, hl⟩ := hB
  have hown : s.vm.findClass "SeriesVaultLaw" = some m.cls := hown
  have hl : lv_has ls 4 [(0, .ref h), (1, .int p0), (2, .ref o)] := hl
  obtain ⟨H, hH⟩ : ∃ z, z = s.heap := ⟨_, rfl⟩
  have hP : va_P D vwCl ([(o, .inl (dA 2, 1, .inr (.inl og)))] ++ (VW dA h ad x)) H := by rw [hH]; exact hP
  have hS : va_S A s.heap H [] := by rw [hH]; exact hS
  rw [← hH]
  refine lv_aload_n hx hb d_SeriesVaultLaw_fault_0 rfl (lv_at hl 2 rfl) ?_
  refine lv_iconst (v := 0) hx hb d_SeriesVaultLaw_fault_1 (by decide) ?_
  refine lv_aload_n hx hb d_SeriesVaultLaw_fault_2 rfl (lv_at hl 0 rfl) ?_
  refine lv_iload_n hx hb d_SeriesVaultLaw_fault_3 rfl (lv_at hl 1 rfl) ?_
  have hPc : va_P D vwCl (VW dA h ad x) H := spP (wr := [(o, .inl (dA 2, 1, .inr (.inl og)))]) hP
  have hDc : va_D A (VW dA h ad x) := spD (wr := [(o, .inl (dA 2, 1, .inr (.inl og)))]) hD
  refine jkI (wr := [(o, .inl (dA 2, 1, .inr (.inl og)))]) (rnV (As := [.int p0]) (rest := [.int 0, .ref o]) hx hb hml hown hE hK (hN _ _ hS) hPc hDc ((fun (_ : Launch) (_ : va_G) (_ : Nat → ClassId) (sz9 : Nat) (_ : Nat) (_ : Nat → Nat) (_ : VS) (_ : Int32) => hc9 sz9) l D dA H.size h ad x p0) (q0 := 0) rfl rfl w351 w350 w352 w353 w277 rfl rfl ⟨⟨by decide, by decide⟩, rfl⟩ ⟨(by first | exact Nat.le_of_ble_eq_true rfl | (dsimp only; omega)), (by first | exact Nat.le_of_ble_eq_true rfl | (dsimp only; omega))⟩ rfl hl.1 rfl (by first | exact Nat.le_of_ble_eq_true rfl | (dsimp only; omega)) d_SeriesVaultLaw_fault_4 ⟨(show 0 + mc9 ≤ mc9 by omega), (show 0 + ms9 ≤ ms9 by omega)⟩) hP hD hS hA (fun r1 u2 H locs hp9 hP hD hS => ?_)
  obtain ⟨u8, h9u⟩ : ∃ z9, z9 = u2 := ⟨_, rfl⟩
  subst h9u
  have hP : va_P D vwCl ([(o, .inl (dA 2, 1, .inr (.inl og)))] ++ (VW dA h ad u8)) H := hP
  have hD : va_D A ([(o, .inl (dA 2, 1, .inr (.inl og)))] ++ (VW dA h ad u8)) := hD
  obtain ⟨hp9, f_f_3⟩ := hp9
  replace hp9 : v9 = r1 := Eq.symm hp9
  subst hp9
  refine lv_i2l hx hb d_SeriesVaultLaw_fault_7 rfl ?_
  refine nlst (n := 1) hx hb hK hP hD hS (0) 2 rfl rfl (0) (by omega) (by decide) d_SeriesVaultLaw_fault_8 (fun H locs hP hD hS => ?_)
  have hP : va_P D vwCl ([(o, .inl (dA 2, 1, .inr (.inl (va_up og 0 v9.toInt64))))] ++ (VW dA h ad u8)) H := hP
  have hD : va_D A ([(o, .inl (dA 2, 1, .inr (.inl (va_up og 0 v9.toInt64))))] ++ (VW dA h ad u8)) := hD
  refine lv_goto hx hb d_SeriesVaultLaw_fault_9 (tgt := 15) rfl ?_
  refine lv_iconst (v := 0) hx hb d_SeriesVaultLaw_fault_15 (by decide) ?_
  exact rfI hx hb hr hlk hS u8 ⟨rfl, f_f_3⟩ hP hD (show 0 + mc9 ≤ mc9 by omega) (show 0 + ms9 ≤ ms9 by omega) d_SeriesVaultLaw_fault_16
set_option maxHeartbeats 4000000 in
set_option maxRecDepth 100000 in
theorem k8_fault_1 (l : Launch) (D : va_G) (dA : Nat → ClassId) (sz : Nat) (h : Nat) (ad : Nat → Nat) (o : Nat) (og : Nat → Int64) (x : VS) (p0 : Int32) (F9 : VS → Prop) (fr : Nat) (lo : Nat) (mc9 : Nat) (ms9 : Nat) (hc9 : ∀ sz : Nat, mX l ⟨"SeriesVault", "fault", "(I)I"⟩ [Cond.code ⟨"SeriesVault", "fault", "(I)I"⟩ prog_1_method_6_code 2 (some FieldType.int)] { frames := fr, cells := mc9, slots := ms9, locals := lo } (pC D dA [.ref h, .int p0] (VW dA h ad x) sz) "java/lang/IndexOutOfBoundsException" (fun st9 t9 => va_F (va_A (VW dA h ad x) sz) st9 t9 ∧ ∃ u9 : VS, F9 u9 ∧ bW D (va_A (VW dA h ad x) sz) (VW dA h ad u9) t9) mc9 ms9 (va_A (VW dA h ad x) sz)) : Met l ⟨"SeriesVaultLaw", "fault", "(LSeriesVault;I[J)I"⟩ [Cond.codeWith ⟨"SeriesVaultLaw", "fault", "(LSeriesVault;I[J)I"⟩ method_7_code 4 (some FieldType.int) [(0, 9, 12, 35)]] { frames := fr + 1, cells := mc9, slots := ms9, locals := lo + 21 } (pC D dA [.ref h, .int p0, .ref o] ([(o, .inl (dA 2, 1, .inr (.inl og)))] ++ (VW dA h ad x)) sz) (va_Qi (fun (r9 : Int32) (u9 : VS) => r9 = 1 ∧ F9 u9) (fun (u9 : VS) t9 => bW D (va_A ([(o, .inl (dA 2, 1, .inr (.inl og)))] ++ (VW dA h ad x)) sz) ([(o, .inl (dA 2, 1, .inr (.inl og)))] ++ (VW dA h ad u9)) t9) (va_A ([(o, .inl (dA 2, 1, .inr (.inl og)))] ++ (VW dA h ad x)) sz)) mc9 ms9 (va_A ([(o, .inl (dA 2, 1, .inr (.inl og)))] ++ (VW dA h ad x)) sz) := by
  refine mkW (y := ⟨"SeriesVaultLaw", "fault", "(LSeriesVault;I[J)I"⟩) (cc := method_7_code) (maxL := 4) (av := [.ref h, .int p0, .ref o]) (ws := [(o, .inl (dA 2, 1, .inr (.inl og)))] ++ (VW dA h ad x)) (sz := sz) (Qc := fun A => va_Qi (fun (r9 : Int32) (u9 : VS) => r9 = 1 ∧ F9 u9) (fun (u9 : VS) t9 => bW D A ([(o, .inl (dA 2, 1, .inr (.inl og)))] ++ (VW dA h ad u9)) t9) A) (by decide) (Nat.le_of_ble_eq_true rfl) ?_
  intro A p e s m below meth c ls hsz htab hB
  obtain ⟨hx, hb, hr, hml, hown, hin, hlk, hE, hK, hP, hD, hS, hA, hN, hl⟩ := hB
  have hown : s.vm.findClass "SeriesVaultLaw" = some m.cls := hown
  have hl : lv_has ls 4 [(0, .ref h), (1, .int p0), (2, .ref o)] := hl
  obtain ⟨H, hH⟩ : ∃ z, z = s.heap := ⟨_, rfl⟩
  have hP : va_P D vwCl ([(o, .inl (dA 2, 1, .inr (.inl og)))] ++ (VW dA h ad x)) H := by rw [hH]; exact hP
  have hS : va_S A s.heap H [] := by rw [hH]; exact hS
  rw [← hH]
  refine lv_aload_n hx hb d_SeriesVaultLaw_fault_0 rfl (lv_at hl 2 rfl) ?_
  refine lv_iconst (v := 0) hx hb d_SeriesVaultLaw_fault_1 (by decide) ?_
  refine lv_aload_n hx hb d_SeriesVaultLaw_fault_2 rfl (lv_at hl 0 rfl) ?_
  refine lv_iload_n hx hb d_SeriesVaultLaw_fault_3 rfl (lv_at hl 1 rfl) ?_
  refine xkV (S := VS) (F := F9) (w1 := fun u => VW dA h ad u) (wr := [(o, .inl (dA 2, 1, .inr (.inl og)))]) (As := [.int p0]) (rest := [.int 0, .ref o]) hx hb hml hown hE hK (hN _ _ hS) (hc9 H.size) (q0 := 0) rfl rfl w351 w350 w352 w353 w277 rfl rfl ⟨⟨by decide, by decide⟩, rfl⟩ ⟨(by first | exact Nat.le_of_ble_eq_true rfl | (dsimp only; omega)), (by first | exact Nat.le_of_ble_eq_true rfl | (dsimp only; omega))⟩ rfl hl.1 rfl (by first | exact Nat.le_of_ble_eq_true rfl | (dsimp only; omega)) d_SeriesVaultLaw_fault_4 ⟨(show 0 + mc9 ≤ mc9 by omega), (show 0 + ms9 ≤ ms9 by omega)⟩ hP hD hS hA (fun u2 xa1 ce H locs hf9 hP hD hS hce hcv hcl => ?_)
  have hP : va_P D vwCl ([(o, .inl (dA 2, 1, .inr (.inl og)))] ++ (VW dA h ad u2)) H := hP
  have hD : va_D A ([(o, .inl (dA 2, 1, .inr (.inl og)))] ++ (VW dA h ad u2)) := hD
  refine xCatch (E := "java/lang/IndexOutOfBoundsException") hown hE [] ⟨0, 9, 12, 35⟩ [] htab (fun _ h => absurd h List.not_mem_nil) (by decide) (by decide) w354 w222 hce hcv hcl ?_
  refine lv_astore_n hx hb d_SeriesVaultLaw_fault_12 rfl hl (by decide) rfl (fun ls hl => ?_)
  have hl : lv_has ls 4 [(3, .ref xa1), (0, .ref h), (1, .int p0), (2, .ref o)] := hl
  refine lv_iconst (v := 1) hx hb d_SeriesVaultLaw_fault_13 (by decide) ?_
  exact rfI hx hb hr hlk hS u2 ⟨rfl, hf9⟩ hP hD (show 0 + mc9 ≤ mc9 by omega) (show 0 + ms9 ≤ ms9 by omega) d_SeriesVaultLaw_fault_14
set_option maxHeartbeats 4000000 in
set_option maxRecDepth 100000 in
theorem k8_feed (l : Launch) (D : va_G) (dA : Nat → ClassId) (sz : Nat) (h : Nat) (ad : Nat → Nat) (o : Nat) (og : Nat → Int64) (x : VS) (p0 : Int32) (p1 : Int32) (p2 : Int32) (p3 : Int32) (p4 : Int32) (v9 : Int32) (F9 : VS → Prop) (fr : Nat) (lo : Nat) (mc9 : Nat) (ms9 : Nat) (hc9 : ∀ sz : Nat, Met l ⟨"SeriesVault", "feed", "(IIIII)I"⟩ [Cond.code ⟨"SeriesVault", "feed", "(IIIII)I"⟩ prog_1_method_2_code 6 (some FieldType.int)] { frames := fr, cells := mc9, slots := ms9, locals := lo } (pC D dA [.ref h, .int p0, .int p1, .int p2, .int p3, .int p4] (VW dA h ad x) sz) (va_Qi (fun (r9 : Int32) (u9 : VS) => r9 = v9 ∧ F9 u9) (fun (u9 : VS) t9 => bW D (va_A (VW dA h ad x) sz) (VW dA h ad u9) t9) (va_A (VW dA h ad x) sz)) mc9 ms9 (va_A (VW dA h ad x) sz)) : Met l ⟨"SeriesVaultLaw", "feed", "(LSeriesVault;IIIII[J)I"⟩ [Cond.codeWith ⟨"SeriesVaultLaw", "feed", "(LSeriesVault;IIIII[J)I"⟩ method_3_code 8 (some FieldType.int) [(0, 16, 19, 13)]] { frames := fr + 1, cells := mc9, slots := ms9, locals := lo + 25 } (pC D dA [.ref h, .int p0, .int p1, .int p2, .int p3, .int p4, .ref o] ([(o, .inl (dA 2, 1, .inr (.inl og)))] ++ (VW dA h ad x)) sz) (va_Qi (fun (r9 : Int32) (u9 : VS) => r9 = 0 ∧ F9 u9) (fun (u9 : VS) t9 => bW D (va_A ([(o, .inl (dA 2, 1, .inr (.inl og)))] ++ (VW dA h ad x)) sz) ([(o, .inl (dA 2, 1, .inr (.inl (va_up og 0 (v9.toInt64)))))] ++ (VW dA h ad u9)) t9) (va_A ([(o, .inl (dA 2, 1, .inr (.inl og)))] ++ (VW dA h ad x)) sz)) mc9 ms9 (va_A ([(o, .inl (dA 2, 1, .inr (.inl og)))] ++ (VW dA h ad x)) sz) := by
  refine mkW (y := ⟨"SeriesVaultLaw", "feed", "(LSeriesVault;IIIII[J)I"⟩) (cc := method_3_code) (maxL := 8) (av := [.ref h, .int p0, .int p1, .int p2, .int p3, .int p4, .ref o]) (ws := [(o, .inl (dA 2, 1, .inr (.inl og)))] ++ (VW dA h ad x)) (sz := sz) (Qc := fun A => va_Qi (fun (r9 : Int32) (u9 : VS) => r9 = 0 ∧ F9 u9) (fun (u9 : VS) t9 => bW D A ([(o, .inl (dA 2, 1, .inr (.inl (va_up og 0 (v9.toInt64)))))] ++ (VW dA h ad u9)) t9) A) (by decide) (Nat.le_of_ble_eq_true rfl) ?_
  intro A p e s m below meth c ls hsz htab hB
  obtain ⟨hx, hb, hr, hml, hown, hin, hlk, hE, hK, hP, hD, hS, hA, hN, hl⟩ := hB
  have hown : s.vm.findClass "SeriesVaultLaw" = some m.cls := hown
  have hl : lv_has ls 8 [(0, .ref h), (1, .int p0), (2, .int p1), (3, .int p2), (4, .int p3), (5, .int p4), (6, .ref o)] := hl
  obtain ⟨H, hH⟩ : ∃ z, z = s.heap := ⟨_, rfl⟩
  have hP : va_P D vwCl ([(o, .inl (dA 2, 1, .inr (.inl og)))] ++ (VW dA h ad x)) H := by rw [hH]; exact hP
  have hS : va_S A s.heap H [] := by rw [hH]; exact hS
  rw [← hH]
  refine lv_aload hx hb d_SeriesVaultLaw_feed_0 (lv_at hl 6 rfl) ?_
  refine lv_iconst (v := 0) hx hb d_SeriesVaultLaw_feed_2 (by decide) ?_
  refine lv_aload_n hx hb d_SeriesVaultLaw_feed_3 rfl (lv_at hl 0 rfl) ?_
  refine lv_iload_n hx hb d_SeriesVaultLaw_feed_4 rfl (lv_at hl 1 rfl) ?_
  refine lv_iload_n hx hb d_SeriesVaultLaw_feed_5 rfl (lv_at hl 2 rfl) ?_
  refine lv_iload_n hx hb d_SeriesVaultLaw_feed_6 rfl (lv_at hl 3 rfl) ?_
  refine lv_iload hx hb d_SeriesVaultLaw_feed_7 (lv_at hl 4 rfl) ?_
  refine lv_iload hx hb d_SeriesVaultLaw_feed_9 (lv_at hl 5 rfl) ?_
  have hPc : va_P D vwCl (VW dA h ad x) H := spP (wr := [(o, .inl (dA 2, 1, .inr (.inl og)))]) hP
  have hDc : va_D A (VW dA h ad x) := spD (wr := [(o, .inl (dA 2, 1, .inr (.inl og)))]) hD
  refine jkI (wr := [(o, .inl (dA 2, 1, .inr (.inl og)))]) (rnV (As := [.int p0, .int p1, .int p2, .int p3, .int p4]) (rest := [.int 0, .ref o]) hx hb hml hown hE hK (hN _ _ hS) hPc hDc ((fun (_ : Launch) (_ : va_G) (_ : Nat → ClassId) (sz9 : Nat) (_ : Nat) (_ : Nat → Nat) (_ : VS) (_ : Int32) (_ : Int32) (_ : Int32) (_ : Int32) (_ : Int32) => hc9 sz9) l D dA H.size h ad x p0 p1 p2 p3 p4) (q0 := 0) rfl rfl w620 w619 w621 w622 w277 rfl rfl ⟨⟨by decide, by decide⟩, rfl⟩ ⟨(by first | exact Nat.le_of_ble_eq_true rfl | (dsimp only; omega)), (by first | exact Nat.le_of_ble_eq_true rfl | (dsimp only; omega))⟩ rfl hl.1 rfl (by first | exact Nat.le_of_ble_eq_true rfl | (dsimp only; omega)) d_SeriesVaultLaw_feed_11 ⟨(show 0 + mc9 ≤ mc9 by omega), (show 0 + ms9 ≤ ms9 by omega)⟩) hP hD hS hA (fun r1 u2 H locs hp9 hP hD hS => ?_)
  obtain ⟨u8, h9u⟩ : ∃ z9, z9 = u2 := ⟨_, rfl⟩
  subst h9u
  have hP : va_P D vwCl ([(o, .inl (dA 2, 1, .inr (.inl og)))] ++ (VW dA h ad u8)) H := hP
  have hD : va_D A ([(o, .inl (dA 2, 1, .inr (.inl og)))] ++ (VW dA h ad u8)) := hD
  obtain ⟨hp9, f_f_3⟩ := hp9
  replace hp9 : v9 = r1 := Eq.symm hp9
  subst hp9
  refine lv_i2l hx hb d_SeriesVaultLaw_feed_14 rfl ?_
  refine nlst (n := 1) hx hb hK hP hD hS (0) 2 rfl rfl (0) (by omega) (by decide) d_SeriesVaultLaw_feed_15 (fun H locs hP hD hS => ?_)
  have hP : va_P D vwCl ([(o, .inl (dA 2, 1, .inr (.inl (va_up og 0 v9.toInt64))))] ++ (VW dA h ad u8)) H := hP
  have hD : va_D A ([(o, .inl (dA 2, 1, .inr (.inl (va_up og 0 v9.toInt64))))] ++ (VW dA h ad u8)) := hD
  refine lv_goto hx hb d_SeriesVaultLaw_feed_16 (tgt := 23) rfl ?_
  refine lv_iconst (v := 0) hx hb d_SeriesVaultLaw_feed_23 (by decide) ?_
  exact rfI hx hb hr hlk hS u8 ⟨rfl, f_f_3⟩ hP hD (show 0 + mc9 ≤ mc9 by omega) (show 0 + ms9 ≤ ms9 by omega) d_SeriesVaultLaw_feed_24
theorem d_SeriesVaultLaw_feed_19 : decode method_3_code 19 = .ok (.astore 7, 2) := by decide +kernel
theorem d_SeriesVaultLaw_feed_21 : decode method_3_code 21 = .ok (.iconst 1, 1) := by decide +kernel
theorem d_SeriesVaultLaw_feed_22 : decode method_3_code 22 = .ok (.ireturn, 1) := by decide +kernel
theorem w1791 : Cond.classLink "SeriesVaultLaw" 13 "java/lang/UnsupportedOperationException" ∈ aW := aw_of (tb_3 (List.mem_of_getElem? (i := 49) rfl)) rfl
set_option maxHeartbeats 4000000 in
set_option maxRecDepth 100000 in
theorem k8_feed_1 (l : Launch) (D : va_G) (dA : Nat → ClassId) (sz : Nat) (h : Nat) (ad : Nat → Nat) (o : Nat) (og : Nat → Int64) (x : VS) (p0 : Int32) (p1 : Int32) (p2 : Int32) (p3 : Int32) (p4 : Int32) (F9 : VS → Prop) (fr : Nat) (lo : Nat) (mc9 : Nat) (ms9 : Nat) (hc9 : ∀ sz : Nat, mX l ⟨"SeriesVault", "feed", "(IIIII)I"⟩ [Cond.code ⟨"SeriesVault", "feed", "(IIIII)I"⟩ prog_1_method_2_code 6 (some FieldType.int)] { frames := fr, cells := mc9, slots := ms9, locals := lo } (pC D dA [.ref h, .int p0, .int p1, .int p2, .int p3, .int p4] (VW dA h ad x) sz) "java/lang/UnsupportedOperationException" (fun st9 t9 => va_F (va_A (VW dA h ad x) sz) st9 t9 ∧ ∃ u9 : VS, F9 u9 ∧ bW D (va_A (VW dA h ad x) sz) (VW dA h ad u9) t9) mc9 ms9 (va_A (VW dA h ad x) sz)) : Met l ⟨"SeriesVaultLaw", "feed", "(LSeriesVault;IIIII[J)I"⟩ [Cond.codeWith ⟨"SeriesVaultLaw", "feed", "(LSeriesVault;IIIII[J)I"⟩ method_3_code 8 (some FieldType.int) [(0, 16, 19, 13)]] { frames := fr + 1, cells := mc9, slots := ms9, locals := lo + 25 } (pC D dA [.ref h, .int p0, .int p1, .int p2, .int p3, .int p4, .ref o] ([(o, .inl (dA 2, 1, .inr (.inl og)))] ++ (VW dA h ad x)) sz) (va_Qi (fun (r9 : Int32) (u9 : VS) => r9 = 1 ∧ F9 u9) (fun (u9 : VS) t9 => bW D (va_A ([(o, .inl (dA 2, 1, .inr (.inl og)))] ++ (VW dA h ad x)) sz) ([(o, .inl (dA 2, 1, .inr (.inl og)))] ++ (VW dA h ad u9)) t9) (va_A ([(o, .inl (dA 2, 1, .inr (.inl og)))] ++ (VW dA h ad x)) sz)) mc9 ms9 (va_A ([(o, .inl (dA 2, 1, .inr (.inl og)))] ++ (VW dA h ad x)) sz) := by
  refine mkW (y := ⟨"SeriesVaultLaw", "feed", "(LSeriesVault;IIIII[J)I"⟩) (cc := method_3_code) (maxL := 8) (av := [.ref h, .int p0, .int p1, .int p2, .int p3, .int p4, .ref o]) (ws := [(o, .inl (dA 2, 1, .inr (.inl og)))] ++ (VW dA h ad x)) (sz := sz) (Qc := fun A => va_Qi (fun (r9 : Int32) (u9 : VS) => r9 = 1 ∧ F9 u9) (fun (u9 : VS) t9 => bW D A ([(o, .inl (dA 2, 1, .inr (.inl og)))] ++ (VW dA h ad u9)) t9) A) (by decide) (Nat.le_of_ble_eq_true rfl) ?_
  intro A p e s m below meth c ls hsz htab hB
  obtain ⟨hx, hb, hr, hml, hown, hin, hlk, hE, hK, hP, hD, hS, hA, hN, hl⟩ := hB
  have hown : s.vm.findClass "SeriesVaultLaw" = some m.cls := hown
  have hl : lv_has ls 8 [(0, .ref h), (1, .int p0), (2, .int p1), (3, .int p2), (4, .int p3), (5, .int p4), (6, .ref o)] := hl
  obtain ⟨H, hH⟩ : ∃ z, z = s.heap := ⟨_, rfl⟩
  have hP : va_P D vwCl ([(o, .inl (dA 2, 1, .inr (.inl og)))] ++ (VW dA h ad x)) H := by rw [hH]; exact hP
  have hS : va_S A s.heap H [] := by rw [hH]; exact hS
  rw [← hH]
  refine lv_aload hx hb d_SeriesVaultLaw_feed_0 (lv_at hl 6 rfl) ?_
  refine lv_iconst (v := 0) hx hb d_SeriesVaultLaw_feed_2 (by decide) ?_
  refine lv_aload_n hx hb d_SeriesVaultLaw_feed_3 rfl (lv_at hl 0 rfl) ?_
  refine lv_iload_n hx hb d_SeriesVaultLaw_feed_4 rfl (lv_at hl 1 rfl) ?_
  refine lv_iload_n hx hb d_SeriesVaultLaw_feed_5 rfl (lv_at hl 2 rfl) ?_
  refine lv_iload_n hx hb d_SeriesVaultLaw_feed_6 rfl (lv_at hl 3 rfl) ?_
  refine lv_iload hx hb d_SeriesVaultLaw_feed_7 (lv_at hl 4 rfl) ?_
  refine lv_iload hx hb d_SeriesVaultLaw_feed_9 (lv_at hl 5 rfl) ?_
  refine xkV (S := VS) (F := F9) (w1 := fun u => VW dA h ad u) (wr := [(o, .inl (dA 2, 1, .inr (.inl og)))]) (As := [.int p0, .int p1, .int p2, .int p3, .int p4]) (rest := [.int 0, .ref o]) hx hb hml hown hE hK (hN _ _ hS) (hc9 H.size) (q0 := 0) rfl rfl w620 w619 w621 w622 w277 rfl rfl ⟨⟨by decide, by decide⟩, rfl⟩ ⟨(by first | exact Nat.le_of_ble_eq_true rfl | (dsimp only; omega)), (by first | exact Nat.le_of_ble_eq_true rfl | (dsimp only; omega))⟩ rfl hl.1 rfl (by first | exact Nat.le_of_ble_eq_true rfl | (dsimp only; omega)) d_SeriesVaultLaw_feed_11 ⟨(show 0 + mc9 ≤ mc9 by omega), (show 0 + ms9 ≤ ms9 by omega)⟩ hP hD hS hA (fun u2 xa1 ce H locs hf9 hP hD hS hce hcv hcl => ?_)
  have hP : va_P D vwCl ([(o, .inl (dA 2, 1, .inr (.inl og)))] ++ (VW dA h ad u2)) H := hP
  have hD : va_D A ([(o, .inl (dA 2, 1, .inr (.inl og)))] ++ (VW dA h ad u2)) := hD
  refine xCatch (E := "java/lang/UnsupportedOperationException") hown hE [] ⟨0, 16, 19, 13⟩ [] htab (fun _ h => absurd h List.not_mem_nil) (by decide) (by decide) w1791 w1150 hce hcv hcl ?_
  refine lv_astore hx hb d_SeriesVaultLaw_feed_19 hl (by decide) rfl (fun ls hl => ?_)
  have hl : lv_has ls 8 [(7, .ref xa1), (0, .ref h), (1, .int p0), (2, .int p1), (3, .int p2), (4, .int p3), (5, .int p4), (6, .ref o)] := hl
  refine lv_iconst (v := 1) hx hb d_SeriesVaultLaw_feed_21 (by decide) ?_
  exact rfI hx hb hr hlk hS u2 ⟨rfl, hf9⟩ hP hD (show 0 + mc9 ≤ mc9 by omega) (show 0 + ms9 ≤ ms9 by omega) d_SeriesVaultLaw_feed_22
set_option maxHeartbeats 4000000 in
set_option maxRecDepth 100000 in
theorem k8_format (l : Launch) (D : va_G) (dA : Nat → ClassId) (sz : Nat) (h : Nat) (ad : Nat → Nat) (x : VS) (p0 : Int32) (p1 : Int32) (F9 : VS → Prop) (fr : Nat) (lo : Nat) (mc9 : Nat) (ms9 : Nat) (hc9 : ∀ sz : Nat, Met l ⟨"SeriesVault", "format", "(II)V"⟩ [Cond.code ⟨"SeriesVault", "format", "(II)V"⟩ prog_1_method_8_code 3 none] { frames := fr, cells := mc9, slots := ms9, locals := lo } (pC D dA [.ref h, .int p0, .int p1] (VW dA h ad x) sz) (va_Qv (fun (u9 : VS) => F9 u9) (fun (u9 : VS) t9 => bW D (va_A (VW dA h ad x) sz) (VW dA h ad u9) t9) (va_A (VW dA h ad x) sz)) mc9 ms9 (va_A (VW dA h ad x) sz)) : Met l ⟨"SeriesVaultLaw", "format", "(LSeriesVault;II)I"⟩ [Cond.codeWith ⟨"SeriesVaultLaw", "format", "(LSeriesVault;II)I"⟩ method_5_code 4 (some FieldType.int) [(0, 6, 9, 19)]] { frames := fr + 1, cells := mc9, slots := ms9, locals := lo + 22 } (pC D dA [.ref h, .int p0, .int p1] (VW dA h ad x) sz) (va_Qi (fun (r9 : Int32) (u9 : VS) => r9 = 0 ∧ F9 u9) (fun (u9 : VS) t9 => bW D (va_A (VW dA h ad x) sz) (VW dA h ad u9) t9) (va_A (VW dA h ad x) sz)) mc9 ms9 (va_A (VW dA h ad x) sz) := by
  refine mkW (y := ⟨"SeriesVaultLaw", "format", "(LSeriesVault;II)I"⟩) (cc := method_5_code) (maxL := 4) (av := [.ref h, .int p0, .int p1]) (ws := VW dA h ad x) (sz := sz) (Qc := fun A => va_Qi (fun (r9 : Int32) (u9 : VS) => r9 = 0 ∧ F9 u9) (fun (u9 : VS) t9 => bW D A (VW dA h ad u9) t9) A) (by decide) (Nat.le_of_ble_eq_true rfl) ?_
  intro A p e s m below meth c ls hsz htab hB
  obtain ⟨hx, hb, hr, hml, hown, hin, hlk, hE, hK, hP, hD, hS, hA, hN, hl⟩ := hB
  have hown : s.vm.findClass "SeriesVaultLaw" = some m.cls := hown
  have hl : lv_has ls 4 [(0, .ref h), (1, .int p0), (2, .int p1)] := hl
  obtain ⟨H, hH⟩ : ∃ z, z = s.heap := ⟨_, rfl⟩
  have hP : va_P D vwCl (VW dA h ad x) H := by rw [hH]; exact hP
  have hS : va_S A s.heap H [] := by rw [hH]; exact hS
  rw [← hH]
  refine lv_aload_n hx hb d_SeriesVaultLaw_format_0 rfl (lv_at hl 0 rfl) ?_
  refine lv_iload_n hx hb d_SeriesVaultLaw_format_1 rfl (lv_at hl 1 rfl) ?_
  refine lv_iload_n hx hb d_SeriesVaultLaw_format_2 rfl (lv_at hl 2 rfl) ?_
  refine jkV (wr := []) (rnV (As := [.int p0, .int p1]) (rest := []) hx hb hml hown hE hK (hN _ _ hS) hP hD ((fun (_ : Launch) (_ : va_G) (_ : Nat → ClassId) (sz9 : Nat) (_ : Nat) (_ : Nat → Nat) (_ : VS) (_ : Int32) (_ : Int32) => hc9 sz9) l D dA H.size h ad x p0 p1) (q0 := 0) rfl rfl w624 w623 w625 w626 w277 rfl rfl ⟨⟨by decide, by decide⟩, rfl⟩ ⟨(by first | exact Nat.le_of_ble_eq_true rfl | (dsimp only; omega)), (by first | exact Nat.le_of_ble_eq_true rfl | (dsimp only; omega))⟩ rfl hl.1 rfl (by first | exact Nat.le_of_ble_eq_true rfl | (dsimp only; omega)) d_SeriesVaultLaw_format_3 ⟨(show 0 + mc9 ≤ mc9 by omega), (show 0 + ms9 ≤ ms9 by omega)⟩) hP hD hS hA (fun u2 H locs hp9 hP hD hS => ?_)
  obtain ⟨u8, h9u⟩ : ∃ z9, z9 = u2 := ⟨_, rfl⟩
  subst h9u
  have hP : va_P D vwCl (VW dA h ad u8) H := hP
  have hD : va_D A (VW dA h ad u8) := hD
  have f_f_3 := hp9
  refine lv_goto hx hb d_SeriesVaultLaw_format_6 (tgt := 12) rfl ?_
  refine lv_iconst (v := 0) hx hb d_SeriesVaultLaw_format_12 (by decide) ?_
  exact rfI hx hb hr hlk hS u8 ⟨rfl, f_f_3⟩ hP hD (show 0 + mc9 ≤ mc9 by omega) (show 0 + ms9 ≤ ms9 by omega) d_SeriesVaultLaw_format_13
set_option maxHeartbeats 4000000 in
set_option maxRecDepth 100000 in
theorem k8_format_1 (l : Launch) (D : va_G) (dA : Nat → ClassId) (sz : Nat) (h : Nat) (ad : Nat → Nat) (x : VS) (p0 : Int32) (p1 : Int32) (F9 : VS → Prop) (fr : Nat) (lo : Nat) (mc9 : Nat) (ms9 : Nat) (hc9 : ∀ sz : Nat, mX l ⟨"SeriesVault", "format", "(II)V"⟩ [Cond.code ⟨"SeriesVault", "format", "(II)V"⟩ prog_1_method_8_code 3 none] { frames := fr, cells := mc9, slots := ms9, locals := lo } (pC D dA [.ref h, .int p0, .int p1] (VW dA h ad x) sz) "java/lang/IllegalArgumentException" (fun st9 t9 => va_F (va_A (VW dA h ad x) sz) st9 t9 ∧ ∃ u9 : VS, F9 u9 ∧ bW D (va_A (VW dA h ad x) sz) (VW dA h ad u9) t9) mc9 ms9 (va_A (VW dA h ad x) sz)) : Met l ⟨"SeriesVaultLaw", "format", "(LSeriesVault;II)I"⟩ [Cond.codeWith ⟨"SeriesVaultLaw", "format", "(LSeriesVault;II)I"⟩ method_5_code 4 (some FieldType.int) [(0, 6, 9, 19)]] { frames := fr + 1, cells := mc9, slots := ms9, locals := lo + 22 } (pC D dA [.ref h, .int p0, .int p1] (VW dA h ad x) sz) (va_Qi (fun (r9 : Int32) (u9 : VS) => r9 = 1 ∧ F9 u9) (fun (u9 : VS) t9 => bW D (va_A (VW dA h ad x) sz) (VW dA h ad u9) t9) (va_A (VW dA h ad x) sz)) mc9 ms9 (va_A (VW dA h ad x) sz) := by
  refine mkW (y := ⟨"SeriesVaultLaw", "format", "(LSeriesVault;II)I"⟩) (cc := method_5_code) (maxL := 4) (av := [.ref h, .int p0, .int p1]) (ws := VW dA h ad x) (sz := sz) (Qc := fun A => va_Qi (fun (r9 : Int32) (u9 : VS) => r9 = 1 ∧ F9 u9) (fun (u9 : VS) t9 => bW D A (VW dA h ad u9) t9) A) (by decide) (Nat.le_of_ble_eq_true rfl) ?_
  intro A p e s m below meth c ls hsz htab hB
  obtain ⟨hx, hb, hr, hml, hown, hin, hlk, hE, hK, hP, hD, hS, hA, hN, hl⟩ := hB
  have hown : s.vm.findClass "SeriesVaultLaw" = some m.cls := hown
  have hl : lv_has ls 4 [(0, .ref h), (1, .int p0), (2, .int p1)] := hl
  obtain ⟨H, hH⟩ : ∃ z, z = s.heap := ⟨_, rfl⟩
  have hP : va_P D vwCl (VW dA h ad x) H := by rw [hH]; exact hP
  have hS : va_S A s.heap H [] := by rw [hH]; exact hS
  rw [← hH]
  refine lv_aload_n hx hb d_SeriesVaultLaw_format_0 rfl (lv_at hl 0 rfl) ?_
  refine lv_iload_n hx hb d_SeriesVaultLaw_format_1 rfl (lv_at hl 1 rfl) ?_
  refine lv_iload_n hx hb d_SeriesVaultLaw_format_2 rfl (lv_at hl 2 rfl) ?_
  refine xkV (S := VS) (F := F9) (w1 := fun u => VW dA h ad u) (wr := []) (As := [.int p0, .int p1]) (rest := []) hx hb hml hown hE hK (hN _ _ hS) (hc9 H.size) (q0 := 0) rfl rfl w624 w623 w625 w626 w277 rfl rfl ⟨⟨by decide, by decide⟩, rfl⟩ ⟨(by first | exact Nat.le_of_ble_eq_true rfl | (dsimp only; omega)), (by first | exact Nat.le_of_ble_eq_true rfl | (dsimp only; omega))⟩ rfl hl.1 rfl (by first | exact Nat.le_of_ble_eq_true rfl | (dsimp only; omega)) d_SeriesVaultLaw_format_3 ⟨(show 0 + mc9 ≤ mc9 by omega), (show 0 + ms9 ≤ ms9 by omega)⟩ hP hD hS hA (fun u2 xa1 ce H locs hf9 hP hD hS hce hcv hcl => ?_)
  have hP : va_P D vwCl (VW dA h ad u2) H := hP
  have hD : va_D A (VW dA h ad u2) := hD
  refine xCatch (E := "java/lang/IllegalArgumentException") hown hE [] ⟨0, 6, 9, 19⟩ [] htab (fun _ h => absurd h List.not_mem_nil) (by decide) (by decide) w349 w267 hce hcv hcl ?_
  refine lv_astore_n hx hb d_SeriesVaultLaw_format_9 rfl hl (by decide) rfl (fun ls hl => ?_)
  have hl : lv_has ls 4 [(3, .ref xa1), (0, .ref h), (1, .int p0), (2, .int p1)] := hl
  refine lv_iconst (v := 1) hx hb d_SeriesVaultLaw_format_10 (by decide) ?_
  exact rfI hx hb hr hlk hS u2 ⟨rfl, hf9⟩ hP hD (show 0 + mc9 ≤ mc9 by omega) (show 0 + ms9 ≤ ms9 by omega) d_SeriesVaultLaw_format_11
set_option maxHeartbeats 4000000 in
set_option maxRecDepth 100000 in
theorem k8_series (l : Launch) (D : va_G) (dA : Nat → ClassId) (sz : Nat) (h : Nat) (ad : Nat → Nat) (o : Nat) (og : Nat → Int64) (x : VS) (v9 : Int32) (F9 : VS → Prop) (fr : Nat) (lo : Nat) (mc9 : Nat) (ms9 : Nat) (hc9 : ∀ sz : Nat, Met l ⟨"SeriesVault", "series", "()I"⟩ [Cond.code ⟨"SeriesVault", "series", "()I"⟩ prog_1_method_23_code 3 (some FieldType.int)] { frames := fr, cells := mc9, slots := ms9, locals := lo } (pC D dA [.ref h] (VW dA h ad x) sz) (va_Qi (fun (r9 : Int32) (u9 : VS) => r9 = v9 ∧ F9 u9) (fun (u9 : VS) t9 => bW D (va_A (VW dA h ad x) sz) (VW dA h ad u9) t9) (va_A (VW dA h ad x) sz)) mc9 ms9 (va_A (VW dA h ad x) sz)) : Met l ⟨"SeriesVaultLaw", "series", "(LSeriesVault;[J)I"⟩ [Cond.codeWith ⟨"SeriesVaultLaw", "series", "(LSeriesVault;[J)I"⟩ method_6_code 3 (some FieldType.int) [(0, 8, 11, 29), (0, 8, 14, 13)]] { frames := fr + 1, cells := mc9, slots := ms9, locals := lo + 22 } (pC D dA [.ref h, .ref o] ([(o, .inl (dA 2, 1, .inr (.inl og)))] ++ (VW dA h ad x)) sz) (va_Qi (fun (r9 : Int32) (u9 : VS) => r9 = 0 ∧ F9 u9) (fun (u9 : VS) t9 => bW D (va_A ([(o, .inl (dA 2, 1, .inr (.inl og)))] ++ (VW dA h ad x)) sz) ([(o, .inl (dA 2, 1, .inr (.inl (va_up og 0 (v9.toInt64)))))] ++ (VW dA h ad u9)) t9) (va_A ([(o, .inl (dA 2, 1, .inr (.inl og)))] ++ (VW dA h ad x)) sz)) mc9 ms9 (va_A ([(o, .inl (dA 2, 1, .inr (.inl og)))] ++ (VW dA h ad x)) sz) := by
  refine mkW (y := ⟨"SeriesVaultLaw", "series", "(LSeriesVault;[J)I"⟩) (cc := method_6_code) (maxL := 3) (av := [.ref h, .ref o]) (ws := [(o, .inl (dA 2, 1, .inr (.inl og)))] ++ (VW dA h ad x)) (sz := sz) (Qc := fun A => va_Qi (fun (r9 : Int32) (u9 : VS) => r9 = 0 ∧ F9 u9) (fun (u9 : VS) t9 => bW D A ([(o, .inl (dA 2, 1, .inr (.inl (va_up og 0 (v9.toInt64)))))] ++ (VW dA h ad u9)) t9) A) (by decide) (Nat.le_of_ble_eq_true rfl) ?_
  intro A p e s m below meth c ls hsz htab hB
  obtain ⟨hx, hb, hr, hml, hown, hin, hlk, hE, hK, hP, hD, hS, hA, hN, hl⟩ := hB
  have hown : s.vm.findClass "SeriesVaultLaw" = some m.cls := hown
  have hl : lv_has ls 3 [(0, .ref h), (1, .ref o)] := hl
  obtain ⟨H, hH⟩ : ∃ z, z = s.heap := ⟨_, rfl⟩
  have hP : va_P D vwCl ([(o, .inl (dA 2, 1, .inr (.inl og)))] ++ (VW dA h ad x)) H := by rw [hH]; exact hP
  have hS : va_S A s.heap H [] := by rw [hH]; exact hS
  rw [← hH]
  refine lv_aload_n hx hb d_SeriesVaultLaw_series_0 rfl (lv_at hl 1 rfl) ?_
  refine lv_iconst (v := 0) hx hb d_SeriesVaultLaw_series_1 (by decide) ?_
  refine lv_aload_n hx hb d_SeriesVaultLaw_series_2 rfl (lv_at hl 0 rfl) ?_
  have hPc : va_P D vwCl (VW dA h ad x) H := spP (wr := [(o, .inl (dA 2, 1, .inr (.inl og)))]) hP
  have hDc : va_D A (VW dA h ad x) := spD (wr := [(o, .inl (dA 2, 1, .inr (.inl og)))]) hD
  refine jkI (wr := [(o, .inl (dA 2, 1, .inr (.inl og)))]) (rnV (As := []) (rest := [.int 0, .ref o]) hx hb hml hown hE hK (hN _ _ hS) hPc hDc ((fun (_ : Launch) (_ : va_G) (_ : Nat → ClassId) (sz9 : Nat) (_ : Nat) (_ : Nat → Nat) (_ : VS) => hc9 sz9) l D dA H.size h ad x) (q0 := 0) rfl rfl w628 w627 w629 w630 w277 rfl rfl ⟨⟨by decide, by decide⟩, rfl⟩ ⟨(by first | exact Nat.le_of_ble_eq_true rfl | (dsimp only; omega)), (by first | exact Nat.le_of_ble_eq_true rfl | (dsimp only; omega))⟩ rfl hl.1 rfl (by first | exact Nat.le_of_ble_eq_true rfl | (dsimp only; omega)) d_SeriesVaultLaw_series_3 ⟨(show 0 + mc9 ≤ mc9 by omega), (show 0 + ms9 ≤ ms9 by omega)⟩) hP hD hS hA (fun r1 u2 H locs hp9 hP hD hS => ?_)
  obtain ⟨u8, h9u⟩ : ∃ z9, z9 = u2 := ⟨_, rfl⟩
  subst h9u
  have hP : va_P D vwCl ([(o, .inl (dA 2, 1, .inr (.inl og)))] ++ (VW dA h ad u8)) H := hP
  have hD : va_D A ([(o, .inl (dA 2, 1, .inr (.inl og)))] ++ (VW dA h ad u8)) := hD
  obtain ⟨hp9, f_f_3⟩ := hp9
  replace hp9 : v9 = r1 := Eq.symm hp9
  subst hp9
  refine lv_i2l hx hb d_SeriesVaultLaw_series_6 rfl ?_
  refine nlst (n := 1) hx hb hK hP hD hS (0) 2 rfl rfl (0) (by omega) (by decide) d_SeriesVaultLaw_series_7 (fun H locs hP hD hS => ?_)
  have hP : va_P D vwCl ([(o, .inl (dA 2, 1, .inr (.inl (va_up og 0 v9.toInt64))))] ++ (VW dA h ad u8)) H := hP
  have hD : va_D A ([(o, .inl (dA 2, 1, .inr (.inl (va_up og 0 v9.toInt64))))] ++ (VW dA h ad u8)) := hD
  refine lv_goto hx hb d_SeriesVaultLaw_series_8 (tgt := 17) rfl ?_
  refine lv_iconst (v := 0) hx hb d_SeriesVaultLaw_series_17 (by decide) ?_
  exact rfI hx hb hr hlk hS u8 ⟨rfl, f_f_3⟩ hP hD (show 0 + mc9 ≤ mc9 by omega) (show 0 + ms9 ≤ ms9 by omega) d_SeriesVaultLaw_series_18
theorem d_SeriesVaultLaw_series_11 : decode method_6_code 11 = .ok (.astore_n 2, 1) := by decide +kernel
theorem d_SeriesVaultLaw_series_12 : decode method_6_code 12 = .ok (.iconst 1, 1) := by decide +kernel
theorem d_SeriesVaultLaw_series_13 : decode method_6_code 13 = .ok (.ireturn, 1) := by decide +kernel
set_option maxHeartbeats 4000000 in
set_option maxRecDepth 100000 in
theorem k8_series_1 (l : Launch) (D : va_G) (dA : Nat → ClassId) (sz : Nat) (h : Nat) (ad : Nat → Nat) (o : Nat) (og : Nat → Int64) (x : VS) (F9 : VS → Prop) (fr : Nat) (lo : Nat) (mc9 : Nat) (ms9 : Nat) (hc9 : ∀ sz : Nat, mX l ⟨"SeriesVault", "series", "()I"⟩ [Cond.code ⟨"SeriesVault", "series", "()I"⟩ prog_1_method_23_code 3 (some FieldType.int)] { frames := fr, cells := mc9, slots := ms9, locals := lo } (pC D dA [.ref h] (VW dA h ad x) sz) "java/lang/IllegalStateException" (fun st9 t9 => va_F (va_A (VW dA h ad x) sz) st9 t9 ∧ ∃ u9 : VS, F9 u9 ∧ bW D (va_A (VW dA h ad x) sz) (VW dA h ad u9) t9) mc9 ms9 (va_A (VW dA h ad x) sz)) : Met l ⟨"SeriesVaultLaw", "series", "(LSeriesVault;[J)I"⟩ [Cond.codeWith ⟨"SeriesVaultLaw", "series", "(LSeriesVault;[J)I"⟩ method_6_code 3 (some FieldType.int) [(0, 8, 11, 29), (0, 8, 14, 13)]] { frames := fr + 1, cells := mc9, slots := ms9, locals := lo + 22 } (pC D dA [.ref h, .ref o] ([(o, .inl (dA 2, 1, .inr (.inl og)))] ++ (VW dA h ad x)) sz) (va_Qi (fun (r9 : Int32) (u9 : VS) => r9 = 1 ∧ F9 u9) (fun (u9 : VS) t9 => bW D (va_A ([(o, .inl (dA 2, 1, .inr (.inl og)))] ++ (VW dA h ad x)) sz) ([(o, .inl (dA 2, 1, .inr (.inl og)))] ++ (VW dA h ad u9)) t9) (va_A ([(o, .inl (dA 2, 1, .inr (.inl og)))] ++ (VW dA h ad x)) sz)) mc9 ms9 (va_A ([(o, .inl (dA 2, 1, .inr (.inl og)))] ++ (VW dA h ad x)) sz) := by
  refine mkW (y := ⟨"SeriesVaultLaw", "series", "(LSeriesVault;[J)I"⟩) (cc := method_6_code) (maxL := 3) (av := [.ref h, .ref o]) (ws := [(o, .inl (dA 2, 1, .inr (.inl og)))] ++ (VW dA h ad x)) (sz := sz) (Qc := fun A => va_Qi (fun (r9 : Int32) (u9 : VS) => r9 = 1 ∧ F9 u9) (fun (u9 : VS) t9 => bW D A ([(o, .inl (dA 2, 1, .inr (.inl og)))] ++ (VW dA h ad u9)) t9) A) (by decide) (Nat.le_of_ble_eq_true rfl) ?_
  intro A p e s m below meth c ls hsz htab hB
  obtain ⟨hx, hb, hr, hml, hown, hin, hlk, hE, hK, hP, hD, hS, hA, hN, hl⟩ := hB
  have hown : s.vm.findClass "SeriesVaultLaw" = some m.cls := hown
  have hl : lv_has ls 3 [(0, .ref h), (1, .ref o)] := hl
  obtain ⟨H, hH⟩ : ∃ z, z = s.heap := ⟨_, rfl⟩
  have hP : va_P D vwCl ([(o, .inl (dA 2, 1, .inr (.inl og)))] ++ (VW dA h ad x)) H := by rw [hH]; exact hP
  have hS : va_S A s.heap H [] := by rw [hH]; exact hS
  rw [← hH]
  refine lv_aload_n hx hb d_SeriesVaultLaw_series_0 rfl (lv_at hl 1 rfl) ?_
  refine lv_iconst (v := 0) hx hb d_SeriesVaultLaw_series_1 (by decide) ?_
  refine lv_aload_n hx hb d_SeriesVaultLaw_series_2 rfl (lv_at hl 0 rfl) ?_
  refine xkV (S := VS) (F := F9) (w1 := fun u => VW dA h ad u) (wr := [(o, .inl (dA 2, 1, .inr (.inl og)))]) (As := []) (rest := [.int 0, .ref o]) hx hb hml hown hE hK (hN _ _ hS) (hc9 H.size) (q0 := 0) rfl rfl w628 w627 w629 w630 w277 rfl rfl ⟨⟨by decide, by decide⟩, rfl⟩ ⟨(by first | exact Nat.le_of_ble_eq_true rfl | (dsimp only; omega)), (by first | exact Nat.le_of_ble_eq_true rfl | (dsimp only; omega))⟩ rfl hl.1 rfl (by first | exact Nat.le_of_ble_eq_true rfl | (dsimp only; omega)) d_SeriesVaultLaw_series_3 ⟨(show 0 + mc9 ≤ mc9 by omega), (show 0 + ms9 ≤ ms9 by omega)⟩ hP hD hS hA (fun u2 xa1 ce H locs hf9 hP hD hS hce hcv hcl => ?_)
  have hP : va_P D vwCl ([(o, .inl (dA 2, 1, .inr (.inl og)))] ++ (VW dA h ad u2)) H := hP
  have hD : va_D A ([(o, .inl (dA 2, 1, .inr (.inl og)))] ++ (VW dA h ad u2)) := hD
  refine xCatch (E := "java/lang/IllegalStateException") hown hE [] ⟨0, 8, 11, 29⟩ [⟨0, 8, 14, 13⟩] htab (fun _ h => absurd h List.not_mem_nil) (by decide) (by decide) w363 w289 hce hcv hcl ?_
  refine lv_astore_n hx hb d_SeriesVaultLaw_series_11 rfl hl (by decide) rfl (fun ls hl => ?_)
  have hl : lv_has ls 3 [(2, .ref xa1), (0, .ref h), (1, .ref o)] := hl
  refine lv_iconst (v := 1) hx hb d_SeriesVaultLaw_series_12 (by decide) ?_
  exact rfI hx hb hr hlk hS u2 ⟨rfl, hf9⟩ hP hD (show 0 + mc9 ≤ mc9 by omega) (show 0 + ms9 ≤ ms9 by omega) d_SeriesVaultLaw_series_13
theorem d_SeriesVaultLaw_series_14 : decode method_6_code 14 = .ok (.astore_n 2, 1) := by decide +kernel
theorem d_SeriesVaultLaw_series_15 : decode method_6_code 15 = .ok (.iconst 2, 1) := by decide +kernel
theorem d_SeriesVaultLaw_series_16 : decode method_6_code 16 = .ok (.ireturn, 1) := by decide +kernel
set_option maxHeartbeats 4000000 in
set_option maxRecDepth 100000 in
theorem k8_series_2 (l : Launch) (D : va_G) (dA : Nat → ClassId) (sz : Nat) (h : Nat) (ad : Nat → Nat) (o : Nat) (og : Nat → Int64) (x : VS) (F9 : VS → Prop) (fr : Nat) (lo : Nat) (mc9 : Nat) (ms9 : Nat) (hc9 : ∀ sz : Nat, mX l ⟨"SeriesVault", "series", "()I"⟩ [Cond.code ⟨"SeriesVault", "series", "()I"⟩ prog_1_method_23_code 3 (some FieldType.int)] { frames := fr, cells := mc9, slots := ms9, locals := lo } (pC D dA [.ref h] (VW dA h ad x) sz) "java/lang/UnsupportedOperationException" (fun st9 t9 => va_F (va_A (VW dA h ad x) sz) st9 t9 ∧ ∃ u9 : VS, F9 u9 ∧ bW D (va_A (VW dA h ad x) sz) (VW dA h ad u9) t9) mc9 ms9 (va_A (VW dA h ad x) sz)) : Met l ⟨"SeriesVaultLaw", "series", "(LSeriesVault;[J)I"⟩ [Cond.codeWith ⟨"SeriesVaultLaw", "series", "(LSeriesVault;[J)I"⟩ method_6_code 3 (some FieldType.int) [(0, 8, 11, 29), (0, 8, 14, 13)]] { frames := fr + 1, cells := mc9, slots := ms9, locals := lo + 22 } (pC D dA [.ref h, .ref o] ([(o, .inl (dA 2, 1, .inr (.inl og)))] ++ (VW dA h ad x)) sz) (va_Qi (fun (r9 : Int32) (u9 : VS) => r9 = 2 ∧ F9 u9) (fun (u9 : VS) t9 => bW D (va_A ([(o, .inl (dA 2, 1, .inr (.inl og)))] ++ (VW dA h ad x)) sz) ([(o, .inl (dA 2, 1, .inr (.inl og)))] ++ (VW dA h ad u9)) t9) (va_A ([(o, .inl (dA 2, 1, .inr (.inl og)))] ++ (VW dA h ad x)) sz)) mc9 ms9 (va_A ([(o, .inl (dA 2, 1, .inr (.inl og)))] ++ (VW dA h ad x)) sz) := by
  refine mkW (y := ⟨"SeriesVaultLaw", "series", "(LSeriesVault;[J)I"⟩) (cc := method_6_code) (maxL := 3) (av := [.ref h, .ref o]) (ws := [(o, .inl (dA 2, 1, .inr (.inl og)))] ++ (VW dA h ad x)) (sz := sz) (Qc := fun A => va_Qi (fun (r9 : Int32) (u9 : VS) => r9 = 2 ∧ F9 u9) (fun (u9 : VS) t9 => bW D A ([(o, .inl (dA 2, 1, .inr (.inl og)))] ++ (VW dA h ad u9)) t9) A) (by decide) (Nat.le_of_ble_eq_true rfl) ?_
  intro A p e s m below meth c ls hsz htab hB
  obtain ⟨hx, hb, hr, hml, hown, hin, hlk, hE, hK, hP, hD, hS, hA, hN, hl⟩ := hB
  have hown : s.vm.findClass "SeriesVaultLaw" = some m.cls := hown
  have hl : lv_has ls 3 [(0, .ref h), (1, .ref o)] := hl
  obtain ⟨H, hH⟩ : ∃ z, z = s.heap := ⟨_, rfl⟩
  have hP : va_P D vwCl ([(o, .inl (dA 2, 1, .inr (.inl og)))] ++ (VW dA h ad x)) H := by rw [hH]; exact hP
  have hS : va_S A s.heap H [] := by rw [hH]; exact hS
  rw [← hH]
  refine lv_aload_n hx hb d_SeriesVaultLaw_series_0 rfl (lv_at hl 1 rfl) ?_
  refine lv_iconst (v := 0) hx hb d_SeriesVaultLaw_series_1 (by decide) ?_
  refine lv_aload_n hx hb d_SeriesVaultLaw_series_2 rfl (lv_at hl 0 rfl) ?_
  refine xkV (S := VS) (F := F9) (w1 := fun u => VW dA h ad u) (wr := [(o, .inl (dA 2, 1, .inr (.inl og)))]) (As := []) (rest := [.int 0, .ref o]) hx hb hml hown hE hK (hN _ _ hS) (hc9 H.size) (q0 := 0) rfl rfl w628 w627 w629 w630 w277 rfl rfl ⟨⟨by decide, by decide⟩, rfl⟩ ⟨(by first | exact Nat.le_of_ble_eq_true rfl | (dsimp only; omega)), (by first | exact Nat.le_of_ble_eq_true rfl | (dsimp only; omega))⟩ rfl hl.1 rfl (by first | exact Nat.le_of_ble_eq_true rfl | (dsimp only; omega)) d_SeriesVaultLaw_series_3 ⟨(show 0 + mc9 ≤ mc9 by omega), (show 0 + ms9 ≤ ms9 by omega)⟩ hP hD hS hA (fun u2 xa1 ce H locs hf9 hP hD hS hce hcv hcl => ?_)
  have hP : va_P D vwCl ([(o, .inl (dA 2, 1, .inr (.inl og)))] ++ (VW dA h ad u2)) H := hP
  have hD : va_D A ([(o, .inl (dA 2, 1, .inr (.inl og)))] ++ (VW dA h ad u2)) := hD
  refine xCatch (E := "java/lang/UnsupportedOperationException") hown hE [⟨0, 8, 11, 29⟩] ⟨0, 8, 14, 13⟩ [] htab (List.forall_mem_cons.mpr ⟨⟨by decide, "java/lang/IllegalStateException", w363, by decide⟩, fun _ h => absurd h List.not_mem_nil⟩) (by decide) (by decide) w1791 w1150 hce hcv hcl ?_
  refine lv_astore_n hx hb d_SeriesVaultLaw_series_14 rfl hl (by decide) rfl (fun ls hl => ?_)
  have hl : lv_has ls 3 [(2, .ref xa1), (0, .ref h), (1, .ref o)] := hl
  refine lv_iconst (v := 2) hx hb d_SeriesVaultLaw_series_15 (by decide) ?_
  exact rfI hx hb hr hlk hS u2 ⟨rfl, hf9⟩ hP hD (show 0 + mc9 ≤ mc9 by omega) (show 0 + ms9 ≤ ms9 by omega) d_SeriesVaultLaw_series_16
theorem d_SeriesVaultLaw_letter_8 : decode method_8_code 8 = .ok (.i2l, 1) := by decide +kernel
theorem d_SeriesVaultLaw_letter_9 : decode method_8_code 9 = .ok (.lastore, 1) := by decide +kernel
theorem d_SeriesVaultLaw_letter_10 : decode method_8_code 10 = .ok (.goto 11, 3) := by decide +kernel
theorem d_SeriesVaultLaw_letter_21 : decode method_8_code 21 = .ok (.iconst 0, 1) := by decide +kernel
theorem d_SeriesVaultLaw_letter_22 : decode method_8_code 22 = .ok (.ireturn, 1) := by decide +kernel
set_option maxHeartbeats 4000000 in
set_option maxRecDepth 100000 in
theorem k8_letter (l : Launch) (D : va_G) (dA : Nat → ClassId) (sz : Nat) (h : Nat) (ad : Nat → Nat) (o : Nat) (og : Nat → Int64) (x : VS) (p0 : Int32) (p1 : Int32) (v9 : Int32) (F9 : VS → Prop) (fr : Nat) (lo : Nat) (mc9 : Nat) (ms9 : Nat) (hc9 : ∀ sz : Nat, Met l ⟨"SeriesVault", "letter", "(II)I"⟩ [Cond.code ⟨"SeriesVault", "letter", "(II)I"⟩ prog_1_method_26_code 3 (some FieldType.int)] { frames := fr, cells := mc9, slots := ms9, locals := lo } (pC D dA [.ref h, .int p0, .int p1] (VW dA h ad x) sz) (va_Qi (fun (r9 : Int32) (u9 : VS) => r9 = v9 ∧ F9 u9) (fun (u9 : VS) t9 => bW D (va_A (VW dA h ad x) sz) (VW dA h ad u9) t9) (va_A (VW dA h ad x) sz)) mc9 ms9 (va_A (VW dA h ad x) sz)) : Met l ⟨"SeriesVaultLaw", "letter", "(LSeriesVault;II[J)I"⟩ [Cond.codeWith ⟨"SeriesVaultLaw", "letter", "(LSeriesVault;II[J)I"⟩ method_8_code 5 (some FieldType.int) [(0, 10, 13, 29), (0, 10, 17, 35)]] { frames := fr + 1, cells := mc9, slots := ms9, locals := lo + 22 } (pC D dA [.ref h, .int p0, .int p1, .ref o] ([(o, .inl (dA 2, 1, .inr (.inl og)))] ++ (VW dA h ad x)) sz) (va_Qi (fun (r9 : Int32) (u9 : VS) => r9 = 0 ∧ F9 u9) (fun (u9 : VS) t9 => bW D (va_A ([(o, .inl (dA 2, 1, .inr (.inl og)))] ++ (VW dA h ad x)) sz) ([(o, .inl (dA 2, 1, .inr (.inl (va_up og 0 (v9.toInt64)))))] ++ (VW dA h ad u9)) t9) (va_A ([(o, .inl (dA 2, 1, .inr (.inl og)))] ++ (VW dA h ad x)) sz)) mc9 ms9 (va_A ([(o, .inl (dA 2, 1, .inr (.inl og)))] ++ (VW dA h ad x)) sz) := by
  refine mkW (y := ⟨"SeriesVaultLaw", "letter", "(LSeriesVault;II[J)I"⟩) (cc := method_8_code) (maxL := 5) (av := [.ref h, .int p0, .int p1, .ref o]) (ws := [(o, .inl (dA 2, 1, .inr (.inl og)))] ++ (VW dA h ad x)) (sz := sz) (Qc := fun A => va_Qi (fun (r9 : Int32) (u9 : VS) => r9 = 0 ∧ F9 u9) (fun (u9 : VS) t9 => bW D A ([(o, .inl (dA 2, 1, .inr (.inl (va_up og 0 (v9.toInt64)))))] ++ (VW dA h ad u9)) t9) A) (by decide) (Nat.le_of_ble_eq_true rfl) ?_
  intro A p e s m below meth c ls hsz htab hB
  obtain ⟨hx, hb, hr, hml, hown, hin, hlk, hE, hK, hP, hD, hS, hA, hN, hl⟩ := hB
  have hown : s.vm.findClass "SeriesVaultLaw" = some m.cls := hown
  have hl : lv_has ls 5 [(0, .ref h), (1, .int p0), (2, .int p1), (3, .ref o)] := hl
  obtain ⟨H, hH⟩ : ∃ z, z = s.heap := ⟨_, rfl⟩
  have hP : va_P D vwCl ([(o, .inl (dA 2, 1, .inr (.inl og)))] ++ (VW dA h ad x)) H := by rw [hH]; exact hP
  have hS : va_S A s.heap H [] := by rw [hH]; exact hS
  rw [← hH]
  refine lv_aload_n hx hb d_SeriesVaultLaw_letter_0 rfl (lv_at hl 3 rfl) ?_
  refine lv_iconst (v := 0) hx hb d_SeriesVaultLaw_letter_1 (by decide) ?_
  refine lv_aload_n hx hb d_SeriesVaultLaw_letter_2 rfl (lv_at hl 0 rfl) ?_
  refine lv_iload_n hx hb d_SeriesVaultLaw_letter_3 rfl (lv_at hl 1 rfl) ?_
  refine lv_iload_n hx hb d_SeriesVaultLaw_letter_4 rfl (lv_at hl 2 rfl) ?_
  have hPc : va_P D vwCl (VW dA h ad x) H := spP (wr := [(o, .inl (dA 2, 1, .inr (.inl og)))]) hP
  have hDc : va_D A (VW dA h ad x) := spD (wr := [(o, .inl (dA 2, 1, .inr (.inl og)))]) hD
  refine jkI (wr := [(o, .inl (dA 2, 1, .inr (.inl og)))]) (rnV (As := [.int p0, .int p1]) (rest := [.int 0, .ref o]) hx hb hml hown hE hK (hN _ _ hS) hPc hDc ((fun (_ : Launch) (_ : va_G) (_ : Nat → ClassId) (sz9 : Nat) (_ : Nat) (_ : Nat → Nat) (_ : VS) (_ : Int32) (_ : Int32) => hc9 sz9) l D dA H.size h ad x p0 p1) (q0 := 0) rfl rfl w369 w368 w370 w371 w277 rfl rfl ⟨⟨by decide, by decide⟩, rfl⟩ ⟨(by first | exact Nat.le_of_ble_eq_true rfl | (dsimp only; omega)), (by first | exact Nat.le_of_ble_eq_true rfl | (dsimp only; omega))⟩ rfl hl.1 rfl (by first | exact Nat.le_of_ble_eq_true rfl | (dsimp only; omega)) d_SeriesVaultLaw_letter_5 ⟨(show 0 + mc9 ≤ mc9 by omega), (show 0 + ms9 ≤ ms9 by omega)⟩) hP hD hS hA (fun r1 u2 H locs hp9 hP hD hS => ?_)
  obtain ⟨u8, h9u⟩ : ∃ z9, z9 = u2 := ⟨_, rfl⟩
  subst h9u
  have hP : va_P D vwCl ([(o, .inl (dA 2, 1, .inr (.inl og)))] ++ (VW dA h ad u8)) H := hP
  have hD : va_D A ([(o, .inl (dA 2, 1, .inr (.inl og)))] ++ (VW dA h ad u8)) := hD
  obtain ⟨hp9, f_f_3⟩ := hp9
  replace hp9 : v9 = r1 := Eq.symm hp9
  subst hp9
  refine lv_i2l hx hb d_SeriesVaultLaw_letter_8 rfl ?_
  refine nlst (n := 1) hx hb hK hP hD hS (0) 2 rfl rfl (0) (by omega) (by decide) d_SeriesVaultLaw_letter_9 (fun H locs hP hD hS => ?_)
  have hP : va_P D vwCl ([(o, .inl (dA 2, 1, .inr (.inl (va_up og 0 v9.toInt64))))] ++ (VW dA h ad u8)) H := hP
  have hD : va_D A ([(o, .inl (dA 2, 1, .inr (.inl (va_up og 0 v9.toInt64))))] ++ (VW dA h ad u8)) := hD
  refine lv_goto hx hb d_SeriesVaultLaw_letter_10 (tgt := 21) rfl ?_
  refine lv_iconst (v := 0) hx hb d_SeriesVaultLaw_letter_21 (by decide) ?_
  exact rfI hx hb hr hlk hS u8 ⟨rfl, f_f_3⟩ hP hD (show 0 + mc9 ≤ mc9 by omega) (show 0 + ms9 ≤ ms9 by omega) d_SeriesVaultLaw_letter_22
theorem d_SeriesVaultLaw_letter_13 : decode method_8_code 13 = .ok (.astore 4, 2) := by decide +kernel
theorem d_SeriesVaultLaw_letter_15 : decode method_8_code 15 = .ok (.iconst 1, 1) := by decide +kernel
theorem d_SeriesVaultLaw_letter_16 : decode method_8_code 16 = .ok (.ireturn, 1) := by decide +kernel
set_option maxHeartbeats 4000000 in
set_option maxRecDepth 100000 in
theorem k8_letter_1 (l : Launch) (D : va_G) (dA : Nat → ClassId) (sz : Nat) (h : Nat) (ad : Nat → Nat) (o : Nat) (og : Nat → Int64) (x : VS) (p0 : Int32) (p1 : Int32) (F9 : VS → Prop) (fr : Nat) (lo : Nat) (mc9 : Nat) (ms9 : Nat) (hc9 : ∀ sz : Nat, mX l ⟨"SeriesVault", "letter", "(II)I"⟩ [Cond.code ⟨"SeriesVault", "letter", "(II)I"⟩ prog_1_method_26_code 3 (some FieldType.int)] { frames := fr, cells := mc9, slots := ms9, locals := lo } (pC D dA [.ref h, .int p0, .int p1] (VW dA h ad x) sz) "java/lang/IllegalStateException" (fun st9 t9 => va_F (va_A (VW dA h ad x) sz) st9 t9 ∧ ∃ u9 : VS, F9 u9 ∧ bW D (va_A (VW dA h ad x) sz) (VW dA h ad u9) t9) mc9 ms9 (va_A (VW dA h ad x) sz)) : Met l ⟨"SeriesVaultLaw", "letter", "(LSeriesVault;II[J)I"⟩ [Cond.codeWith ⟨"SeriesVaultLaw", "letter", "(LSeriesVault;II[J)I"⟩ method_8_code 5 (some FieldType.int) [(0, 10, 13, 29), (0, 10, 17, 35)]] { frames := fr + 1, cells := mc9, slots := ms9, locals := lo + 22 } (pC D dA [.ref h, .int p0, .int p1, .ref o] ([(o, .inl (dA 2, 1, .inr (.inl og)))] ++ (VW dA h ad x)) sz) (va_Qi (fun (r9 : Int32) (u9 : VS) => r9 = 1 ∧ F9 u9) (fun (u9 : VS) t9 => bW D (va_A ([(o, .inl (dA 2, 1, .inr (.inl og)))] ++ (VW dA h ad x)) sz) ([(o, .inl (dA 2, 1, .inr (.inl og)))] ++ (VW dA h ad u9)) t9) (va_A ([(o, .inl (dA 2, 1, .inr (.inl og)))] ++ (VW dA h ad x)) sz)) mc9 ms9 (va_A ([(o, .inl (dA 2, 1, .inr (.inl og)))] ++ (VW dA h ad x)) sz) := by
  refine mkW (y := ⟨"SeriesVaultLaw", "letter", "(LSeriesVault;II[J)I"⟩) (cc := method_8_code) (maxL := 5) (av := [.ref h, .int p0, .int p1, .ref o]) (ws := [(o, .inl (dA 2, 1, .inr (.inl og)))] ++ (VW dA h ad x)) (sz := sz) (Qc := fun A => va_Qi (fun (r9 : Int32) (u9 : VS) => r9 = 1 ∧ F9 u9) (fun (u9 : VS) t9 => bW D A ([(o, .inl (dA 2, 1, .inr (.inl og)))] ++ (VW dA h ad u9)) t9) A) (by decide) (Nat.le_of_ble_eq_true rfl) ?_
  intro A p e s m below meth c ls hsz htab hB
  obtain ⟨hx, hb, hr, hml, hown, hin, hlk, hE, hK, hP, hD, hS, hA, hN, hl⟩ := hB
  have hown : s.vm.findClass "SeriesVaultLaw" = some m.cls := hown
  have hl : lv_has ls 5 [(0, .ref h), (1, .int p0), (2, .int p1), (3, .ref o)] := hl
  obtain ⟨H, hH⟩ : ∃ z, z = s.heap := ⟨_, rfl⟩
  have hP : va_P D vwCl ([(o, .inl (dA 2, 1, .inr (.inl og)))] ++ (VW dA h ad x)) H := by rw [hH]; exact hP
  have hS : va_S A s.heap H [] := by rw [hH]; exact hS
  rw [← hH]
  refine lv_aload_n hx hb d_SeriesVaultLaw_letter_0 rfl (lv_at hl 3 rfl) ?_
  refine lv_iconst (v := 0) hx hb d_SeriesVaultLaw_letter_1 (by decide) ?_
  refine lv_aload_n hx hb d_SeriesVaultLaw_letter_2 rfl (lv_at hl 0 rfl) ?_
  refine lv_iload_n hx hb d_SeriesVaultLaw_letter_3 rfl (lv_at hl 1 rfl) ?_
  refine lv_iload_n hx hb d_SeriesVaultLaw_letter_4 rfl (lv_at hl 2 rfl) ?_
  refine xkV (S := VS) (F := F9) (w1 := fun u => VW dA h ad u) (wr := [(o, .inl (dA 2, 1, .inr (.inl og)))]) (As := [.int p0, .int p1]) (rest := [.int 0, .ref o]) hx hb hml hown hE hK (hN _ _ hS) (hc9 H.size) (q0 := 0) rfl rfl w369 w368 w370 w371 w277 rfl rfl ⟨⟨by decide, by decide⟩, rfl⟩ ⟨(by first | exact Nat.le_of_ble_eq_true rfl | (dsimp only; omega)), (by first | exact Nat.le_of_ble_eq_true rfl | (dsimp only; omega))⟩ rfl hl.1 rfl (by first | exact Nat.le_of_ble_eq_true rfl | (dsimp only; omega)) d_SeriesVaultLaw_letter_5 ⟨(show 0 + mc9 ≤ mc9 by omega), (show 0 + ms9 ≤ ms9 by omega)⟩ hP hD hS hA (fun u2 xa1 ce H locs hf9 hP hD hS hce hcv hcl => ?_)
  have hP : va_P D vwCl ([(o, .inl (dA 2, 1, .inr (.inl og)))] ++ (VW dA h ad u2)) H := hP
  have hD : va_D A ([(o, .inl (dA 2, 1, .inr (.inl og)))] ++ (VW dA h ad u2)) := hD
  refine xCatch (E := "java/lang/IllegalStateException") hown hE [] ⟨0, 10, 13, 29⟩ [⟨0, 10, 17, 35⟩] htab (fun _ h => absurd h List.not_mem_nil) (by decide) (by decide) w363 w289 hce hcv hcl ?_
  refine lv_astore hx hb d_SeriesVaultLaw_letter_13 hl (by decide) rfl (fun ls hl => ?_)
  have hl : lv_has ls 5 [(4, .ref xa1), (0, .ref h), (1, .int p0), (2, .int p1), (3, .ref o)] := hl
  refine lv_iconst (v := 1) hx hb d_SeriesVaultLaw_letter_15 (by decide) ?_
  exact rfI hx hb hr hlk hS u2 ⟨rfl, hf9⟩ hP hD (show 0 + mc9 ≤ mc9 by omega) (show 0 + ms9 ≤ ms9 by omega) d_SeriesVaultLaw_letter_16
set_option maxHeartbeats 4000000 in
set_option maxRecDepth 100000 in
theorem k8_letter_2 (l : Launch) (D : va_G) (dA : Nat → ClassId) (sz : Nat) (h : Nat) (ad : Nat → Nat) (o : Nat) (og : Nat → Int64) (x : VS) (p0 : Int32) (p1 : Int32) (F9 : VS → Prop) (fr : Nat) (lo : Nat) (mc9 : Nat) (ms9 : Nat) (hc9 : ∀ sz : Nat, mX l ⟨"SeriesVault", "letter", "(II)I"⟩ [Cond.code ⟨"SeriesVault", "letter", "(II)I"⟩ prog_1_method_26_code 3 (some FieldType.int)] { frames := fr, cells := mc9, slots := ms9, locals := lo } (pC D dA [.ref h, .int p0, .int p1] (VW dA h ad x) sz) "java/lang/IndexOutOfBoundsException" (fun st9 t9 => va_F (va_A (VW dA h ad x) sz) st9 t9 ∧ ∃ u9 : VS, F9 u9 ∧ bW D (va_A (VW dA h ad x) sz) (VW dA h ad u9) t9) mc9 ms9 (va_A (VW dA h ad x) sz)) : Met l ⟨"SeriesVaultLaw", "letter", "(LSeriesVault;II[J)I"⟩ [Cond.codeWith ⟨"SeriesVaultLaw", "letter", "(LSeriesVault;II[J)I"⟩ method_8_code 5 (some FieldType.int) [(0, 10, 13, 29), (0, 10, 17, 35)]] { frames := fr + 1, cells := mc9, slots := ms9, locals := lo + 22 } (pC D dA [.ref h, .int p0, .int p1, .ref o] ([(o, .inl (dA 2, 1, .inr (.inl og)))] ++ (VW dA h ad x)) sz) (va_Qi (fun (r9 : Int32) (u9 : VS) => r9 = 2 ∧ F9 u9) (fun (u9 : VS) t9 => bW D (va_A ([(o, .inl (dA 2, 1, .inr (.inl og)))] ++ (VW dA h ad x)) sz) ([(o, .inl (dA 2, 1, .inr (.inl og)))] ++ (VW dA h ad u9)) t9) (va_A ([(o, .inl (dA 2, 1, .inr (.inl og)))] ++ (VW dA h ad x)) sz)) mc9 ms9 (va_A ([(o, .inl (dA 2, 1, .inr (.inl og)))] ++ (VW dA h ad x)) sz) := by
  refine mkW (y := ⟨"SeriesVaultLaw", "letter", "(LSeriesVault;II[J)I"⟩) (cc := method_8_code) (maxL := 5) (av := [.ref h, .int p0, .int p1, .ref o]) (ws := [(o, .inl (dA 2, 1, .inr (.inl og)))] ++ (VW dA h ad x)) (sz := sz) (Qc := fun A => va_Qi (fun (r9 : Int32) (u9 : VS) => r9 = 2 ∧ F9 u9) (fun (u9 : VS) t9 => bW D A ([(o, .inl (dA 2, 1, .inr (.inl og)))] ++ (VW dA h ad u9)) t9) A) (by decide) (Nat.le_of_ble_eq_true rfl) ?_
  intro A p e s m below meth c ls hsz htab hB
  obtain ⟨hx, hb, hr, hml, hown, hin, hlk, hE, hK, hP, hD, hS, hA, hN, hl⟩ := hB
  have hown : s.vm.findClass "SeriesVaultLaw" = some m.cls := hown
  have hl : lv_has ls 5 [(0, .ref h), (1, .int p0), (2, .int p1), (3, .ref o)] := hl
  obtain ⟨H, hH⟩ : ∃ z, z = s.heap := ⟨_, rfl⟩
  have hP : va_P D vwCl ([(o, .inl (dA 2, 1, .inr (.inl og)))] ++ (VW dA h ad x)) H := by rw [hH]; exact hP
  have hS : va_S A s.heap H [] := by rw [hH]; exact hS
  rw [← hH]
  refine lv_aload_n hx hb d_SeriesVaultLaw_letter_0 rfl (lv_at hl 3 rfl) ?_
  refine lv_iconst (v := 0) hx hb d_SeriesVaultLaw_letter_1 (by decide) ?_
  refine lv_aload_n hx hb d_SeriesVaultLaw_letter_2 rfl (lv_at hl 0 rfl) ?_
  refine lv_iload_n hx hb d_SeriesVaultLaw_letter_3 rfl (lv_at hl 1 rfl) ?_
  refine lv_iload_n hx hb d_SeriesVaultLaw_letter_4 rfl (lv_at hl 2 rfl) ?_
  refine xkV (S := VS) (F := F9) (w1 := fun u => VW dA h ad u) (wr := [(o, .inl (dA 2, 1, .inr (.inl og)))]) (As := [.int p0, .int p1]) (rest := [.int 0, .ref o]) hx hb hml hown hE hK (hN _ _ hS) (hc9 H.size) (q0 := 0) rfl rfl w369 w368 w370 w371 w277 rfl rfl ⟨⟨by decide, by decide⟩, rfl⟩ ⟨(by first | exact Nat.le_of_ble_eq_true rfl | (dsimp only; omega)), (by first | exact Nat.le_of_ble_eq_true rfl | (dsimp only; omega))⟩ rfl hl.1 rfl (by first | exact Nat.le_of_ble_eq_true rfl | (dsimp only; omega)) d_SeriesVaultLaw_letter_5 ⟨(show 0 + mc9 ≤ mc9 by omega), (show 0 + ms9 ≤ ms9 by omega)⟩ hP hD hS hA (fun u2 xa1 ce H locs hf9 hP hD hS hce hcv hcl => ?_)
  have hP : va_P D vwCl ([(o, .inl (dA 2, 1, .inr (.inl og)))] ++ (VW dA h ad u2)) H := hP
  have hD : va_D A ([(o, .inl (dA 2, 1, .inr (.inl og)))] ++ (VW dA h ad u2)) := hD
  refine xCatch (E := "java/lang/IndexOutOfBoundsException") hown hE [⟨0, 10, 13, 29⟩] ⟨0, 10, 17, 35⟩ [] htab (List.forall_mem_cons.mpr ⟨⟨by decide, "java/lang/IllegalStateException", w363, by decide⟩, fun _ h => absurd h List.not_mem_nil⟩) (by decide) (by decide) w354 w222 hce hcv hcl ?_
  refine lv_astore hx hb d_SeriesVaultLaw_letter_17 hl (by decide) rfl (fun ls hl => ?_)
  have hl : lv_has ls 5 [(4, .ref xa1), (0, .ref h), (1, .int p0), (2, .int p1), (3, .ref o)] := hl
  refine lv_iconst (v := 2) hx hb d_SeriesVaultLaw_letter_19 (by decide) ?_
  exact rfI hx hb hr hlk hS u2 ⟨rfl, hf9⟩ hP hD (show 0 + mc9 ≤ mc9 by omega) (show 0 + ms9 ≤ ms9 by omega) d_SeriesVaultLaw_letter_20
