theorem d_SeriesVaultLaw_append_11 : decode method_9_code 11 = .ok (.i2l, 1) := by decide +kernel
theorem d_SeriesVaultLaw_append_12 : decode method_9_code 12 = .ok (.lastore, 1) := by decide +kernel
theorem d_SeriesVaultLaw_append_13 : decode method_9_code 13 = .ok (.goto 19, 3) := by decide +kernel
theorem d_SeriesVaultLaw_append_32 : decode method_9_code 32 = .ok (.iconst 0, 1) := by decide +kernel
theorem d_SeriesVaultLaw_append_33 : decode method_9_code 33 = .ok (.ireturn, 1) := by decide +kernel
set_option maxHeartbeats 4000000 in
set_option maxRecDepth 100000 in
theorem k8_append (l : Launch) (D : va_G) (dA : Nat → ClassId) (sz : Nat) (h : Nat) (ad : Nat → Nat) (o : Nat) (og : Nat → Int64) (x : VS) (p0 : Int32) (p1 : Int64) (p2 : Int64) (v9 : Int32) (F9 : VS → Prop) (fr : Nat) (lo : Nat) (mc9 : Nat) (ms9 : Nat) (hc9 : ∀ sz : Nat, Met l ⟨"SeriesVault", "append", "(IJJ)I"⟩ [Cond.code ⟨"SeriesVault", "append", "(IJJ)I"⟩ prog_1_method_28_code 6 (some FieldType.int)] { frames := fr, cells := mc9, slots := ms9, locals := lo } (pC D dA [.ref h, .int p0, .long p1, .long p2] (VW dA h ad x) sz) (va_Qi (fun (r9 : Int32) (u9 : VS) => r9 = v9 ∧ F9 u9) (fun (u9 : VS) t9 => bW D (va_A (VW dA h ad x) sz) (VW dA h ad u9) t9) (va_A (VW dA h ad x) sz)) mc9 ms9 (va_A (VW dA h ad x) sz)) : Met l ⟨"SeriesVaultLaw", "append", "(LSeriesVault;IJJ[J)I"⟩ [Cond.codeWith ⟨"SeriesVaultLaw", "append", "(LSeriesVault;IJJ[J)I"⟩ method_9_code 8 (some FieldType.int) [(0, 13, 16, 29), (0, 13, 20, 35), (0, 13, 24, 19), (0, 13, 28, 13)]] { frames := fr + 1, cells := mc9, slots := ms9, locals := lo + 25 } (pC D dA [.ref h, .int p0, .long p1, .long p2, .ref o] ([(o, .inl (dA 2, 1, .inr (.inl og)))] ++ (VW dA h ad x)) sz) (va_Qi (fun (r9 : Int32) (u9 : VS) => r9 = 0 ∧ F9 u9) (fun (u9 : VS) t9 => bW D (va_A ([(o, .inl (dA 2, 1, .inr (.inl og)))] ++ (VW dA h ad x)) sz) ([(o, .inl (dA 2, 1, .inr (.inl (va_up og 0 (v9.toInt64)))))] ++ (VW dA h ad u9)) t9) (va_A ([(o, .inl (dA 2, 1, .inr (.inl og)))] ++ (VW dA h ad x)) sz)) mc9 ms9 (va_A ([(o, .inl (dA 2, 1, .inr (.inl og)))] ++ (VW dA h ad x)) sz) := by
  refine mkW (y := ⟨"SeriesVaultLaw", "append", "(LSeriesVault;IJJ[J)I"⟩) (cc := method_9_code) (maxL := 8) (av := [.ref h, .int p0, .long p1, .long p2, .ref o]) (ws := [(o, .inl (dA 2, 1, .inr (.inl og)))] ++ (VW dA h ad x)) (sz := sz) (Qc := fun A => va_Qi (fun (r9 : Int32) (u9 : VS) => r9 = 0 ∧ F9 u9) (fun (u9 : VS) t9 => bW D A ([(o, .inl (dA 2, 1, .inr (.inl (va_up og 0 (v9.toInt64)))))] ++ (VW dA h ad u9)) t9) A) (by decide) (Nat.le_of_ble_eq_true rfl) ?_
  intro A p e s m below meth c ls hsz htab hB
  obtain ⟨hx, hb, hr, hml, hown, hin, hlk, hE, hK, hP, hD, hS, hA, hN, hl⟩ := hB
  have hown : s.vm.findClass "SeriesVaultLaw" = some m.cls := hown
  have hl : lv_has ls 8 [(0, .ref h), (1, .int p0), (2, .long p1), (4, .long p2), (6, .ref o)] := hl
  obtain ⟨H, hH⟩ : ∃ z, z = s.heap := ⟨_, rfl⟩
  have hP : va_P D vwCl ([(o, .inl (dA 2, 1, .inr (.inl og)))] ++ (VW dA h ad x)) H := by rw [hH]; exact hP
  have hS : va_S A s.heap H [] := by rw [hH]; exact hS
  rw [← hH]
  refine lv_aload hx hb d_SeriesVaultLaw_append_0 (lv_at hl 4 rfl) ?_
  refine lv_iconst (v := 0) hx hb d_SeriesVaultLaw_append_2 (by decide) ?_
  refine lv_aload_n hx hb d_SeriesVaultLaw_append_3 rfl (lv_at hl 0 rfl) ?_
  refine lv_iload_n hx hb d_SeriesVaultLaw_append_4 rfl (lv_at hl 1 rfl) ?_
  refine lv_lload_n hx hb d_SeriesVaultLaw_append_5 rfl (lv_at hl 2 rfl) ?_
  refine lv_lload hx hb d_SeriesVaultLaw_append_6 (lv_at hl 3 rfl) ?_
  have hPc : va_P D vwCl (VW dA h ad x) H := spP (wr := [(o, .inl (dA 2, 1, .inr (.inl og)))]) hP
  have hDc : va_D A (VW dA h ad x) := spD (wr := [(o, .inl (dA 2, 1, .inr (.inl og)))]) hD
  refine jkI (wr := [(o, .inl (dA 2, 1, .inr (.inl og)))]) (rnV (As := [.int p0, .long p1, .long p2]) (rest := [.int 0, .ref o]) hx hb hml hown hE hK (hN _ _ hS) hPc hDc ((fun (_ : Launch) (_ : va_G) (_ : Nat → ClassId) (sz9 : Nat) (_ : Nat) (_ : Nat → Nat) (_ : VS) (_ : Int32) (_ : Int64) (_ : Int64) => hc9 sz9) l D dA H.size h ad x p0 p1 p2) (q0 := 0) rfl rfl w377 w376 w378 w379 w277 rfl rfl ⟨⟨by decide, by decide⟩, rfl⟩ ⟨(by first | exact Nat.le_of_ble_eq_true rfl | (dsimp only; omega)), (by first | exact Nat.le_of_ble_eq_true rfl | (dsimp only; omega))⟩ rfl hl.1 rfl (by first | exact Nat.le_of_ble_eq_true rfl | (dsimp only; omega)) d_SeriesVaultLaw_append_8 ⟨(show 0 + mc9 ≤ mc9 by omega), (show 0 + ms9 ≤ ms9 by omega)⟩) hP hD hS hA (fun r1 u2 H locs hp9 hP hD hS => ?_)
  obtain ⟨u8, h9u⟩ : ∃ z9, z9 = u2 := ⟨_, rfl⟩
  subst h9u
  have hP : va_P D vwCl ([(o, .inl (dA 2, 1, .inr (.inl og)))] ++ (VW dA h ad u8)) H := hP
  have hD : va_D A ([(o, .inl (dA 2, 1, .inr (.inl og)))] ++ (VW dA h ad u8)) := hD
  obtain ⟨hp9, f_f_3⟩ := hp9
  replace hp9 : v9 = r1 := Eq.symm hp9
  subst hp9
  refine lv_i2l hx hb d_SeriesVaultLaw_append_11 rfl ?_
  refine nlst (n := 1) hx hb hK hP hD hS (0) 2 rfl rfl (0) (by omega) (by decide) d_SeriesVaultLaw_append_12 (fun H locs hP hD hS => ?_)
  have hP : va_P D vwCl ([(o, .inl (dA 2, 1, .inr (.inl (va_up og 0 v9.toInt64))))] ++ (VW dA h ad u8)) H := hP
  have hD : va_D A ([(o, .inl (dA 2, 1, .inr (.inl (va_up og 0 v9.toInt64))))] ++ (VW dA h ad u8)) := hD
  refine lv_goto hx hb d_SeriesVaultLaw_append_13 (tgt := 32) rfl ?_
  refine lv_iconst (v := 0) hx hb d_SeriesVaultLaw_append_32 (by decide) ?_
  exact rfI hx hb hr hlk hS u8 ⟨rfl, f_f_3⟩ hP hD (show 0 + mc9 ≤ mc9 by omega) (show 0 + ms9 ≤ ms9 by omega) d_SeriesVaultLaw_append_33
theorem d_SeriesVaultLaw_append_16 : decode method_9_code 16 = .ok (.astore 7, 2) := by decide +kernel
theorem d_SeriesVaultLaw_append_18 : decode method_9_code 18 = .ok (.iconst 1, 1) := by decide +kernel
theorem d_SeriesVaultLaw_append_19 : decode method_9_code 19 = .ok (.ireturn, 1) := by decide +kernel
set_option maxHeartbeats 4000000 in
set_option maxRecDepth 100000 in
theorem k8_append_1 (l : Launch) (D : va_G) (dA : Nat → ClassId) (sz : Nat) (h : Nat) (ad : Nat → Nat) (o : Nat) (og : Nat → Int64) (x : VS) (p0 : Int32) (p1 : Int64) (p2 : Int64) (F9 : VS → Prop) (fr : Nat) (lo : Nat) (mc9 : Nat) (ms9 : Nat) (hc9 : ∀ sz : Nat, mX l ⟨"SeriesVault", "append", "(IJJ)I"⟩ [Cond.code ⟨"SeriesVault", "append", "(IJJ)I"⟩ prog_1_method_28_code 6 (some FieldType.int)] { frames := fr, cells := mc9, slots := ms9, locals := lo } (pC D dA [.ref h, .int p0, .long p1, .long p2] (VW dA h ad x) sz) "java/lang/IllegalStateException" (fun st9 t9 => va_F (va_A (VW dA h ad x) sz) st9 t9 ∧ ∃ u9 : VS, F9 u9 ∧ bW D (va_A (VW dA h ad x) sz) (VW dA h ad u9) t9) mc9 ms9 (va_A (VW dA h ad x) sz)) : Met l ⟨"SeriesVaultLaw", "append", "(LSeriesVault;IJJ[J)I"⟩ [Cond.codeWith ⟨"SeriesVaultLaw", "append", "(LSeriesVault;IJJ[J)I"⟩ method_9_code 8 (some FieldType.int) [(0, 13, 16, 29), (0, 13, 20, 35), (0, 13, 24, 19), (0, 13, 28, 13)]] { frames := fr + 1, cells := mc9, slots := ms9, locals := lo + 25 } (pC D dA [.ref h, .int p0, .long p1, .long p2, .ref o] ([(o, .inl (dA 2, 1, .inr (.inl og)))] ++ (VW dA h ad x)) sz) (va_Qi (fun (r9 : Int32) (u9 : VS) => r9 = 1 ∧ F9 u9) (fun (u9 : VS) t9 => bW D (va_A ([(o, .inl (dA 2, 1, .inr (.inl og)))] ++ (VW dA h ad x)) sz) ([(o, .inl (dA 2, 1, .inr (.inl og)))] ++ (VW dA h ad u9)) t9) (va_A ([(o, .inl (dA 2, 1, .inr (.inl og)))] ++ (VW dA h ad x)) sz)) mc9 ms9 (va_A ([(o, .inl (dA 2, 1, .inr (.inl og)))] ++ (VW dA h ad x)) sz) := by
  refine mkW (y := ⟨"SeriesVaultLaw", "append", "(LSeriesVault;IJJ[J)I"⟩) (cc := method_9_code) (maxL := 8) (av := [.ref h, .int p0, .long p1, .long p2, .ref o]) (ws := [(o, .inl (dA 2, 1, .inr (.inl og)))] ++ (VW dA h ad x)) (sz := sz) (Qc := fun A => va_Qi (fun (r9 : Int32) (u9 : VS) => r9 = 1 ∧ F9 u9) (fun (u9 : VS) t9 => bW D A ([(o, .inl (dA 2, 1, .inr (.inl og)))] ++ (VW dA h ad u9)) t9) A) (by decide) (Nat.le_of_ble_eq_true rfl) ?_
  intro A p e s m below meth c ls hsz htab hB
  obtain ⟨hx, hb, hr, hml, hown, hin, hlk, hE, hK, hP, hD, hS, hA, hN, hl⟩ := hB
  have hown : s.vm.findClass "SeriesVaultLaw" = some m.cls := hown
  have hl : lv_has ls 8 [(0, .ref h), (1, .int p0), (2, .long p1), (4, .long p2), (6, .ref o)] := hl
  obtain ⟨H, hH⟩ : ∃ z, z = s.heap := ⟨_, rfl⟩
  have hP : va_P D vwCl ([(o, .inl (dA 2, 1, .inr (.inl og)))] ++ (VW dA h ad x)) H := by rw [hH]; exact hP
  have hS : va_S A s.heap H [] := by rw [hH]; exact hS
  rw [← hH]
  refine lv_aload hx hb d_SeriesVaultLaw_append_0 (lv_at hl 4 rfl) ?_
  refine lv_iconst (v := 0) hx hb d_SeriesVaultLaw_append_2 (by decide) ?_
  refine lv_aload_n hx hb d_SeriesVaultLaw_append_3 rfl (lv_at hl 0 rfl) ?_
  refine lv_iload_n hx hb d_SeriesVaultLaw_append_4 rfl (lv_at hl 1 rfl) ?_
  refine lv_lload_n hx hb d_SeriesVaultLaw_append_5 rfl (lv_at hl 2 rfl) ?_
  refine lv_lload hx hb d_SeriesVaultLaw_append_6 (lv_at hl 3 rfl) ?_
  refine xkV (S := VS) (F := F9) (w1 := fun u => VW dA h ad u) (wr := [(o, .inl (dA 2, 1, .inr (.inl og)))]) (As := [.int p0, .long p1, .long p2]) (rest := [.int 0, .ref o]) hx hb hml hown hE hK (hN _ _ hS) (hc9 H.size) (q0 := 0) rfl rfl w377 w376 w378 w379 w277 rfl rfl ⟨⟨by decide, by decide⟩, rfl⟩ ⟨(by first | exact Nat.le_of_ble_eq_true rfl | (dsimp only; omega)), (by first | exact Nat.le_of_ble_eq_true rfl | (dsimp only; omega))⟩ rfl hl.1 rfl (by first | exact Nat.le_of_ble_eq_true rfl | (dsimp only; omega)) d_SeriesVaultLaw_append_8 ⟨(show 0 + mc9 ≤ mc9 by omega), (show 0 + ms9 ≤ ms9 by omega)⟩ hP hD hS hA (fun u2 xa1 ce H locs hf9 hP hD hS hce hcv hcl => ?_)
  have hP : va_P D vwCl ([(o, .inl (dA 2, 1, .inr (.inl og)))] ++ (VW dA h ad u2)) H := hP
  have hD : va_D A ([(o, .inl (dA 2, 1, .inr (.inl og)))] ++ (VW dA h ad u2)) := hD
  refine xCatch (E := "java/lang/IllegalStateException") hown hE [] ⟨0, 13, 16, 29⟩ [⟨0, 13, 20, 35⟩, ⟨0, 13, 24, 19⟩, ⟨0, 13, 28, 13⟩] htab (fun _ h => absurd h List.not_mem_nil) (by decide) (by decide) w363 w289 hce hcv hcl ?_
  refine lv_astore hx hb d_SeriesVaultLaw_append_16 hl (by decide) rfl (fun ls hl => ?_)
  have hl : lv_has ls 8 [(7, .ref xa1), (0, .ref h), (1, .int p0), (2, .long p1), (4, .long p2), (6, .ref o)] := hl
  refine lv_iconst (v := 1) hx hb d_SeriesVaultLaw_append_18 (by decide) ?_
  exact rfI hx hb hr hlk hS u2 ⟨rfl, hf9⟩ hP hD (show 0 + mc9 ≤ mc9 by omega) (show 0 + ms9 ≤ ms9 by omega) d_SeriesVaultLaw_append_19
set_option maxHeartbeats 4000000 in
set_option maxRecDepth 100000 in
theorem k8_append_2 (l : Launch) (D : va_G) (dA : Nat → ClassId) (sz : Nat) (h : Nat) (ad : Nat → Nat) (o : Nat) (og : Nat → Int64) (x : VS) (p0 : Int32) (p1 : Int64) (p2 : Int64) (F9 : VS → Prop) (fr : Nat) (lo : Nat) (mc9 : Nat) (ms9 : Nat) (hc9 : ∀ sz : Nat, mX l ⟨"SeriesVault", "append", "(IJJ)I"⟩ [Cond.code ⟨"SeriesVault", "append", "(IJJ)I"⟩ prog_1_method_28_code 6 (some FieldType.int)] { frames := fr, cells := mc9, slots := ms9, locals := lo } (pC D dA [.ref h, .int p0, .long p1, .long p2] (VW dA h ad x) sz) "java/lang/IndexOutOfBoundsException" (fun st9 t9 => va_F (va_A (VW dA h ad x) sz) st9 t9 ∧ ∃ u9 : VS, F9 u9 ∧ bW D (va_A (VW dA h ad x) sz) (VW dA h ad u9) t9) mc9 ms9 (va_A (VW dA h ad x) sz)) : Met l ⟨"SeriesVaultLaw", "append", "(LSeriesVault;IJJ[J)I"⟩ [Cond.codeWith ⟨"SeriesVaultLaw", "append", "(LSeriesVault;IJJ[J)I"⟩ method_9_code 8 (some FieldType.int) [(0, 13, 16, 29), (0, 13, 20, 35), (0, 13, 24, 19), (0, 13, 28, 13)]] { frames := fr + 1, cells := mc9, slots := ms9, locals := lo + 25 } (pC D dA [.ref h, .int p0, .long p1, .long p2, .ref o] ([(o, .inl (dA 2, 1, .inr (.inl og)))] ++ (VW dA h ad x)) sz) (va_Qi (fun (r9 : Int32) (u9 : VS) => r9 = 2 ∧ F9 u9) (fun (u9 : VS) t9 => bW D (va_A ([(o, .inl (dA 2, 1, .inr (.inl og)))] ++ (VW dA h ad x)) sz) ([(o, .inl (dA 2, 1, .inr (.inl og)))] ++ (VW dA h ad u9)) t9) (va_A ([(o, .inl (dA 2, 1, .inr (.inl og)))] ++ (VW dA h ad x)) sz)) mc9 ms9 (va_A ([(o, .inl (dA 2, 1, .inr (.inl og)))] ++ (VW dA h ad x)) sz) := by
  refine mkW (y := ⟨"SeriesVaultLaw", "append", "(LSeriesVault;IJJ[J)I"⟩) (cc := method_9_code) (maxL := 8) (av := [.ref h, .int p0, .long p1, .long p2, .ref o]) (ws := [(o, .inl (dA 2, 1, .inr (.inl og)))] ++ (VW dA h ad x)) (sz := sz) (Qc := fun A => va_Qi (fun (r9 : Int32) (u9 : VS) => r9 = 2 ∧ F9 u9) (fun (u9 : VS) t9 => bW D A ([(o, .inl (dA 2, 1, .inr (.inl og)))] ++ (VW dA h ad u9)) t9) A) (by decide) (Nat.le_of_ble_eq_true rfl) ?_
  intro A p e s m below meth c ls hsz htab hB
  obtain ⟨hx, hb, hr, hml, hown, hin, hlk, hE, hK, hP, hD, hS, hA, hN, hl⟩ := hB
  have hown : s.vm.findClass "SeriesVaultLaw" = some m.cls := hown
  have hl : lv_has ls 8 [(0, .ref h), (1, .int p0), (2, .long p1), (4, .long p2), (6, .ref o)] := hl
  obtain ⟨H, hH⟩ : ∃ z, z = s.heap := ⟨_, rfl⟩
  have hP : va_P D vwCl ([(o, .inl (dA 2, 1, .inr (.inl og)))] ++ (VW dA h ad x)) H := by rw [hH]; exact hP
  have hS : va_S A s.heap H [] := by rw [hH]; exact hS
  rw [← hH]
  refine lv_aload hx hb d_SeriesVaultLaw_append_0 (lv_at hl 4 rfl) ?_
  refine lv_iconst (v := 0) hx hb d_SeriesVaultLaw_append_2 (by decide) ?_
  refine lv_aload_n hx hb d_SeriesVaultLaw_append_3 rfl (lv_at hl 0 rfl) ?_
  refine lv_iload_n hx hb d_SeriesVaultLaw_append_4 rfl (lv_at hl 1 rfl) ?_
  refine lv_lload_n hx hb d_SeriesVaultLaw_append_5 rfl (lv_at hl 2 rfl) ?_
  refine lv_lload hx hb d_SeriesVaultLaw_append_6 (lv_at hl 3 rfl) ?_
  refine xkV (S := VS) (F := F9) (w1 := fun u => VW dA h ad u) (wr := [(o, .inl (dA 2, 1, .inr (.inl og)))]) (As := [.int p0, .long p1, .long p2]) (rest := [.int 0, .ref o]) hx hb hml hown hE hK (hN _ _ hS) (hc9 H.size) (q0 := 0) rfl rfl w377 w376 w378 w379 w277 rfl rfl ⟨⟨by decide, by decide⟩, rfl⟩ ⟨(by first | exact Nat.le_of_ble_eq_true rfl | (dsimp only; omega)), (by first | exact Nat.le_of_ble_eq_true rfl | (dsimp only; omega))⟩ rfl hl.1 rfl (by first | exact Nat.le_of_ble_eq_true rfl | (dsimp only; omega)) d_SeriesVaultLaw_append_8 ⟨(show 0 + mc9 ≤ mc9 by omega), (show 0 + ms9 ≤ ms9 by omega)⟩ hP hD hS hA (fun u2 xa1 ce H locs hf9 hP hD hS hce hcv hcl => ?_)
  have hP : va_P D vwCl ([(o, .inl (dA 2, 1, .inr (.inl og)))] ++ (VW dA h ad u2)) H := hP
  have hD : va_D A ([(o, .inl (dA 2, 1, .inr (.inl og)))] ++ (VW dA h ad u2)) := hD
  refine xCatch (E := "java/lang/IndexOutOfBoundsException") hown hE [⟨0, 13, 16, 29⟩] ⟨0, 13, 20, 35⟩ [⟨0, 13, 24, 19⟩, ⟨0, 13, 28, 13⟩] htab (List.forall_mem_cons.mpr ⟨⟨by decide, "java/lang/IllegalStateException", w363, by decide⟩, fun _ h => absurd h List.not_mem_nil⟩) (by decide) (by decide) w354 w222 hce hcv hcl ?_
  refine lv_astore hx hb d_SeriesVaultLaw_append_20 hl (by decide) rfl (fun ls hl => ?_)
  have hl : lv_has ls 8 [(7, .ref xa1), (0, .ref h), (1, .int p0), (2, .long p1), (4, .long p2), (6, .ref o)] := hl
  refine lv_iconst (v := 2) hx hb d_SeriesVaultLaw_append_22 (by decide) ?_
  exact rfI hx hb hr hlk hS u2 ⟨rfl, hf9⟩ hP hD (show 0 + mc9 ≤ mc9 by omega) (show 0 + ms9 ≤ ms9 by omega) d_SeriesVaultLaw_append_23
theorem d_SeriesVaultLaw_append_24 : decode method_9_code 24 = .ok (.astore 7, 2) := by decide +kernel
theorem d_SeriesVaultLaw_append_26 : decode method_9_code 26 = .ok (.iconst 3, 1) := by decide +kernel
theorem d_SeriesVaultLaw_append_27 : decode method_9_code 27 = .ok (.ireturn, 1) := by decide +kernel
set_option maxHeartbeats 4000000 in
set_option maxRecDepth 100000 in
theorem k8_append_3 (l : Launch) (D : va_G) (dA : Nat → ClassId) (sz : Nat) (h : Nat) (ad : Nat → Nat) (o : Nat) (og : Nat → Int64) (x : VS) (p0 : Int32) (p1 : Int64) (p2 : Int64) (F9 : VS → Prop) (fr : Nat) (lo : Nat) (mc9 : Nat) (ms9 : Nat) (hc9 : ∀ sz : Nat, mX l ⟨"SeriesVault", "append", "(IJJ)I"⟩ [Cond.code ⟨"SeriesVault", "append", "(IJJ)I"⟩ prog_1_method_28_code 6 (some FieldType.int)] { frames := fr, cells := mc9, slots := ms9, locals := lo } (pC D dA [.ref h, .int p0, .long p1, .long p2] (VW dA h ad x) sz) "java/lang/IllegalArgumentException" (fun st9 t9 => va_F (va_A (VW dA h ad x) sz) st9 t9 ∧ ∃ u9 : VS, F9 u9 ∧ bW D (va_A (VW dA h ad x) sz) (VW dA h ad u9) t9) mc9 ms9 (va_A (VW dA h ad x) sz)) : Met l ⟨"SeriesVaultLaw", "append", "(LSeriesVault;IJJ[J)I"⟩ [Cond.codeWith ⟨"SeriesVaultLaw", "append", "(LSeriesVault;IJJ[J)I"⟩ method_9_code 8 (some FieldType.int) [(0, 13, 16, 29), (0, 13, 20, 35), (0, 13, 24, 19), (0, 13, 28, 13)]] { frames := fr + 1, cells := mc9, slots := ms9, locals := lo + 25 } (pC D dA [.ref h, .int p0, .long p1, .long p2, .ref o] ([(o, .inl (dA 2, 1, .inr (.inl og)))] ++ (VW dA h ad x)) sz) (va_Qi (fun (r9 : Int32) (u9 : VS) => r9 = 3 ∧ F9 u9) (fun (u9 : VS) t9 => bW D (va_A ([(o, .inl (dA 2, 1, .inr (.inl og)))] ++ (VW dA h ad x)) sz) ([(o, .inl (dA 2, 1, .inr (.inl og)))] ++ (VW dA h ad u9)) t9) (va_A ([(o, .inl (dA 2, 1, .inr (.inl og)))] ++ (VW dA h ad x)) sz)) mc9 ms9 (va_A ([(o, .inl (dA 2, 1, .inr (.inl og)))] ++ (VW dA h ad x)) sz) := by
  refine mkW (y := ⟨"SeriesVaultLaw", "append", "(LSeriesVault;IJJ[J)I"⟩) (cc := method_9_code) (maxL := 8) (av := [.ref h, .int p0, .long p1, .long p2, .ref o]) (ws := [(o, .inl (dA 2, 1, .inr (.inl og)))] ++ (VW dA h ad x)) (sz := sz) (Qc := fun A => va_Qi (fun (r9 : Int32) (u9 : VS) => r9 = 3 ∧ F9 u9) (fun (u9 : VS) t9 => bW D A ([(o, .inl (dA 2, 1, .inr (.inl og)))] ++ (VW dA h ad u9)) t9) A) (by decide) (Nat.le_of_ble_eq_true rfl) ?_
  intro A p e s m below meth c ls hsz htab hB
  obtain ⟨hx, hb, hr, hml, hown, hin, hlk, hE, hK, hP, hD, hS, hA, hN, hl⟩ := hB
  have hown : s.vm.findClass "SeriesVaultLaw" = some m.cls := hown
  have hl : lv_has ls 8 [(0, .ref h), (1, .int p0), (2, .long p1), (4, .long p2), (6, .ref o)] := hl
  obtain ⟨H, hH⟩ : ∃ z, z = s.heap := ⟨_, rfl⟩
  have hP : va_P D vwCl ([(o, .inl (dA 2, 1, .inr (.inl og)))] ++ (VW dA h ad x)) H := by rw [hH]; exact hP
  have hS : va_S A s.heap H [] := by rw [hH]; exact hS
  rw [← hH]
  refine lv_aload hx hb d_SeriesVaultLaw_append_0 (lv_at hl 4 rfl) ?_
  refine lv_iconst (v := 0) hx hb d_SeriesVaultLaw_append_2 (by decide) ?_
  refine lv_aload_n hx hb d_SeriesVaultLaw_append_3 rfl (lv_at hl 0 rfl) ?_
  refine lv_iload_n hx hb d_SeriesVaultLaw_append_4 rfl (lv_at hl 1 rfl) ?_
  refine lv_lload_n hx hb d_SeriesVaultLaw_append_5 rfl (lv_at hl 2 rfl) ?_
  refine lv_lload hx hb d_SeriesVaultLaw_append_6 (lv_at hl 3 rfl) ?_
  refine xkV (S := VS) (F := F9) (w1 := fun u => VW dA h ad u) (wr := [(o, .inl (dA 2, 1, .inr (.inl og)))]) (As := [.int p0, .long p1, .long p2]) (rest := [.int 0, .ref o]) hx hb hml hown hE hK (hN _ _ hS) (hc9 H.size) (q0 := 0) rfl rfl w377 w376 w378 w379 w277 rfl rfl ⟨⟨by decide, by decide⟩, rfl⟩ ⟨(by first | exact Nat.le_of_ble_eq_true rfl | (dsimp only; omega)), (by first | exact Nat.le_of_ble_eq_true rfl | (dsimp only; omega))⟩ rfl hl.1 rfl (by first | exact Nat.le_of_ble_eq_true rfl | (dsimp only; omega)) d_SeriesVaultLaw_append_8 ⟨(show 0 + mc9 ≤ mc9 by omega), (show 0 + ms9 ≤ ms9 by omega)⟩ hP hD hS hA (fun u2 xa1 ce H locs hf9 hP hD hS hce hcv hcl => ?_)
  have hP : va_P D vwCl ([(o, .inl (dA 2, 1, .inr (.inl og)))] ++ (VW dA h ad u2)) H := hP
  have hD : va_D A ([(o, .inl (dA 2, 1, .inr (.inl og)))] ++ (VW dA h ad u2)) := hD
  refine xCatch (E := "java/lang/IllegalArgumentException") hown hE [⟨0, 13, 16, 29⟩, ⟨0, 13, 20, 35⟩] ⟨0, 13, 24, 19⟩ [⟨0, 13, 28, 13⟩] htab (List.forall_mem_cons.mpr ⟨⟨by decide, "java/lang/IllegalStateException", w363, by decide⟩, List.forall_mem_cons.mpr ⟨⟨by decide, "java/lang/IndexOutOfBoundsException", w354, by decide⟩, fun _ h => absurd h List.not_mem_nil⟩⟩) (by decide) (by decide) w349 w267 hce hcv hcl ?_
  refine lv_astore hx hb d_SeriesVaultLaw_append_24 hl (by decide) rfl (fun ls hl => ?_)
  have hl : lv_has ls 8 [(7, .ref xa1), (0, .ref h), (1, .int p0), (2, .long p1), (4, .long p2), (6, .ref o)] := hl
  refine lv_iconst (v := 3) hx hb d_SeriesVaultLaw_append_26 (by decide) ?_
  exact rfI hx hb hr hlk hS u2 ⟨rfl, hf9⟩ hP hD (show 0 + mc9 ≤ mc9 by omega) (show 0 + ms9 ≤ ms9 by omega) d_SeriesVaultLaw_append_27
theorem d_SeriesVaultLaw_append_28 : decode method_9_code 28 = .ok (.astore 7, 2) := by decide +kernel
theorem d_SeriesVaultLaw_append_30 : decode method_9_code 30 = .ok (.iconst 4, 1) := by decide +kernel
theorem d_SeriesVaultLaw_append_31 : decode method_9_code 31 = .ok (.ireturn, 1) := by decide +kernel
set_option maxHeartbeats 4000000 in
set_option maxRecDepth 100000 in
theorem k8_append_4 (l : Launch) (D : va_G) (dA : Nat → ClassId) (sz : Nat) (h : Nat) (ad : Nat → Nat) (o : Nat) (og : Nat → Int64) (x : VS) (p0 : Int32) (p1 : Int64) (p2 : Int64) (F9 : VS → Prop) (fr : Nat) (lo : Nat) (mc9 : Nat) (ms9 : Nat) (hc9 : ∀ sz : Nat, mX l ⟨"SeriesVault", "append", "(IJJ)I"⟩ [Cond.code ⟨"SeriesVault", "append", "(IJJ)I"⟩ prog_1_method_28_code 6 (some FieldType.int)] { frames := fr, cells := mc9, slots := ms9, locals := lo } (pC D dA [.ref h, .int p0, .long p1, .long p2] (VW dA h ad x) sz) "java/lang/UnsupportedOperationException" (fun st9 t9 => va_F (va_A (VW dA h ad x) sz) st9 t9 ∧ ∃ u9 : VS, F9 u9 ∧ bW D (va_A (VW dA h ad x) sz) (VW dA h ad u9) t9) mc9 ms9 (va_A (VW dA h ad x) sz)) : Met l ⟨"SeriesVaultLaw", "append", "(LSeriesVault;IJJ[J)I"⟩ [Cond.codeWith ⟨"SeriesVaultLaw", "append", "(LSeriesVault;IJJ[J)I"⟩ method_9_code 8 (some FieldType.int) [(0, 13, 16, 29), (0, 13, 20, 35), (0, 13, 24, 19), (0, 13, 28, 13)]] { frames := fr + 1, cells := mc9, slots := ms9, locals := lo + 25 } (pC D dA [.ref h, .int p0, .long p1, .long p2, .ref o] ([(o, .inl (dA 2, 1, .inr (.inl og)))] ++ (VW dA h ad x)) sz) (va_Qi (fun (r9 : Int32) (u9 : VS) => r9 = 4 ∧ F9 u9) (fun (u9 : VS) t9 => bW D (va_A ([(o, .inl (dA 2, 1, .inr (.inl og)))] ++ (VW dA h ad x)) sz) ([(o, .inl (dA 2, 1, .inr (.inl og)))] ++ (VW dA h ad u9)) t9) (va_A ([(o, .inl (dA 2, 1, .inr (.inl og)))] ++ (VW dA h ad x)) sz)) mc9 ms9 (va_A ([(o, .inl (dA 2, 1, .inr (.inl og)))] ++ (VW dA h ad x)) sz) := by
  refine mkW (y := ⟨"SeriesVaultLaw", "append", "(LSeriesVault;IJJ[J)I"⟩) (cc := method_9_code) (maxL := 8) (av := [.ref h, .int p0, .long p1, .long p2, .ref o]) (ws := [(o, .inl (dA 2, 1, .inr (.inl og)))] ++ (VW dA h ad x)) (sz := sz) (Qc := fun A => va_Qi (fun (r9 : Int32) (u9 : VS) => r9 = 4 ∧ F9 u9) (fun (u9 : VS) t9 => bW D A ([(o, .inl (dA 2, 1, .inr (.inl og)))] ++ (VW dA h ad u9)) t9) A) (by decide) (Nat.le_of_ble_eq_true rfl) ?_
  intro A p e s m below meth c ls hsz htab hB
  obtain ⟨hx, hb, hr, hml, hown, hin, hlk, hE, hK, hP, hD, hS, hA, hN, hl⟩ := hB
  have hown : s.vm.findClass "SeriesVaultLaw" = some m.cls := hown
  have hl : lv_has ls 8 [(0, .ref h), (1, .int p0), (2, .long p1), (4, .long p2), (6, .ref o)] := hl
  obtain ⟨H, hH⟩ : ∃ z, z = s.heap := ⟨_, rfl⟩
  have hP : va_P D vwCl ([(o, .inl (dA 2, 1, .inr (.inl og)))] ++ (VW dA h ad x)) H := by rw [hH]; exact hP
  have hS : va_S A s.heap H [] := by rw [hH]; exact hS
  rw [← hH]
  refine lv_aload hx hb d_SeriesVaultLaw_append_0 (lv_at hl 4 rfl) ?_
  refine lv_iconst (v := 0) hx hb d_SeriesVaultLaw_append_2 (by decide) ?_
  refine lv_aload_n hx hb d_SeriesVaultLaw_append_3 rfl (lv_at hl 0 rfl) ?_
  refine lv_iload_n hx hb d_SeriesVaultLaw_append_4 rfl (lv_at hl 1 rfl) ?_
  refine lv_lload_n hx hb d_SeriesVaultLaw_append_5 rfl (lv_at hl 2 rfl) ?_
  refine lv_lload hx hb d_SeriesVaultLaw_append_6 (lv_at hl 3 rfl) ?_
  refine xkV (S := VS) (F := F9) (w1 := fun u => VW dA h ad u) (wr := [(o, .inl (dA 2, 1, .inr (.inl og)))]) (As := [.int p0, .long p1, .long p2]) (rest := [.int 0, .ref o]) hx hb hml hown hE hK (hN _ _ hS) (hc9 H.size) (q0 := 0) rfl rfl w377 w376 w378 w379 w277 rfl rfl ⟨⟨by decide, by decide⟩, rfl⟩ ⟨(by first | exact Nat.le_of_ble_eq_true rfl | (dsimp only; omega)), (by first | exact Nat.le_of_ble_eq_true rfl | (dsimp only; omega))⟩ rfl hl.1 rfl (by first | exact Nat.le_of_ble_eq_true rfl | (dsimp only; omega)) d_SeriesVaultLaw_append_8 ⟨(show 0 + mc9 ≤ mc9 by omega), (show 0 + ms9 ≤ ms9 by omega)⟩ hP hD hS hA (fun u2 xa1 ce H locs hf9 hP hD hS hce hcv hcl => ?_)
  have hP : va_P D vwCl ([(o, .inl (dA 2, 1, .inr (.inl og)))] ++ (VW dA h ad u2)) H := hP
  have hD : va_D A ([(o, .inl (dA 2, 1, .inr (.inl og)))] ++ (VW dA h ad u2)) := hD
  refine xCatch (E := "java/lang/UnsupportedOperationException") hown hE [⟨0, 13, 16, 29⟩, ⟨0, 13, 20, 35⟩, ⟨0, 13, 24, 19⟩] ⟨0, 13, 28, 13⟩ [] htab (List.forall_mem_cons.mpr ⟨⟨by decide, "java/lang/IllegalStateException", w363, by decide⟩, List.forall_mem_cons.mpr ⟨⟨by decide, "java/lang/IndexOutOfBoundsException", w354, by decide⟩, List.forall_mem_cons.mpr ⟨⟨by decide, "java/lang/IllegalArgumentException", w349, by decide⟩, fun _ h => absurd h List.not_mem_nil⟩⟩⟩) (by decide) (by decide) w1791 w1150 hce hcv hcl ?_
  refine lv_astore hx hb d_SeriesVaultLaw_append_28 hl (by decide) rfl (fun ls hl => ?_)
  have hl : lv_has ls 8 [(7, .ref xa1), (0, .ref h), (1, .int p0), (2, .long p1), (4, .long p2), (6, .ref o)] := hl
  refine lv_iconst (v := 4) hx hb d_SeriesVaultLaw_append_30 (by decide) ?_
  exact rfI hx hb hr hlk hS u2 ⟨rfl, hf9⟩ hP hD (show 0 + mc9 ≤ mc9 by omega) (show 0 + ms9 ≤ ms9 by omega) d_SeriesVaultLaw_append_31
theorem d_SeriesVaultLaw_delete_11 : decode method_11_code 11 = .ok (.i2l, 1) := by decide +kernel
theorem d_SeriesVaultLaw_delete_12 : decode method_11_code 12 = .ok (.lastore, 1) := by decide +kernel
theorem d_SeriesVaultLaw_delete_13 : decode method_11_code 13 = .ok (.goto 19, 3) := by decide +kernel
theorem d_SeriesVaultLaw_delete_32 : decode method_11_code 32 = .ok (.iconst 0, 1) := by decide +kernel
theorem d_SeriesVaultLaw_delete_33 : decode method_11_code 33 = .ok (.ireturn, 1) := by decide +kernel
set_option maxHeartbeats 4000000 in
set_option maxRecDepth 100000 in
theorem k8_delete (l : Launch) (D : va_G) (dA : Nat → ClassId) (sz : Nat) (h : Nat) (ad : Nat → Nat) (o : Nat) (og : Nat → Int64) (x : VS) (p0 : Int32) (p1 : Int64) (p2 : Int64) (v9 : Int32) (F9 : VS → Prop) (fr : Nat) (lo : Nat) (mc9 : Nat) (ms9 : Nat) (hc9 : ∀ sz : Nat, Met l ⟨"SeriesVault", "delete", "(IJJ)I"⟩ [Cond.code ⟨"SeriesVault", "delete", "(IJJ)I"⟩ prog_1_method_34_code 8 (some FieldType.int)] { frames := fr, cells := mc9, slots := ms9, locals := lo } (pC D dA [.ref h, .int p0, .long p1, .long p2] (VW dA h ad x) sz) (va_Qi (fun (r9 : Int32) (u9 : VS) => r9 = v9 ∧ F9 u9) (fun (u9 : VS) t9 => bW D (va_A (VW dA h ad x) sz) (VW dA h ad u9) t9) (va_A (VW dA h ad x) sz)) mc9 ms9 (va_A (VW dA h ad x) sz)) : Met l ⟨"SeriesVaultLaw", "delete", "(LSeriesVault;IJJ[J)I"⟩ [Cond.codeWith ⟨"SeriesVaultLaw", "delete", "(LSeriesVault;IJJ[J)I"⟩ method_11_code 8 (some FieldType.int) [(0, 13, 16, 29), (0, 13, 20, 35), (0, 13, 24, 19), (0, 13, 28, 13)]] { frames := fr + 1, cells := mc9, slots := ms9, locals := lo + 27 } (pC D dA [.ref h, .int p0, .long p1, .long p2, .ref o] ([(o, .inl (dA 2, 1, .inr (.inl og)))] ++ (VW dA h ad x)) sz) (va_Qi (fun (r9 : Int32) (u9 : VS) => r9 = 0 ∧ F9 u9) (fun (u9 : VS) t9 => bW D (va_A ([(o, .inl (dA 2, 1, .inr (.inl og)))] ++ (VW dA h ad x)) sz) ([(o, .inl (dA 2, 1, .inr (.inl (va_up og 0 (v9.toInt64)))))] ++ (VW dA h ad u9)) t9) (va_A ([(o, .inl (dA 2, 1, .inr (.inl og)))] ++ (VW dA h ad x)) sz)) mc9 ms9 (va_A ([(o, .inl (dA 2, 1, .inr (.inl og)))] ++ (VW dA h ad x)) sz) := by
  refine mkW (y := ⟨"SeriesVaultLaw", "delete", "(LSeriesVault;IJJ[J)I"⟩) (cc := method_11_code) (maxL := 8) (av := [.ref h, .int p0, .long p1, .long p2, .ref o]) (ws := [(o, .inl (dA 2, 1, .inr (.inl og)))] ++ (VW dA h ad x)) (sz := sz) (Qc := fun A => va_Qi (fun (r9 : Int32) (u9 : VS) => r9 = 0 ∧ F9 u9) (fun (u9 : VS) t9 => bW D A ([(o, .inl (dA 2, 1, .inr (.inl (va_up og 0 (v9.toInt64)))))] ++ (VW dA h ad u9)) t9) A) (by decide) (Nat.le_of_ble_eq_true rfl) ?_
  intro A p e s m below meth c ls hsz htab hB
  obtain ⟨hx, hb, hr, hml, hown, hin, hlk, hE, hK, hP, hD, hS, hA, hN, hl⟩ := hB
  have hown : s.vm.findClass "SeriesVaultLaw" = some m.cls := hown
  have hl : lv_has ls 8 [(0, .ref h), (1, .int p0), (2, .long p1), (4, .long p2), (6, .ref o)] := hl
  obtain ⟨H, hH⟩ : ∃ z, z = s.heap := ⟨_, rfl⟩
  have hP : va_P D vwCl ([(o, .inl (dA 2, 1, .inr (.inl og)))] ++ (VW dA h ad x)) H := by rw [hH]; exact hP
  have hS : va_S A s.heap H [] := by rw [hH]; exact hS
  rw [← hH]
  refine lv_aload hx hb d_SeriesVaultLaw_delete_0 (lv_at hl 4 rfl) ?_
  refine lv_iconst (v := 0) hx hb d_SeriesVaultLaw_delete_2 (by decide) ?_
  refine lv_aload_n hx hb d_SeriesVaultLaw_delete_3 rfl (lv_at hl 0 rfl) ?_
  refine lv_iload_n hx hb d_SeriesVaultLaw_delete_4 rfl (lv_at hl 1 rfl) ?_
  refine lv_lload_n hx hb d_SeriesVaultLaw_delete_5 rfl (lv_at hl 2 rfl) ?_
  refine lv_lload hx hb d_SeriesVaultLaw_delete_6 (lv_at hl 3 rfl) ?_
  have hPc : va_P D vwCl (VW dA h ad x) H := spP (wr := [(o, .inl (dA 2, 1, .inr (.inl og)))]) hP
  have hDc : va_D A (VW dA h ad x) := spD (wr := [(o, .inl (dA 2, 1, .inr (.inl og)))]) hD
  refine jkI (wr := [(o, .inl (dA 2, 1, .inr (.inl og)))]) (rnV (As := [.int p0, .long p1, .long p2]) (rest := [.int 0, .ref o]) hx hb hml hown hE hK (hN _ _ hS) hPc hDc ((fun (_ : Launch) (_ : va_G) (_ : Nat → ClassId) (sz9 : Nat) (_ : Nat) (_ : Nat → Nat) (_ : VS) (_ : Int32) (_ : Int64) (_ : Int64) => hc9 sz9) l D dA H.size h ad x p0 p1 p2) (q0 := 0) rfl rfl w385 w384 w386 w387 w277 rfl rfl ⟨⟨by decide, by decide⟩, rfl⟩ ⟨(by first | exact Nat.le_of_ble_eq_true rfl | (dsimp only; omega)), (by first | exact Nat.le_of_ble_eq_true rfl | (dsimp only; omega))⟩ rfl hl.1 rfl (by first | exact Nat.le_of_ble_eq_true rfl | (dsimp only; omega)) d_SeriesVaultLaw_delete_8 ⟨(show 0 + mc9 ≤ mc9 by omega), (show 0 + ms9 ≤ ms9 by omega)⟩) hP hD hS hA (fun r1 u2 H locs hp9 hP hD hS => ?_)
  obtain ⟨u8, h9u⟩ : ∃ z9, z9 = u2 := ⟨_, rfl⟩
  subst h9u
  have hP : va_P D vwCl ([(o, .inl (dA 2, 1, .inr (.inl og)))] ++ (VW dA h ad u8)) H := hP
  have hD : va_D A ([(o, .inl (dA 2, 1, .inr (.inl og)))] ++ (VW dA h ad u8)) := hD
  obtain ⟨hp9, f_f_3⟩ := hp9
  replace hp9 : v9 = r1 := Eq.symm hp9
  subst hp9
  refine lv_i2l hx hb d_SeriesVaultLaw_delete_11 rfl ?_
  refine nlst (n := 1) hx hb hK hP hD hS (0) 2 rfl rfl (0) (by omega) (by decide) d_SeriesVaultLaw_delete_12 (fun H locs hP hD hS => ?_)
  have hP : va_P D vwCl ([(o, .inl (dA 2, 1, .inr (.inl (va_up og 0 v9.toInt64))))] ++ (VW dA h ad u8)) H := hP
  have hD : va_D A ([(o, .inl (dA 2, 1, .inr (.inl (va_up og 0 v9.toInt64))))] ++ (VW dA h ad u8)) := hD
  refine lv_goto hx hb d_SeriesVaultLaw_delete_13 (tgt := 32) rfl ?_
  refine lv_iconst (v := 0) hx hb d_SeriesVaultLaw_delete_32 (by decide) ?_
  exact rfI hx hb hr hlk hS u8 ⟨rfl, f_f_3⟩ hP hD (show 0 + mc9 ≤ mc9 by omega) (show 0 + ms9 ≤ ms9 by omega) d_SeriesVaultLaw_delete_33
theorem d_SeriesVaultLaw_delete_16 : decode method_11_code 16 = .ok (.astore 7, 2) := by decide +kernel
theorem d_SeriesVaultLaw_delete_18 : decode method_11_code 18 = .ok (.iconst 1, 1) := by decide +kernel
theorem d_SeriesVaultLaw_delete_19 : decode method_11_code 19 = .ok (.ireturn, 1) := by decide +kernel
set_option maxHeartbeats 4000000 in
set_option maxRecDepth 100000 in
theorem k8_delete_1 (l : Launch) (D : va_G) (dA : Nat → ClassId) (sz : Nat) (h : Nat) (ad : Nat → Nat) (o : Nat) (og : Nat → Int64) (x : VS) (p0 : Int32) (p1 : Int64) (p2 : Int64) (F9 : VS → Prop) (fr : Nat) (lo : Nat) (mc9 : Nat) (ms9 : Nat) (hc9 : ∀ sz : Nat, mX l ⟨"SeriesVault", "delete", "(IJJ)I"⟩ [Cond.code ⟨"SeriesVault", "delete", "(IJJ)I"⟩ prog_1_method_34_code 8 (some FieldType.int)] { frames := fr, cells := mc9, slots := ms9, locals := lo } (pC D dA [.ref h, .int p0, .long p1, .long p2] (VW dA h ad x) sz) "java/lang/IllegalStateException" (fun st9 t9 => va_F (va_A (VW dA h ad x) sz) st9 t9 ∧ ∃ u9 : VS, F9 u9 ∧ bW D (va_A (VW dA h ad x) sz) (VW dA h ad u9) t9) mc9 ms9 (va_A (VW dA h ad x) sz)) : Met l ⟨"SeriesVaultLaw", "delete", "(LSeriesVault;IJJ[J)I"⟩ [Cond.codeWith ⟨"SeriesVaultLaw", "delete", "(LSeriesVault;IJJ[J)I"⟩ method_11_code 8 (some FieldType.int) [(0, 13, 16, 29), (0, 13, 20, 35), (0, 13, 24, 19), (0, 13, 28, 13)]] { frames := fr + 1, cells := mc9, slots := ms9, locals := lo + 27 } (pC D dA [.ref h, .int p0, .long p1, .long p2, .ref o] ([(o, .inl (dA 2, 1, .inr (.inl og)))] ++ (VW dA h ad x)) sz) (va_Qi (fun (r9 : Int32) (u9 : VS) => r9 = 1 ∧ F9 u9) (fun (u9 : VS) t9 => bW D (va_A ([(o, .inl (dA 2, 1, .inr (.inl og)))] ++ (VW dA h ad x)) sz) ([(o, .inl (dA 2, 1, .inr (.inl og)))] ++ (VW dA h ad u9)) t9) (va_A ([(o, .inl (dA 2, 1, .inr (.inl og)))] ++ (VW dA h ad x)) sz)) mc9 ms9 (va_A ([(o, .inl (dA 2, 1, .inr (.inl og)))] ++ (VW dA h ad x)) sz) := by
  refine mkW (y := ⟨"SeriesVaultLaw", "delete", "(LSeriesVault;IJJ[J)I"⟩) (cc := method_11_code) (maxL := 8) (av := [.ref h, .int p0, .long p1, .long p2, .ref o]) (ws := [(o, .inl (dA 2, 1, .inr (.inl og)))] ++ (VW dA h ad x)) (sz := sz) (Qc := fun A => va_Qi (fun (r9 : Int32) (u9 : VS) => r9 = 1 ∧ F9 u9) (fun (u9 : VS) t9 => bW D A ([(o, .inl (dA 2, 1, .inr (.inl og)))] ++ (VW dA h ad u9)) t9) A) (by decide) (Nat.le_of_ble_eq_true rfl) ?_
  intro A p e s m below meth c ls hsz htab hB
  obtain ⟨hx, hb, hr, hml, hown, hin, hlk, hE, hK, hP, hD, hS, hA, hN, hl⟩ := hB
  have hown : s.vm.findClass "SeriesVaultLaw" = some m.cls := hown
  have hl : lv_has ls 8 [(0, .ref h), (1, .int p0), (2, .long p1), (4, .long p2), (6, .ref o)] := hl
  obtain ⟨H, hH⟩ : ∃ z, z = s.heap := ⟨_, rfl⟩
  have hP : va_P D vwCl ([(o, .inl (dA 2, 1, .inr (.inl og)))] ++ (VW dA h ad x)) H := by rw [hH]; exact hP
  have hS : va_S A s.heap H [] := by rw [hH]; exact hS
  rw [← hH]
  refine lv_aload hx hb d_SeriesVaultLaw_delete_0 (lv_at hl 4 rfl) ?_
  refine lv_iconst (v := 0) hx hb d_SeriesVaultLaw_delete_2 (by decide) ?_
  refine lv_aload_n hx hb d_SeriesVaultLaw_delete_3 rfl (lv_at hl 0 rfl) ?_
  refine lv_iload_n hx hb d_SeriesVaultLaw_delete_4 rfl (lv_at hl 1 rfl) ?_
  refine lv_lload_n hx hb d_SeriesVaultLaw_delete_5 rfl (lv_at hl 2 rfl) ?_
  refine lv_lload hx hb d_SeriesVaultLaw_delete_6 (lv_at hl 3 rfl) ?_
  refine xkV (S := VS) (F := F9) (w1 := fun u => VW dA h ad u) (wr := [(o, .inl (dA 2, 1, .inr (.inl og)))]) (As := [.int p0, .long p1, .long p2]) (rest := [.int 0, .ref o]) hx hb hml hown hE hK (hN _ _ hS) (hc9 H.size) (q0 := 0) rfl rfl w385 w384 w386 w387 w277 rfl rfl ⟨⟨by decide, by decide⟩, rfl⟩ ⟨(by first | exact Nat.le_of_ble_eq_true rfl | (dsimp only; omega)), (by first | exact Nat.le_of_ble_eq_true rfl | (dsimp only; omega))⟩ rfl hl.1 rfl (by first | exact Nat.le_of_ble_eq_true rfl | (dsimp only; omega)) d_SeriesVaultLaw_delete_8 ⟨(show 0 + mc9 ≤ mc9 by omega), (show 0 + ms9 ≤ ms9 by omega)⟩ hP hD hS hA (fun u2 xa1 ce H locs hf9 hP hD hS hce hcv hcl => ?_)
  have hP : va_P D vwCl ([(o, .inl (dA 2, 1, .inr (.inl og)))] ++ (VW dA h ad u2)) H := hP
  have hD : va_D A ([(o, .inl (dA 2, 1, .inr (.inl og)))] ++ (VW dA h ad u2)) := hD
  refine xCatch (E := "java/lang/IllegalStateException") hown hE [] ⟨0, 13, 16, 29⟩ [⟨0, 13, 20, 35⟩, ⟨0, 13, 24, 19⟩, ⟨0, 13, 28, 13⟩] htab (fun _ h => absurd h List.not_mem_nil) (by decide) (by decide) w363 w289 hce hcv hcl ?_
  refine lv_astore hx hb d_SeriesVaultLaw_delete_16 hl (by decide) rfl (fun ls hl => ?_)
  have hl : lv_has ls 8 [(7, .ref xa1), (0, .ref h), (1, .int p0), (2, .long p1), (4, .long p2), (6, .ref o)] := hl
  refine lv_iconst (v := 1) hx hb d_SeriesVaultLaw_delete_18 (by decide) ?_
  exact rfI hx hb hr hlk hS u2 ⟨rfl, hf9⟩ hP hD (show 0 + mc9 ≤ mc9 by omega) (show 0 + ms9 ≤ ms9 by omega) d_SeriesVaultLaw_delete_19
set_option maxHeartbeats 4000000 in
set_option maxRecDepth 100000 in
theorem k8_delete_2 (l : Launch) (D : va_G) (dA : Nat → ClassId) (sz : Nat) (h : Nat) (ad : Nat → Nat) (o : Nat) (og : Nat → Int64) (x : VS) (p0 : Int32) (p1 : Int64) (p2 : Int64) (F9 : VS → Prop) (fr : Nat) (lo : Nat) (mc9 : Nat) (ms9 : Nat) (hc9 : ∀ sz : Nat, mX l ⟨"SeriesVault", "delete", "(IJJ)I"⟩ [Cond.code ⟨"SeriesVault", "delete", "(IJJ)I"⟩ prog_1_method_34_code 8 (some FieldType.int)] { frames := fr, cells := mc9, slots := ms9, locals := lo } (pC D dA [.ref h, .int p0, .long p1, .long p2] (VW dA h ad x) sz) "java/lang/IndexOutOfBoundsException" (fun st9 t9 => va_F (va_A (VW dA h ad x) sz) st9 t9 ∧ ∃ u9 : VS, F9 u9 ∧ bW D (va_A (VW dA h ad x) sz) (VW dA h ad u9) t9) mc9 ms9 (va_A (VW dA h ad x) sz)) : Met l ⟨"SeriesVaultLaw", "delete", "(LSeriesVault;IJJ[J)I"⟩ [Cond.codeWith ⟨"SeriesVaultLaw", "delete", "(LSeriesVault;IJJ[J)I"⟩ method_11_code 8 (some FieldType.int) [(0, 13, 16, 29), (0, 13, 20, 35), (0, 13, 24, 19), (0, 13, 28, 13)]] { frames := fr + 1, cells := mc9, slots := ms9, locals := lo + 27 } (pC D dA [.ref h, .int p0, .long p1, .long p2, .ref o] ([(o, .inl (dA 2, 1, .inr (.inl og)))] ++ (VW dA h ad x)) sz) (va_Qi (fun (r9 : Int32) (u9 : VS) => r9 = 2 ∧ F9 u9) (fun (u9 : VS) t9 => bW D (va_A ([(o, .inl (dA 2, 1, .inr (.inl og)))] ++ (VW dA h ad x)) sz) ([(o, .inl (dA 2, 1, .inr (.inl og)))] ++ (VW dA h ad u9)) t9) (va_A ([(o, .inl (dA 2, 1, .inr (.inl og)))] ++ (VW dA h ad x)) sz)) mc9 ms9 (va_A ([(o, .inl (dA 2, 1, .inr (.inl og)))] ++ (VW dA h ad x)) sz) := by
  refine mkW (y := ⟨"SeriesVaultLaw", "delete", "(LSeriesVault;IJJ[J)I"⟩) (cc := method_11_code) (maxL := 8) (av := [.ref h, .int p0, .long p1, .long p2, .ref o]) (ws := [(o, .inl (dA 2, 1, .inr (.inl og)))] ++ (VW dA h ad x)) (sz := sz) (Qc := fun A => va_Qi (fun (r9 : Int32) (u9 : VS) => r9 = 2 ∧ F9 u9) (fun (u9 : VS) t9 => bW D A ([(o, .inl (dA 2, 1, .inr (.inl og)))] ++ (VW dA h ad u9)) t9) A) (by decide) (Nat.le_of_ble_eq_true rfl) ?_
  intro A p e s m below meth c ls hsz htab hB
  obtain ⟨hx, hb, hr, hml, hown, hin, hlk, hE, hK, hP, hD, hS, hA, hN, hl⟩ := hB
  have hown : s.vm.findClass "SeriesVaultLaw" = some m.cls := hown
  have hl : lv_has ls 8 [(0, .ref h), (1, .int p0), (2, .long p1), (4, .long p2), (6, .ref o)] := hl
  obtain ⟨H, hH⟩ : ∃ z, z = s.heap := ⟨_, rfl⟩
  have hP : va_P D vwCl ([(o, .inl (dA 2, 1, .inr (.inl og)))] ++ (VW dA h ad x)) H := by rw [hH]; exact hP
  have hS : va_S A s.heap H [] := by rw [hH]; exact hS
  rw [← hH]
  refine lv_aload hx hb d_SeriesVaultLaw_delete_0 (lv_at hl 4 rfl) ?_
  refine lv_iconst (v := 0) hx hb d_SeriesVaultLaw_delete_2 (by decide) ?_
  refine lv_aload_n hx hb d_SeriesVaultLaw_delete_3 rfl (lv_at hl 0 rfl) ?_
  refine lv_iload_n hx hb d_SeriesVaultLaw_delete_4 rfl (lv_at hl 1 rfl) ?_
  refine lv_lload_n hx hb d_SeriesVaultLaw_delete_5 rfl (lv_at hl 2 rfl) ?_
  refine lv_lload hx hb d_SeriesVaultLaw_delete_6 (lv_at hl 3 rfl) ?_
  refine xkV (S := VS) (F := F9) (w1 := fun u => VW dA h ad u) (wr := [(o, .inl (dA 2, 1, .inr (.inl og)))]) (As := [.int p0, .long p1, .long p2]) (rest := [.int 0, .ref o]) hx hb hml hown hE hK (hN _ _ hS) (hc9 H.size) (q0 := 0) rfl rfl w385 w384 w386 w387 w277 rfl rfl ⟨⟨by decide, by decide⟩, rfl⟩ ⟨(by first | exact Nat.le_of_ble_eq_true rfl | (dsimp only; omega)), (by first | exact Nat.le_of_ble_eq_true rfl | (dsimp only; omega))⟩ rfl hl.1 rfl (by first | exact Nat.le_of_ble_eq_true rfl | (dsimp only; omega)) d_SeriesVaultLaw_delete_8 ⟨(show 0 + mc9 ≤ mc9 by omega), (show 0 + ms9 ≤ ms9 by omega)⟩ hP hD hS hA (fun u2 xa1 ce H locs hf9 hP hD hS hce hcv hcl => ?_)
  have hP : va_P D vwCl ([(o, .inl (dA 2, 1, .inr (.inl og)))] ++ (VW dA h ad u2)) H := hP
  have hD : va_D A ([(o, .inl (dA 2, 1, .inr (.inl og)))] ++ (VW dA h ad u2)) := hD
  refine xCatch (E := "java/lang/IndexOutOfBoundsException") hown hE [⟨0, 13, 16, 29⟩] ⟨0, 13, 20, 35⟩ [⟨0, 13, 24, 19⟩, ⟨0, 13, 28, 13⟩] htab (List.forall_mem_cons.mpr ⟨⟨by decide, "java/lang/IllegalStateException", w363, by decide⟩, fun _ h => absurd h List.not_mem_nil⟩) (by decide) (by decide) w354 w222 hce hcv hcl ?_
  refine lv_astore hx hb d_SeriesVaultLaw_delete_20 hl (by decide) rfl (fun ls hl => ?_)
  have hl : lv_has ls 8 [(7, .ref xa1), (0, .ref h), (1, .int p0), (2, .long p1), (4, .long p2), (6, .ref o)] := hl
  refine lv_iconst (v := 2) hx hb d_SeriesVaultLaw_delete_22 (by decide) ?_
  exact rfI hx hb hr hlk hS u2 ⟨rfl, hf9⟩ hP hD (show 0 + mc9 ≤ mc9 by omega) (show 0 + ms9 ≤ ms9 by omega) d_SeriesVaultLaw_delete_23
theorem d_SeriesVaultLaw_delete_24 : decode method_11_code 24 = .ok (.astore 7, 2) := by decide +kernel
theorem d_SeriesVaultLaw_delete_26 : decode method_11_code 26 = .ok (.iconst 3, 1) := by decide +kernel
theorem d_SeriesVaultLaw_delete_27 : decode method_11_code 27 = .ok (.ireturn, 1) := by decide +kernel
set_option maxHeartbeats 4000000 in
set_option maxRecDepth 100000 in
theorem k8_delete_3 (l : Launch) (D : va_G) (dA : Nat → ClassId) (sz : Nat) (h : Nat) (ad : Nat → Nat) (o : Nat) (og : Nat → Int64) (x : VS) (p0 : Int32) (p1 : Int64) (p2 : Int64) (F9 : VS → Prop) (fr : Nat) (lo : Nat) (mc9 : Nat) (ms9 : Nat) (hc9 : ∀ sz : Nat, mX l ⟨"SeriesVault", "delete", "(IJJ)I"⟩ [Cond.code ⟨"SeriesVault", "delete", "(IJJ)I"⟩ prog_1_method_34_code 8 (some FieldType.int)] { frames := fr, cells := mc9, slots := ms9, locals := lo } (pC D dA [.ref h, .int p0, .long p1, .long p2] (VW dA h ad x) sz) "java/lang/IllegalArgumentException" (fun st9 t9 => va_F (va_A (VW dA h ad x) sz) st9 t9 ∧ ∃ u9 : VS, F9 u9 ∧ bW D (va_A (VW dA h ad x) sz) (VW dA h ad u9) t9) mc9 ms9 (va_A (VW dA h ad x) sz)) : Met l ⟨"SeriesVaultLaw", "delete", "(LSeriesVault;IJJ[J)I"⟩ [Cond.codeWith ⟨"SeriesVaultLaw", "delete", "(LSeriesVault;IJJ[J)I"⟩ method_11_code 8 (some FieldType.int) [(0, 13, 16, 29), (0, 13, 20, 35), (0, 13, 24, 19), (0, 13, 28, 13)]] { frames := fr + 1, cells := mc9, slots := ms9, locals := lo + 27 } (pC D dA [.ref h, .int p0, .long p1, .long p2, .ref o] ([(o, .inl (dA 2, 1, .inr (.inl og)))] ++ (VW dA h ad x)) sz) (va_Qi (fun (r9 : Int32) (u9 : VS) => r9 = 3 ∧ F9 u9) (fun (u9 : VS) t9 => bW D (va_A ([(o, .inl (dA 2, 1, .inr (.inl og)))] ++ (VW dA h ad x)) sz) ([(o, .inl (dA 2, 1, .inr (.inl og)))] ++ (VW dA h ad u9)) t9) (va_A ([(o, .inl (dA 2, 1, .inr (.inl og)))] ++ (VW dA h ad x)) sz)) mc9 ms9 (va_A ([(o, .inl (dA 2, 1, .inr (.inl og)))] ++ (VW dA h ad x)) sz) := by
  refine mkW (y := ⟨"SeriesVaultLaw", "delete", "(LSeriesVault;IJJ[J)I"⟩) (cc := method_11_code) (maxL := 8) (av := [.ref h, .int p0, .long p1, .long p2, .ref o]) (ws := [(o, .inl (dA 2, 1, .inr (.inl og)))] ++ (VW dA h ad x)) (sz := sz) (Qc := fun A => va_Qi (fun (r9 : Int32) (u9 : VS) => r9 = 3 ∧ F9 u9) (fun (u9 : VS) t9 => bW D A ([(o, .inl (dA 2, 1, .inr (.inl og)))] ++ (VW dA h ad u9)) t9) A) (by decide) (Nat.le_of_ble_eq_true rfl) ?_
  intro A p e s m below meth c ls hsz htab hB
  obtain ⟨hx, hb, hr, hml, hown, hin, hlk, hE, hK, hP, hD, hS, hA, hN, hl⟩ := hB
  have hown : s.vm.findClass "SeriesVaultLaw" = some m.cls := hown
  have hl : lv_has ls 8 [(0, .ref h), (1, .int p0), (2, .long p1), (4, .long p2), (6, .ref o)] := hl
  obtain ⟨H, hH⟩ : ∃ z, z = s.heap := ⟨_, rfl⟩
  have hP : va_P D vwCl ([(o, .inl (dA 2, 1, .inr (.inl og)))] ++ (VW dA h ad x)) H := by rw [hH]; exact hP
  have hS : va_S A s.heap H [] := by rw [hH]; exact hS
  rw [← hH]
  refine lv_aload hx hb d_SeriesVaultLaw_delete_0 (lv_at hl 4 rfl) ?_
  refine lv_iconst (v := 0) hx hb d_SeriesVaultLaw_delete_2 (by decide) ?_
  refine lv_aload_n hx hb d_SeriesVaultLaw_delete_3 rfl (lv_at hl 0 rfl) ?_
  refine lv_iload_n hx hb d_SeriesVaultLaw_delete_4 rfl (lv_at hl 1 rfl) ?_
  refine lv_lload_n hx hb d_SeriesVaultLaw_delete_5 rfl (lv_at hl 2 rfl) ?_
  refine lv_lload hx hb d_SeriesVaultLaw_delete_6 (lv_at hl 3 rfl) ?_
  refine xkV (S := VS) (F := F9) (w1 := fun u => VW dA h ad u) (wr := [(o, .inl (dA 2, 1, .inr (.inl og)))]) (As := [.int p0, .long p1, .long p2]) (rest := [.int 0, .ref o]) hx hb hml hown hE hK (hN _ _ hS) (hc9 H.size) (q0 := 0) rfl rfl w385 w384 w386 w387 w277 rfl rfl ⟨⟨by decide, by decide⟩, rfl⟩ ⟨(by first | exact Nat.le_of_ble_eq_true rfl | (dsimp only; omega)), (by first | exact Nat.le_of_ble_eq_true rfl | (dsimp only; omega))⟩ rfl hl.1 rfl (by first | exact Nat.le_of_ble_eq_true rfl | (dsimp only; omega)) d_SeriesVaultLaw_delete_8 ⟨(show 0 + mc9 ≤ mc9 by omega), (show 0 + ms9 ≤ ms9 by omega)⟩ hP hD hS hA (fun u2 xa1 ce H locs hf9 hP hD hS hce hcv hcl => ?_)
  have hP : va_P D vwCl ([(o, .inl (dA 2, 1, .inr (.inl og)))] ++ (VW dA h ad u2)) H := hP
  have hD : va_D A ([(o, .inl (dA 2, 1, .inr (.inl og)))] ++ (VW dA h ad u2)) := hD
  refine xCatch (E := "java/lang/IllegalArgumentException") hown hE [⟨0, 13, 16, 29⟩, ⟨0, 13, 20, 35⟩] ⟨0, 13, 24, 19⟩ [⟨0, 13, 28, 13⟩] htab (List.forall_mem_cons.mpr ⟨⟨by decide, "java/lang/IllegalStateException", w363, by decide⟩, List.forall_mem_cons.mpr ⟨⟨by decide, "java/lang/IndexOutOfBoundsException", w354, by decide⟩, fun _ h => absurd h List.not_mem_nil⟩⟩) (by decide) (by decide) w349 w267 hce hcv hcl ?_
  refine lv_astore hx hb d_SeriesVaultLaw_delete_24 hl (by decide) rfl (fun ls hl => ?_)
  have hl : lv_has ls 8 [(7, .ref xa1), (0, .ref h), (1, .int p0), (2, .long p1), (4, .long p2), (6, .ref o)] := hl
  refine lv_iconst (v := 3) hx hb d_SeriesVaultLaw_delete_26 (by decide) ?_
  exact rfI hx hb hr hlk hS u2 ⟨rfl, hf9⟩ hP hD (show 0 + mc9 ≤ mc9 by omega) (show 0 + ms9 ≤ ms9 by omega) d_SeriesVaultLaw_delete_27
theorem d_SeriesVaultLaw_delete_28 : decode method_11_code 28 = .ok (.astore 7, 2) := by decide +kernel
theorem d_SeriesVaultLaw_delete_30 : decode method_11_code 30 = .ok (.iconst 4, 1) := by decide +kernel
theorem d_SeriesVaultLaw_delete_31 : decode method_11_code 31 = .ok (.ireturn, 1) := by decide +kernel
set_option maxHeartbeats 4000000 in
set_option maxRecDepth 100000 in
theorem k8_delete_4 (l : Launch) (D : va_G) (dA : Nat → ClassId) (sz : Nat) (h : Nat) (ad : Nat → Nat) (o : Nat) (og : Nat → Int64) (x : VS) (p0 : Int32) (p1 : Int64) (p2 : Int64) (F9 : VS → Prop) (fr : Nat) (lo : Nat) (mc9 : Nat) (ms9 : Nat) (hc9 : ∀ sz : Nat, mX l ⟨"SeriesVault", "delete", "(IJJ)I"⟩ [Cond.code ⟨"SeriesVault", "delete", "(IJJ)I"⟩ prog_1_method_34_code 8 (some FieldType.int)] { frames := fr, cells := mc9, slots := ms9, locals := lo } (pC D dA [.ref h, .int p0, .long p1, .long p2] (VW dA h ad x) sz) "java/lang/UnsupportedOperationException" (fun st9 t9 => va_F (va_A (VW dA h ad x) sz) st9 t9 ∧ ∃ u9 : VS, F9 u9 ∧ bW D (va_A (VW dA h ad x) sz) (VW dA h ad u9) t9) mc9 ms9 (va_A (VW dA h ad x) sz)) : Met l ⟨"SeriesVaultLaw", "delete", "(LSeriesVault;IJJ[J)I"⟩ [Cond.codeWith ⟨"SeriesVaultLaw", "delete", "(LSeriesVault;IJJ[J)I"⟩ method_11_code 8 (some FieldType.int) [(0, 13, 16, 29), (0, 13, 20, 35), (0, 13, 24, 19), (0, 13, 28, 13)]] { frames := fr + 1, cells := mc9, slots := ms9, locals := lo + 27 } (pC D dA [.ref h, .int p0, .long p1, .long p2, .ref o] ([(o, .inl (dA 2, 1, .inr (.inl og)))] ++ (VW dA h ad x)) sz) (va_Qi (fun (r9 : Int32) (u9 : VS) => r9 = 4 ∧ F9 u9) (fun (u9 : VS) t9 => bW D (va_A ([(o, .inl (dA 2, 1, .inr (.inl og)))] ++ (VW dA h ad x)) sz) ([(o, .inl (dA 2, 1, .inr (.inl og)))] ++ (VW dA h ad u9)) t9) (va_A ([(o, .inl (dA 2, 1, .inr (.inl og)))] ++ (VW dA h ad x)) sz)) mc9 ms9 (va_A ([(o, .inl (dA 2, 1, .inr (.inl og)))] ++ (VW dA h ad x)) sz) := by
  refine mkW (y := ⟨"SeriesVaultLaw", "delete", "(LSeriesVault;IJJ[J)I"⟩) (cc := method_11_code) (maxL := 8) (av := [.ref h, .int p0, .long p1, .long p2, .ref o]) (ws := [(o, .inl (dA 2, 1, .inr (.inl og)))] ++ (VW dA h ad x)) (sz := sz) (Qc := fun A => va_Qi (fun (r9 : Int32) (u9 : VS) => r9 = 4 ∧ F9 u9) (fun (u9 : VS) t9 => bW D A ([(o, .inl (dA 2, 1, .inr (.inl og)))] ++ (VW dA h ad u9)) t9) A) (by decide) (Nat.le_of_ble_eq_true rfl) ?_
  intro A p e s m below meth c ls hsz htab hB
  obtain ⟨hx, hb, hr, hml, hown, hin, hlk, hE, hK, hP, hD, hS, hA, hN, hl⟩ := hB
  have hown : s.vm.findClass "SeriesVaultLaw" = some m.cls := hown
  have hl : lv_has ls 8 [(0, .ref h), (1, .int p0), (2, .long p1), (4, .long p2), (6, .ref o)] := hl
  obtain ⟨H, hH⟩ : ∃ z, z = s.heap := ⟨_, rfl⟩
  have hP : va_P D vwCl ([(o, .inl (dA 2, 1, .inr (.inl og)))] ++ (VW dA h ad x)) H := by rw [hH]; exact hP
  have hS : va_S A s.heap H [] := by rw [hH]; exact hS
  rw [← hH]
  refine lv_aload hx hb d_SeriesVaultLaw_delete_0 (lv_at hl 4 rfl) ?_
  refine lv_iconst (v := 0) hx hb d_SeriesVaultLaw_delete_2 (by decide) ?_
  refine lv_aload_n hx hb d_SeriesVaultLaw_delete_3 rfl (lv_at hl 0 rfl) ?_
  refine lv_iload_n hx hb d_SeriesVaultLaw_delete_4 rfl (lv_at hl 1 rfl) ?_
  refine lv_lload_n hx hb d_SeriesVaultLaw_delete_5 rfl (lv_at hl 2 rfl) ?_
  refine lv_lload hx hb d_SeriesVaultLaw_delete_6 (lv_at hl 3 rfl) ?_
  refine xkV (S := VS) (F := F9) (w1 := fun u => VW dA h ad u) (wr := [(o, .inl (dA 2, 1, .inr (.inl og)))]) (As := [.int p0, .long p1, .long p2]) (rest := [.int 0, .ref o]) hx hb hml hown hE hK (hN _ _ hS) (hc9 H.size) (q0 := 0) rfl rfl w385 w384 w386 w387 w277 rfl rfl ⟨⟨by decide, by decide⟩, rfl⟩ ⟨(by first | exact Nat.le_of_ble_eq_true rfl | (dsimp only; omega)), (by first | exact Nat.le_of_ble_eq_true rfl | (dsimp only; omega))⟩ rfl hl.1 rfl (by first | exact Nat.le_of_ble_eq_true rfl | (dsimp only; omega)) d_SeriesVaultLaw_delete_8 ⟨(show 0 + mc9 ≤ mc9 by omega), (show 0 + ms9 ≤ ms9 by omega)⟩ hP hD hS hA (fun u2 xa1 ce H locs hf9 hP hD hS hce hcv hcl => ?_)
  have hP : va_P D vwCl ([(o, .inl (dA 2, 1, .inr (.inl og)))] ++ (VW dA h ad u2)) H := hP
  have hD : va_D A ([(o, .inl (dA 2, 1, .inr (.inl og)))] ++ (VW dA h ad u2)) := hD
  refine xCatch (E := "java/lang/UnsupportedOperationException") hown hE [⟨0, 13, 16, 29⟩, ⟨0, 13, 20, 35⟩, ⟨0, 13, 24, 19⟩] ⟨0, 13, 28, 13⟩ [] htab (List.forall_mem_cons.mpr ⟨⟨by decide, "java/lang/IllegalStateException", w363, by decide⟩, List.forall_mem_cons.mpr ⟨⟨by decide, "java/lang/IndexOutOfBoundsException", w354, by decide⟩, List.forall_mem_cons.mpr ⟨⟨by decide, "java/lang/IllegalArgumentException", w349, by decide⟩, fun _ h => absurd h List.not_mem_nil⟩⟩⟩) (by decide) (by decide) w1791 w1150 hce hcv hcl ?_
  refine lv_astore hx hb d_SeriesVaultLaw_delete_28 hl (by decide) rfl (fun ls hl => ?_)
  have hl : lv_has ls 8 [(7, .ref xa1), (0, .ref h), (1, .int p0), (2, .long p1), (4, .long p2), (6, .ref o)] := hl
  refine lv_iconst (v := 4) hx hb d_SeriesVaultLaw_delete_30 (by decide) ?_
  exact rfI hx hb hr hlk hS u2 ⟨rfl, hf9⟩ hP hD (show 0 + mc9 ≤ mc9 by omega) (show 0 + ms9 ≤ ms9 by omega) d_SeriesVaultLaw_delete_31
theorem d_SeriesVaultLaw_bulk_7 : decode method_10_code 7 = .ok (.i2l, 1) := by decide +kernel
theorem d_SeriesVaultLaw_bulk_8 : decode method_10_code 8 = .ok (.lastore, 1) := by decide +kernel
theorem d_SeriesVaultLaw_bulk_9 : decode method_10_code 9 = .ok (.goto 9, 3) := by decide +kernel
theorem d_SeriesVaultLaw_bulk_18 : decode method_10_code 18 = .ok (.iconst 0, 1) := by decide +kernel
theorem d_SeriesVaultLaw_bulk_19 : decode method_10_code 19 = .ok (.ireturn, 1) := by decide +kernel
set_option maxHeartbeats 4000000 in
set_option maxRecDepth 100000 in
theorem k8_bulk (l : Launch) (D : va_G) (dA : Nat → ClassId) (sz : Nat) (h : Nat) (ad : Nat → Nat) (o : Nat) (og : Nat → Int64) (x : VS) (p0 : Int32) (v9 : Int32) (F9 : VS → Prop) (fr : Nat) (lo : Nat) (mc9 : Nat) (ms9 : Nat) (hc9 : ∀ sz : Nat, Met l ⟨"SeriesVault", "bulk", "(I)I"⟩ [Cond.code ⟨"SeriesVault", "bulk", "(I)I"⟩ prog_1_method_33_code 6 (some FieldType.int)] { frames := fr, cells := mc9, slots := ms9, locals := lo } (pC D dA [.ref h, .int p0] (VW dA h ad x) sz) (va_Qi (fun (r9 : Int32) (u9 : VS) => r9 = v9 ∧ F9 u9) (fun (u9 : VS) t9 => bW D (va_A (VW dA h ad x) sz) (VW dA h ad u9) t9) (va_A (VW dA h ad x) sz)) mc9 ms9 (va_A (VW dA h ad x) sz)) : Met l ⟨"SeriesVaultLaw", "bulk", "(LSeriesVault;I[J)I"⟩ [Cond.codeWith ⟨"SeriesVaultLaw", "bulk", "(LSeriesVault;I[J)I"⟩ method_10_code 4 (some FieldType.int) [(0, 9, 12, 29), (0, 9, 15, 35)]] { frames := fr + 1, cells := mc9, slots := ms9, locals := lo + 25 } (pC D dA [.ref h, .int p0, .ref o] ([(o, .inl (dA 2, 1, .inr (.inl og)))] ++ (VW dA h ad x)) sz) (va_Qi (fun (r9 : Int32) (u9 : VS) => r9 = 0 ∧ F9 u9) (fun (u9 : VS) t9 => bW D (va_A ([(o, .inl (dA 2, 1, .inr (.inl og)))] ++ (VW dA h ad x)) sz) ([(o, .inl (dA 2, 1, .inr (.inl (va_up og 0 (v9.toInt64)))))] ++ (VW dA h ad u9)) t9) (va_A ([(o, .inl (dA 2, 1, .inr (.inl og)))] ++ (VW dA h ad x)) sz)) mc9 ms9 (va_A ([(o, .inl (dA 2, 1, .inr (.inl og)))] ++ (VW dA h ad x)) sz) := by
  refine mkW (y := ⟨"SeriesVaultLaw", "bulk", "(LSeriesVault;I[J)I"⟩) (cc := method_10_code) (maxL := 4) (av := [.ref h, .int p0, .ref o]) (ws := [(o, .inl (dA 2, 1, .inr (.inl og)))] ++ (VW dA h ad x)) (sz := sz) (Qc := fun A => va_Qi (fun (r9 : Int32) (u9 : VS) => r9 = 0 ∧ F9 u9) (fun (u9 : VS) t9 => bW D A ([(o, .inl (dA 2, 1, .inr (.inl (va_up og 0 (v9.toInt64)))))] ++ (VW dA h ad u9)) t9) A) (by decide) (Nat.le_of_ble_eq_true rfl) ?_
  intro A p e s m below meth c ls hsz htab hB
  obtain ⟨hx, hb, hr, hml, hown, hin, hlk, hE, hK, hP, hD, hS, hA, hN, hl⟩ := hB
  have hown : s.vm.findClass "SeriesVaultLaw" = some m.cls := hown
  have hl : lv_has ls 4 [(0, .ref h), (1, .int p0), (2, .ref o)] := hl
  obtain ⟨H, hH⟩ : ∃ z, z = s.heap := ⟨_, rfl⟩
  have hP : va_P D vwCl ([(o, .inl (dA 2, 1, .inr (.inl og)))] ++ (VW dA h ad x)) H := by rw [hH]; exact hP
  have hS : va_S A s.heap H [] := by rw [hH]; exact hS
  rw [← hH]
  refine lv_aload_n hx hb d_SeriesVaultLaw_bulk_0 rfl (lv_at hl 2 rfl) ?_
  refine lv_iconst (v := 0) hx hb d_SeriesVaultLaw_bulk_1 (by decide) ?_
  refine lv_aload_n hx hb d_SeriesVaultLaw_bulk_2 rfl (lv_at hl 0 rfl) ?_
  refine lv_iload_n hx hb d_SeriesVaultLaw_bulk_3 rfl (lv_at hl 1 rfl) ?_
  have hPc : va_P D vwCl (VW dA h ad x) H := spP (wr := [(o, .inl (dA 2, 1, .inr (.inl og)))]) hP
  have hDc : va_D A (VW dA h ad x) := spD (wr := [(o, .inl (dA 2, 1, .inr (.inl og)))]) hD
  refine jkI (wr := [(o, .inl (dA 2, 1, .inr (.inl og)))]) (rnV (As := [.int p0]) (rest := [.int 0, .ref o]) hx hb hml hown hE hK (hN _ _ hS) hPc hDc ((fun (_ : Launch) (_ : va_G) (_ : Nat → ClassId) (sz9 : Nat) (_ : Nat) (_ : Nat → Nat) (_ : VS) (_ : Int32) => hc9 sz9) l D dA H.size h ad x p0) (q0 := 0) rfl rfl w381 w380 w382 w383 w277 rfl rfl ⟨⟨by decide, by decide⟩, rfl⟩ ⟨(by first | exact Nat.le_of_ble_eq_true rfl | (dsimp only; omega)), (by first | exact Nat.le_of_ble_eq_true rfl | (dsimp only; omega))⟩ rfl hl.1 rfl (by first | exact Nat.le_of_ble_eq_true rfl | (dsimp only; omega)) d_SeriesVaultLaw_bulk_4 ⟨(show 0 + mc9 ≤ mc9 by omega), (show 0 + ms9 ≤ ms9 by omega)⟩) hP hD hS hA (fun r1 u2 H locs hp9 hP hD hS => ?_)
  obtain ⟨u8, h9u⟩ : ∃ z9, z9 = u2 := ⟨_, rfl⟩
  subst h9u
  have hP : va_P D vwCl ([(o, .inl (dA 2, 1, .inr (.inl og)))] ++ (VW dA h ad u8)) H := hP
  have hD : va_D A ([(o, .inl (dA 2, 1, .inr (.inl og)))] ++ (VW dA h ad u8)) := hD
  obtain ⟨hp9, f_f_3⟩ := hp9
  replace hp9 : v9 = r1 := Eq.symm hp9
  subst hp9
  refine lv_i2l hx hb d_SeriesVaultLaw_bulk_7 rfl ?_
  refine nlst (n := 1) hx hb hK hP hD hS (0) 2 rfl rfl (0) (by omega) (by decide) d_SeriesVaultLaw_bulk_8 (fun H locs hP hD hS => ?_)
  have hP : va_P D vwCl ([(o, .inl (dA 2, 1, .inr (.inl (va_up og 0 v9.toInt64))))] ++ (VW dA h ad u8)) H := hP
  have hD : va_D A ([(o, .inl (dA 2, 1, .inr (.inl (va_up og 0 v9.toInt64))))] ++ (VW dA h ad u8)) := hD
  refine lv_goto hx hb d_SeriesVaultLaw_bulk_9 (tgt := 18) rfl ?_
  refine lv_iconst (v := 0) hx hb d_SeriesVaultLaw_bulk_18 (by decide) ?_
  exact rfI hx hb hr hlk hS u8 ⟨rfl, f_f_3⟩ hP hD (show 0 + mc9 ≤ mc9 by omega) (show 0 + ms9 ≤ ms9 by omega) d_SeriesVaultLaw_bulk_19
theorem d_SeriesVaultLaw_bulk_12 : decode method_10_code 12 = .ok (.astore_n 3, 1) := by decide +kernel
theorem d_SeriesVaultLaw_bulk_13 : decode method_10_code 13 = .ok (.iconst 1, 1) := by decide +kernel
theorem d_SeriesVaultLaw_bulk_14 : decode method_10_code 14 = .ok (.ireturn, 1) := by decide +kernel
set_option maxHeartbeats 4000000 in
set_option maxRecDepth 100000 in
theorem k8_bulk_1 (l : Launch) (D : va_G) (dA : Nat → ClassId) (sz : Nat) (h : Nat) (ad : Nat → Nat) (o : Nat) (og : Nat → Int64) (x : VS) (p0 : Int32) (F9 : VS → Prop) (fr : Nat) (lo : Nat) (mc9 : Nat) (ms9 : Nat) (hc9 : ∀ sz : Nat, mX l ⟨"SeriesVault", "bulk", "(I)I"⟩ [Cond.code ⟨"SeriesVault", "bulk", "(I)I"⟩ prog_1_method_33_code 6 (some FieldType.int)] { frames := fr, cells := mc9, slots := ms9, locals := lo } (pC D dA [.ref h, .int p0] (VW dA h ad x) sz) "java/lang/IllegalStateException" (fun st9 t9 => va_F (va_A (VW dA h ad x) sz) st9 t9 ∧ ∃ u9 : VS, F9 u9 ∧ bW D (va_A (VW dA h ad x) sz) (VW dA h ad u9) t9) mc9 ms9 (va_A (VW dA h ad x) sz)) : Met l ⟨"SeriesVaultLaw", "bulk", "(LSeriesVault;I[J)I"⟩ [Cond.codeWith ⟨"SeriesVaultLaw", "bulk", "(LSeriesVault;I[J)I"⟩ method_10_code 4 (some FieldType.int) [(0, 9, 12, 29), (0, 9, 15, 35)]] { frames := fr + 1, cells := mc9, slots := ms9, locals := lo + 25 } (pC D dA [.ref h, .int p0, .ref o] ([(o, .inl (dA 2, 1, .inr (.inl og)))] ++ (VW dA h ad x)) sz) (va_Qi (fun (r9 : Int32) (u9 : VS) => r9 = 1 ∧ F9 u9) (fun (u9 : VS) t9 => bW D (va_A ([(o, .inl (dA 2, 1, .inr (.inl og)))] ++ (VW dA h ad x)) sz) ([(o, .inl (dA 2, 1, .inr (.inl og)))] ++ (VW dA h ad u9)) t9) (va_A ([(o, .inl (dA 2, 1, .inr (.inl og)))] ++ (VW dA h ad x)) sz)) mc9 ms9 (va_A ([(o, .inl (dA 2, 1, .inr (.inl og)))] ++ (VW dA h ad x)) sz) := by
  refine mkW (y := ⟨"SeriesVaultLaw", "bulk", "(LSeriesVault;I[J)I"⟩) (cc := method_10_code) (maxL := 4) (av := [.ref h, .int p0, .ref o]) (ws := [(o, .inl (dA 2, 1, .inr (.inl og)))] ++ (VW dA h ad x)) (sz := sz) (Qc := fun A => va_Qi (fun (r9 : Int32) (u9 : VS) => r9 = 1 ∧ F9 u9) (fun (u9 : VS) t9 => bW D A ([(o, .inl (dA 2, 1, .inr (.inl og)))] ++ (VW dA h ad u9)) t9) A) (by decide) (Nat.le_of_ble_eq_true rfl) ?_
  intro A p e s m below meth c ls hsz htab hB
  obtain ⟨hx, hb, hr, hml, hown, hin, hlk, hE, hK, hP, hD, hS, hA, hN, hl⟩ := hB
  have hown : s.vm.findClass "SeriesVaultLaw" = some m.cls := hown
  have hl : lv_has ls 4 [(0, .ref h), (1, .int p0), (2, .ref o)] := hl
  obtain ⟨H, hH⟩ : ∃ z, z = s.heap := ⟨_, rfl⟩
  have hP : va_P D vwCl ([(o, .inl (dA 2, 1, .inr (.inl og)))] ++ (VW dA h ad x)) H := by rw [hH]; exact hP
  have hS : va_S A s.heap H [] := by rw [hH]; exact hS
  rw [← hH]
  refine lv_aload_n hx hb d_SeriesVaultLaw_bulk_0 rfl (lv_at hl 2 rfl) ?_
  refine lv_iconst (v := 0) hx hb d_SeriesVaultLaw_bulk_1 (by decide) ?_
  refine lv_aload_n hx hb d_SeriesVaultLaw_bulk_2 rfl (lv_at hl 0 rfl) ?_
  refine lv_iload_n hx hb d_SeriesVaultLaw_bulk_3 rfl (lv_at hl 1 rfl) ?_
  refine xkV (S := VS) (F := F9) (w1 := fun u => VW dA h ad u) (wr := [(o, .inl (dA 2, 1, .inr (.inl og)))]) (As := [.int p0]) (rest := [.int 0, .ref o]) hx hb hml hown hE hK (hN _ _ hS) (hc9 H.size) (q0 := 0) rfl rfl w381 w380 w382 w383 w277 rfl rfl ⟨⟨by decide, by decide⟩, rfl⟩ ⟨(by first | exact Nat.le_of_ble_eq_true rfl | (dsimp only; omega)), (by first | exact Nat.le_of_ble_eq_true rfl | (dsimp only; omega))⟩ rfl hl.1 rfl (by first | exact Nat.le_of_ble_eq_true rfl | (dsimp only; omega)) d_SeriesVaultLaw_bulk_4 ⟨(show 0 + mc9 ≤ mc9 by omega), (show 0 + ms9 ≤ ms9 by omega)⟩ hP hD hS hA (fun u2 xa1 ce H locs hf9 hP hD hS hce hcv hcl => ?_)
  have hP : va_P D vwCl ([(o, .inl (dA 2, 1, .inr (.inl og)))] ++ (VW dA h ad u2)) H := hP
  have hD : va_D A ([(o, .inl (dA 2, 1, .inr (.inl og)))] ++ (VW dA h ad u2)) := hD
  refine xCatch (E := "java/lang/IllegalStateException") hown hE [] ⟨0, 9, 12, 29⟩ [⟨0, 9, 15, 35⟩] htab (fun _ h => absurd h List.not_mem_nil) (by decide) (by decide) w363 w289 hce hcv hcl ?_
  refine lv_astore_n hx hb d_SeriesVaultLaw_bulk_12 rfl hl (by decide) rfl (fun ls hl => ?_)
  have hl : lv_has ls 4 [(3, .ref xa1), (0, .ref h), (1, .int p0), (2, .ref o)] := hl
  refine lv_iconst (v := 1) hx hb d_SeriesVaultLaw_bulk_13 (by decide) ?_
  exact rfI hx hb hr hlk hS u2 ⟨rfl, hf9⟩ hP hD (show 0 + mc9 ≤ mc9 by omega) (show 0 + ms9 ≤ ms9 by omega) d_SeriesVaultLaw_bulk_14
set_option maxHeartbeats 4000000 in
set_option maxRecDepth 100000 in
theorem k8_bulk_2 (l : Launch) (D : va_G) (dA : Nat → ClassId) (sz : Nat) (h : Nat) (ad : Nat → Nat) (o : Nat) (og : Nat → Int64) (x : VS) (p0 : Int32) (F9 : VS → Prop) (fr : Nat) (lo : Nat) (mc9 : Nat) (ms9 : Nat) (hc9 : ∀ sz : Nat, mX l ⟨"SeriesVault", "bulk", "(I)I"⟩ [Cond.code ⟨"SeriesVault", "bulk", "(I)I"⟩ prog_1_method_33_code 6 (some FieldType.int)] { frames := fr, cells := mc9, slots := ms9, locals := lo } (pC D dA [.ref h, .int p0] (VW dA h ad x) sz) "java/lang/IndexOutOfBoundsException" (fun st9 t9 => va_F (va_A (VW dA h ad x) sz) st9 t9 ∧ ∃ u9 : VS, F9 u9 ∧ bW D (va_A (VW dA h ad x) sz) (VW dA h ad u9) t9) mc9 ms9 (va_A (VW dA h ad x) sz)) : Met l ⟨"SeriesVaultLaw", "bulk", "(LSeriesVault;I[J)I"⟩ [Cond.codeWith ⟨"SeriesVaultLaw", "bulk", "(LSeriesVault;I[J)I"⟩ method_10_code 4 (some FieldType.int) [(0, 9, 12, 29), (0, 9, 15, 35)]] { frames := fr + 1, cells := mc9, slots := ms9, locals := lo + 25 } (pC D dA [.ref h, .int p0, .ref o] ([(o, .inl (dA 2, 1, .inr (.inl og)))] ++ (VW dA h ad x)) sz) (va_Qi (fun (r9 : Int32) (u9 : VS) => r9 = 2 ∧ F9 u9) (fun (u9 : VS) t9 => bW D (va_A ([(o, .inl (dA 2, 1, .inr (.inl og)))] ++ (VW dA h ad x)) sz) ([(o, .inl (dA 2, 1, .inr (.inl og)))] ++ (VW dA h ad u9)) t9) (va_A ([(o, .inl (dA 2, 1, .inr (.inl og)))] ++ (VW dA h ad x)) sz)) mc9 ms9 (va_A ([(o, .inl (dA 2, 1, .inr (.inl og)))] ++ (VW dA h ad x)) sz) := by
  refine mkW (y := ⟨"SeriesVaultLaw", "bulk", "(LSeriesVault;I[J)I"⟩) (cc := method_10_code) (maxL := 4) (av := [.ref h, .int p0, .ref o]) (ws := [(o, .inl (dA 2, 1, .inr (.inl og)))] ++ (VW dA h ad x)) (sz := sz) (Qc := fun A => va_Qi (fun (r9 : Int32) (u9 : VS) => r9 = 2 ∧ F9 u9) (fun (u9 : VS) t9 => bW D A ([(o, .inl (dA 2, 1, .inr (.inl og)))] ++ (VW dA h ad u9)) t9) A) (by decide) (Nat.le_of_ble_eq_true rfl) ?_
  intro A p e s m below meth c ls hsz htab hB
  obtain ⟨hx, hb, hr, hml, hown, hin, hlk, hE, hK, hP, hD, hS, hA, hN, hl⟩ := hB
  have hown : s.vm.findClass "SeriesVaultLaw" = some m.cls := hown
  have hl : lv_has ls 4 [(0, .ref h), (1, .int p0), (2, .ref o)] := hl
  obtain ⟨H, hH⟩ : ∃ z, z = s.heap := ⟨_, rfl⟩
  have hP : va_P D vwCl ([(o, .inl (dA 2, 1, .inr (.inl og)))] ++ (VW dA h ad x)) H := by rw [hH]; exact hP
  have hS : va_S A s.heap H [] := by rw [hH]; exact hS
  rw [← hH]
  refine lv_aload_n hx hb d_SeriesVaultLaw_bulk_0 rfl (lv_at hl 2 rfl) ?_
  refine lv_iconst (v := 0) hx hb d_SeriesVaultLaw_bulk_1 (by decide) ?_
  refine lv_aload_n hx hb d_SeriesVaultLaw_bulk_2 rfl (lv_at hl 0 rfl) ?_
  refine lv_iload_n hx hb d_SeriesVaultLaw_bulk_3 rfl (lv_at hl 1 rfl) ?_
  refine xkV (S := VS) (F := F9) (w1 := fun u => VW dA h ad u) (wr := [(o, .inl (dA 2, 1, .inr (.inl og)))]) (As := [.int p0]) (rest := [.int 0, .ref o]) hx hb hml hown hE hK (hN _ _ hS) (hc9 H.size) (q0 := 0) rfl rfl w381 w380 w382 w383 w277 rfl rfl ⟨⟨by decide, by decide⟩, rfl⟩ ⟨(by first | exact Nat.le_of_ble_eq_true rfl | (dsimp only; omega)), (by first | exact Nat.le_of_ble_eq_true rfl | (dsimp only; omega))⟩ rfl hl.1 rfl (by first | exact Nat.le_of_ble_eq_true rfl | (dsimp only; omega)) d_SeriesVaultLaw_bulk_4 ⟨(show 0 + mc9 ≤ mc9 by omega), (show 0 + ms9 ≤ ms9 by omega)⟩ hP hD hS hA (fun u2 xa1 ce H locs hf9 hP hD hS hce hcv hcl => ?_)
  have hP : va_P D vwCl ([(o, .inl (dA 2, 1, .inr (.inl og)))] ++ (VW dA h ad u2)) H := hP
  have hD : va_D A ([(o, .inl (dA 2, 1, .inr (.inl og)))] ++ (VW dA h ad u2)) := hD
  refine xCatch (E := "java/lang/IndexOutOfBoundsException") hown hE [⟨0, 9, 12, 29⟩] ⟨0, 9, 15, 35⟩ [] htab (List.forall_mem_cons.mpr ⟨⟨by decide, "java/lang/IllegalStateException", w363, by decide⟩, fun _ h => absurd h List.not_mem_nil⟩) (by decide) (by decide) w354 w222 hce hcv hcl ?_
  refine lv_astore_n hx hb d_SeriesVaultLaw_bulk_15 rfl hl (by decide) rfl (fun ls hl => ?_)
  have hl : lv_has ls 4 [(3, .ref xa1), (0, .ref h), (1, .int p0), (2, .ref o)] := hl
  refine lv_iconst (v := 2) hx hb d_SeriesVaultLaw_bulk_16 (by decide) ?_
  exact rfI hx hb hr hlk hS u2 ⟨rfl, hf9⟩ hP hD (show 0 + mc9 ≤ mc9 by omega) (show 0 + ms9 ≤ ms9 by omega) d_SeriesVaultLaw_bulk_17
theorem d_SeriesVaultLaw_sync_9 : decode method_12_code 9 = .ok (.lconst 1, 1) := by decide +kernel
theorem d_SeriesVaultLaw_sync_10 : decode method_12_code 10 = .ok (.goto 4, 3) := by decide +kernel
set_option maxHeartbeats 4000000 in
set_option maxRecDepth 100000 in
theorem k8_sync_b1 (l : Launch) (D : va_G) (dA : Nat → ClassId) (sz : Nat) (h : Nat) (ad : Nat → Nat) (o : Nat) (og : Nat → Int64) (x : VS) (F9 : VS → Prop) (fr : Nat) (lo : Nat) (mc9 : Nat) (ms9 : Nat) (hc9 : ∀ sz : Nat, Met l ⟨"SeriesVault", "sync", "()Z"⟩ [Cond.code ⟨"SeriesVault", "sync", "()Z"⟩ prog_1_method_22_code 1 (some FieldType.boolean)] { frames := fr, cells := mc9, slots := ms9, locals := lo } (pC D dA [.ref h] (VW dA h ad x) sz) (va_Qi (fun (r9 : Int32) (u9 : VS) => r9 = 1 ∧ F9 u9) (fun (u9 : VS) t9 => bW D (va_A (VW dA h ad x) sz) (VW dA h ad u9) t9) (va_A (VW dA h ad x) sz)) mc9 ms9 (va_A (VW dA h ad x) sz)) : Met l ⟨"SeriesVaultLaw", "sync", "(LSeriesVault;[J)I"⟩ [Cond.codeWith ⟨"SeriesVaultLaw", "sync", "(LSeriesVault;[J)I"⟩ method_12_code 3 (some FieldType.int) [(0, 15, 18, 29)]] { frames := fr + 1, cells := mc9, slots := ms9, locals := lo + 20 } (pC D dA [.ref h, .ref o] ([(o, .inl (dA 2, 1, .inr (.inl og)))] ++ (VW dA h ad x)) sz) (va_Qi (fun (r9 : Int32) (u9 : VS) => r9 = 0 ∧ F9 u9) (fun (u9 : VS) t9 => bW D (va_A ([(o, .inl (dA 2, 1, .inr (.inl og)))] ++ (VW dA h ad x)) sz) ([(o, .inl (dA 2, 1, .inr (.inl (va_up og 0 1))))] ++ (VW dA h ad u9)) t9) (va_A ([(o, .inl (dA 2, 1, .inr (.inl og)))] ++ (VW dA h ad x)) sz)) mc9 ms9 (va_A ([(o, .inl (dA 2, 1, .inr (.inl og)))] ++ (VW dA h ad x)) sz) := by
  refine mkW (y := ⟨"SeriesVaultLaw", "sync", "(LSeriesVault;[J)I"⟩) (cc := method_12_code) (maxL := 3) (av := [.ref h, .ref o]) (ws := [(o, .inl (dA 2, 1, .inr (.inl og)))] ++ (VW dA h ad x)) (sz := sz) (Qc := fun A => va_Qi (fun (r9 : Int32) (u9 : VS) => r9 = 0 ∧ F9 u9) (fun (u9 : VS) t9 => bW D A ([(o, .inl (dA 2, 1, .inr (.inl (va_up og 0 1))))] ++ (VW dA h ad u9)) t9) A) (by decide) (Nat.le_of_ble_eq_true rfl) ?_
  intro A p e s m below meth c ls hsz htab hB
  obtain ⟨hx, hb, hr, hml, hown, hin, hlk, hE, hK, hP, hD, hS, hA, hN, hl⟩ := hB
  have hown : s.vm.findClass "SeriesVaultLaw" = some m.cls := hown
  have hl : lv_has ls 3 [(0, .ref h), (1, .ref o)] := hl
  obtain ⟨H, hH⟩ : ∃ z, z = s.heap := ⟨_, rfl⟩
  have hP : va_P D vwCl ([(o, .inl (dA 2, 1, .inr (.inl og)))] ++ (VW dA h ad x)) H := by rw [hH]; exact hP
  have hS : va_S A s.heap H [] := by rw [hH]; exact hS
  rw [← hH]
  refine lv_aload_n hx hb d_SeriesVaultLaw_sync_0 rfl (lv_at hl 1 rfl) ?_
  refine lv_iconst (v := 0) hx hb d_SeriesVaultLaw_sync_1 (by decide) ?_
  refine lv_aload_n hx hb d_SeriesVaultLaw_sync_2 rfl (lv_at hl 0 rfl) ?_
  have hPc : va_P D vwCl (VW dA h ad x) H := spP (wr := [(o, .inl (dA 2, 1, .inr (.inl og)))]) hP
  have hDc : va_D A (VW dA h ad x) := spD (wr := [(o, .inl (dA 2, 1, .inr (.inl og)))]) hD
  refine jkI (wr := [(o, .inl (dA 2, 1, .inr (.inl og)))]) (rnV (As := []) (rest := [.int 0, .ref o]) hx hb hml hown hE hK (hN _ _ hS) hPc hDc ((fun (_ : Launch) (_ : va_G) (_ : Nat → ClassId) (sz9 : Nat) (_ : Nat) (_ : Nat → Nat) (_ : VS) => hc9 sz9) l D dA H.size h ad x) (q0 := 0) rfl rfl w409 w408 w410 w411 w277 rfl rfl ⟨⟨by decide, by decide⟩, rfl⟩ ⟨(by first | exact Nat.le_of_ble_eq_true rfl | (dsimp only; omega)), (by first | exact Nat.le_of_ble_eq_true rfl | (dsimp only; omega))⟩ rfl hl.1 rfl (by first | exact Nat.le_of_ble_eq_true rfl | (dsimp only; omega)) d_SeriesVaultLaw_sync_3 ⟨(show 0 + mc9 ≤ mc9 by omega), (show 0 + ms9 ≤ ms9 by omega)⟩) hP hD hS hA (fun r1 u2 H locs hp9 hP hD hS => ?_)
  obtain ⟨u8, h9u⟩ : ∃ z9, z9 = u2 := ⟨_, rfl⟩
  subst h9u
  have hP : va_P D vwCl ([(o, .inl (dA 2, 1, .inr (.inl og)))] ++ (VW dA h ad u8)) H := hP
  have hD : va_D A ([(o, .inl (dA 2, 1, .inr (.inl og)))] ++ (VW dA h ad u8)) := hD
  obtain ⟨hp9, f_f_3⟩ := hp9
  replace hp9 : 1 = r1 := Eq.symm hp9
  subst hp9
  refine lv_if_eq hx hb d_SeriesVaultLaw_sync_6 (tgt := 13) rfl (fun h9 => absurd h9 (by decide)) (fun _ => ?_)
  refine lv_lconst (v := 1) hx hb d_SeriesVaultLaw_sync_9 (by decide) ?_
  refine lv_goto hx hb d_SeriesVaultLaw_sync_10 (tgt := 14) rfl ?_
  refine nlst (n := 1) hx hb hK hP hD hS (0) 2 rfl rfl (0) (by omega) (by decide) d_SeriesVaultLaw_sync_14 (fun H locs hP hD hS => ?_)
  have hP : va_P D vwCl ([(o, .inl (dA 2, 1, .inr (.inl (va_up og 0 1))))] ++ (VW dA h ad u8)) H := hP
  have hD : va_D A ([(o, .inl (dA 2, 1, .inr (.inl (va_up og 0 1))))] ++ (VW dA h ad u8)) := hD
  refine lv_goto hx hb d_SeriesVaultLaw_sync_15 (tgt := 21) rfl ?_
  refine lv_iconst (v := 0) hx hb d_SeriesVaultLaw_sync_21 (by decide) ?_
  exact rfI hx hb hr hlk hS u8 ⟨rfl, f_f_3⟩ hP hD (show 0 + mc9 ≤ mc9 by omega) (show 0 + ms9 ≤ ms9 by omega) d_SeriesVaultLaw_sync_22
set_option maxHeartbeats 4000000 in
set_option maxRecDepth 100000 in
theorem k8_sync_b0 (l : Launch) (D : va_G) (dA : Nat → ClassId) (sz : Nat) (h : Nat) (ad : Nat → Nat) (o : Nat) (og : Nat → Int64) (x : VS) (F9 : VS → Prop) (fr : Nat) (lo : Nat) (mc9 : Nat) (ms9 : Nat) (hc9 : ∀ sz : Nat, Met l ⟨"SeriesVault", "sync", "()Z"⟩ [Cond.code ⟨"SeriesVault", "sync", "()Z"⟩ prog_1_method_22_code 1 (some FieldType.boolean)] { frames := fr, cells := mc9, slots := ms9, locals := lo } (pC D dA [.ref h] (VW dA h ad x) sz) (va_Qi (fun (r9 : Int32) (u9 : VS) => r9 = 0 ∧ F9 u9) (fun (u9 : VS) t9 => bW D (va_A (VW dA h ad x) sz) (VW dA h ad u9) t9) (va_A (VW dA h ad x) sz)) mc9 ms9 (va_A (VW dA h ad x) sz)) : Met l ⟨"SeriesVaultLaw", "sync", "(LSeriesVault;[J)I"⟩ [Cond.codeWith ⟨"SeriesVaultLaw", "sync", "(LSeriesVault;[J)I"⟩ method_12_code 3 (some FieldType.int) [(0, 15, 18, 29)]] { frames := fr + 1, cells := mc9, slots := ms9, locals := lo + 20 } (pC D dA [.ref h, .ref o] ([(o, .inl (dA 2, 1, .inr (.inl og)))] ++ (VW dA h ad x)) sz) (va_Qi (fun (r9 : Int32) (u9 : VS) => r9 = 0 ∧ F9 u9) (fun (u9 : VS) t9 => bW D (va_A ([(o, .inl (dA 2, 1, .inr (.inl og)))] ++ (VW dA h ad x)) sz) ([(o, .inl (dA 2, 1, .inr (.inl (va_up og 0 0))))] ++ (VW dA h ad u9)) t9) (va_A ([(o, .inl (dA 2, 1, .inr (.inl og)))] ++ (VW dA h ad x)) sz)) mc9 ms9 (va_A ([(o, .inl (dA 2, 1, .inr (.inl og)))] ++ (VW dA h ad x)) sz) := by
  refine mkW (y := ⟨"SeriesVaultLaw", "sync", "(LSeriesVault;[J)I"⟩) (cc := method_12_code) (maxL := 3) (av := [.ref h, .ref o]) (ws := [(o, .inl (dA 2, 1, .inr (.inl og)))] ++ (VW dA h ad x)) (sz := sz) (Qc := fun A => va_Qi (fun (r9 : Int32) (u9 : VS) => r9 = 0 ∧ F9 u9) (fun (u9 : VS) t9 => bW D A ([(o, .inl (dA 2, 1, .inr (.inl (va_up og 0 0))))] ++ (VW dA h ad u9)) t9) A) (by decide) (Nat.le_of_ble_eq_true rfl) ?_
  intro A p e s m below meth c ls hsz htab hB
  obtain ⟨hx, hb, hr, hml, hown, hin, hlk, hE, hK, hP, hD, hS, hA, hN, hl⟩ := hB
  have hown : s.vm.findClass "SeriesVaultLaw" = some m.cls := hown
  have hl : lv_has ls 3 [(0, .ref h), (1, .ref o)] := hl
  obtain ⟨H, hH⟩ : ∃ z, z = s.heap := ⟨_, rfl⟩
  have hP : va_P D vwCl ([(o, .inl (dA 2, 1, .inr (.inl og)))] ++ (VW dA h ad x)) H := by rw [hH]; exact hP
  have hS : va_S A s.heap H [] := by rw [hH]; exact hS
  rw [← hH]
  refine lv_aload_n hx hb d_SeriesVaultLaw_sync_0 rfl (lv_at hl 1 rfl) ?_
  refine lv_iconst (v := 0) hx hb d_SeriesVaultLaw_sync_1 (by decide) ?_
  refine lv_aload_n hx hb d_SeriesVaultLaw_sync_2 rfl (lv_at hl 0 rfl) ?_
  have hPc : va_P D vwCl (VW dA h ad x) H := spP (wr := [(o, .inl (dA 2, 1, .inr (.inl og)))]) hP
  have hDc : va_D A (VW dA h ad x) := spD (wr := [(o, .inl (dA 2, 1, .inr (.inl og)))]) hD
  refine jkI (wr := [(o, .inl (dA 2, 1, .inr (.inl og)))]) (rnV (As := []) (rest := [.int 0, .ref o]) hx hb hml hown hE hK (hN _ _ hS) hPc hDc ((fun (_ : Launch) (_ : va_G) (_ : Nat → ClassId) (sz9 : Nat) (_ : Nat) (_ : Nat → Nat) (_ : VS) => hc9 sz9) l D dA H.size h ad x) (q0 := 0) rfl rfl w409 w408 w410 w411 w277 rfl rfl ⟨⟨by decide, by decide⟩, rfl⟩ ⟨(by first | exact Nat.le_of_ble_eq_true rfl | (dsimp only; omega)), (by first | exact Nat.le_of_ble_eq_true rfl | (dsimp only; omega))⟩ rfl hl.1 rfl (by first | exact Nat.le_of_ble_eq_true rfl | (dsimp only; omega)) d_SeriesVaultLaw_sync_3 ⟨(show 0 + mc9 ≤ mc9 by omega), (show 0 + ms9 ≤ ms9 by omega)⟩) hP hD hS hA (fun r1 u2 H locs hp9 hP hD hS => ?_)
  obtain ⟨u8, h9u⟩ : ∃ z9, z9 = u2 := ⟨_, rfl⟩
  subst h9u
  have hP : va_P D vwCl ([(o, .inl (dA 2, 1, .inr (.inl og)))] ++ (VW dA h ad u8)) H := hP
  have hD : va_D A ([(o, .inl (dA 2, 1, .inr (.inl og)))] ++ (VW dA h ad u8)) := hD
  obtain ⟨hp9, f_f_3⟩ := hp9
  replace hp9 : 0 = r1 := Eq.symm hp9
  subst hp9
  refine lv_if_eq hx hb d_SeriesVaultLaw_sync_6 (tgt := 13) rfl (fun _ => ?_) (fun h9 => absurd (by decide) h9)
  refine lv_lconst (v := 0) hx hb d_SeriesVaultLaw_sync_13 (by decide) ?_
  refine nlst (n := 1) hx hb hK hP hD hS (0) 2 rfl rfl (0) (by omega) (by decide) d_SeriesVaultLaw_sync_14 (fun H locs hP hD hS => ?_)
  have hP : va_P D vwCl ([(o, .inl (dA 2, 1, .inr (.inl (va_up og 0 0))))] ++ (VW dA h ad u8)) H := hP
  have hD : va_D A ([(o, .inl (dA 2, 1, .inr (.inl (va_up og 0 0))))] ++ (VW dA h ad u8)) := hD
  refine lv_goto hx hb d_SeriesVaultLaw_sync_15 (tgt := 21) rfl ?_
  refine lv_iconst (v := 0) hx hb d_SeriesVaultLaw_sync_21 (by decide) ?_
  exact rfI hx hb hr hlk hS u8 ⟨rfl, f_f_3⟩ hP hD (show 0 + mc9 ≤ mc9 by omega) (show 0 + ms9 ≤ ms9 by omega) d_SeriesVaultLaw_sync_22
theorem d_SeriesVaultLaw_sync_18 : decode method_12_code 18 = .ok (.astore_n 2, 1) := by decide +kernel
theorem d_SeriesVaultLaw_sync_19 : decode method_12_code 19 = .ok (.iconst 1, 1) := by decide +kernel
theorem d_SeriesVaultLaw_sync_20 : decode method_12_code 20 = .ok (.ireturn, 1) := by decide +kernel
set_option maxHeartbeats 4000000 in
set_option maxRecDepth 100000 in
theorem k8_sync_1 (l : Launch) (D : va_G) (dA : Nat → ClassId) (sz : Nat) (h : Nat) (ad : Nat → Nat) (o : Nat) (og : Nat → Int64) (x : VS) (F9 : VS → Prop) (fr : Nat) (lo : Nat) (mc9 : Nat) (ms9 : Nat) (hc9 : ∀ sz : Nat, mX l ⟨"SeriesVault", "sync", "()Z"⟩ [Cond.code ⟨"SeriesVault", "sync", "()Z"⟩ prog_1_method_22_code 1 (some FieldType.boolean)] { frames := fr, cells := mc9, slots := ms9, locals := lo } (pC D dA [.ref h] (VW dA h ad x) sz) "java/lang/IllegalStateException" (fun st9 t9 => va_F (va_A (VW dA h ad x) sz) st9 t9 ∧ ∃ u9 : VS, F9 u9 ∧ bW D (va_A (VW dA h ad x) sz) (VW dA h ad u9) t9) mc9 ms9 (va_A (VW dA h ad x) sz)) : Met l ⟨"SeriesVaultLaw", "sync", "(LSeriesVault;[J)I"⟩ [Cond.codeWith ⟨"SeriesVaultLaw", "sync", "(LSeriesVault;[J)I"⟩ method_12_code 3 (some FieldType.int) [(0, 15, 18, 29)]] { frames := fr + 1, cells := mc9, slots := ms9, locals := lo + 20 } (pC D dA [.ref h, .ref o] ([(o, .inl (dA 2, 1, .inr (.inl og)))] ++ (VW dA h ad x)) sz) (va_Qi (fun (r9 : Int32) (u9 : VS) => r9 = 1 ∧ F9 u9) (fun (u9 : VS) t9 => bW D (va_A ([(o, .inl (dA 2, 1, .inr (.inl og)))] ++ (VW dA h ad x)) sz) ([(o, .inl (dA 2, 1, .inr (.inl og)))] ++ (VW dA h ad u9)) t9) (va_A ([(o, .inl (dA 2, 1, .inr (.inl og)))] ++ (VW dA h ad x)) sz)) mc9 ms9 (va_A ([(o, .inl (dA 2, 1, .inr (.inl og)))] ++ (VW dA h ad x)) sz) := by
  refine mkW (y := ⟨"SeriesVaultLaw", "sync", "(LSeriesVault;[J)I"⟩) (cc := method_12_code) (maxL := 3) (av := [.ref h, .ref o]) (ws := [(o, .inl (dA 2, 1, .inr (.inl og)))] ++ (VW dA h ad x)) (sz := sz) (Qc := fun A => va_Qi (fun (r9 : Int32) (u9 : VS) => r9 = 1 ∧ F9 u9) (fun (u9 : VS) t9 => bW D A ([(o, .inl (dA 2, 1, .inr (.inl og)))] ++ (VW dA h ad u9)) t9) A) (by decide) (Nat.le_of_ble_eq_true rfl) ?_
  intro A p e s m below meth c ls hsz htab hB
  obtain ⟨hx, hb, hr, hml, hown, hin, hlk, hE, hK, hP, hD, hS, hA, hN, hl⟩ := hB
  have hown : s.vm.findClass "SeriesVaultLaw" = some m.cls := hown
  have hl : lv_has ls 3 [(0, .ref h), (1, .ref o)] := hl
  obtain ⟨H, hH⟩ : ∃ z, z = s.heap := ⟨_, rfl⟩
  have hP : va_P D vwCl ([(o, .inl (dA 2, 1, .inr (.inl og)))] ++ (VW dA h ad x)) H := by rw [hH]; exact hP
  have hS : va_S A s.heap H [] := by rw [hH]; exact hS
  rw [← hH]
  refine lv_aload_n hx hb d_SeriesVaultLaw_sync_0 rfl (lv_at hl 1 rfl) ?_
  refine lv_iconst (v := 0) hx hb d_SeriesVaultLaw_sync_1 (by decide) ?_
  refine lv_aload_n hx hb d_SeriesVaultLaw_sync_2 rfl (lv_at hl 0 rfl) ?_
  refine xkV (S := VS) (F := F9) (w1 := fun u => VW dA h ad u) (wr := [(o, .inl (dA 2, 1, .inr (.inl og)))]) (As := []) (rest := [.int 0, .ref o]) hx hb hml hown hE hK (hN _ _ hS) (hc9 H.size) (q0 := 0) rfl rfl w409 w408 w410 w411 w277 rfl rfl ⟨⟨by decide, by decide⟩, rfl⟩ ⟨(by first | exact Nat.le_of_ble_eq_true rfl | (dsimp only; omega)), (by first | exact Nat.le_of_ble_eq_true rfl | (dsimp only; omega))⟩ rfl hl.1 rfl (by first | exact Nat.le_of_ble_eq_true rfl | (dsimp only; omega)) d_SeriesVaultLaw_sync_3 ⟨(show 0 + mc9 ≤ mc9 by omega), (show 0 + ms9 ≤ ms9 by omega)⟩ hP hD hS hA (fun u2 xa1 ce H locs hf9 hP hD hS hce hcv hcl => ?_)
  have hP : va_P D vwCl ([(o, .inl (dA 2, 1, .inr (.inl og)))] ++ (VW dA h ad u2)) H := hP
  have hD : va_D A ([(o, .inl (dA 2, 1, .inr (.inl og)))] ++ (VW dA h ad u2)) := hD
  refine xCatch (E := "java/lang/IllegalStateException") hown hE [] ⟨0, 15, 18, 29⟩ [] htab (fun _ h => absurd h List.not_mem_nil) (by decide) (by decide) w363 w289 hce hcv hcl ?_
  refine lv_astore_n hx hb d_SeriesVaultLaw_sync_18 rfl hl (by decide) rfl (fun ls hl => ?_)
  have hl : lv_has ls 3 [(2, .ref xa1), (0, .ref h), (1, .ref o)] := hl
  refine lv_iconst (v := 1) hx hb d_SeriesVaultLaw_sync_19 (by decide) ?_
  exact rfI hx hb hr hlk hS u2 ⟨rfl, hf9⟩ hP hD (show 0 + mc9 ≤ mc9 by omega) (show 0 + ms9 ≤ ms9 by omega) d_SeriesVaultLaw_sync_20
set_option maxHeartbeats 4000000 in
set_option maxRecDepth 100000 in
theorem k8_flush (l : Launch) (D : va_G) (dA : Nat → ClassId) (sz : Nat) (h : Nat) (ad : Nat → Nat) (o : Nat) (og : Nat → Int64) (x : VS) (v9 : Int32) (F9 : VS → Prop) (fr : Nat) (lo : Nat) (mc9 : Nat) (ms9 : Nat) (hc9 : ∀ sz : Nat, Met l ⟨"SeriesVault", "flush", "()I"⟩ [Cond.code ⟨"SeriesVault", "flush", "()I"⟩ prog_1_method_36_code 4 (some FieldType.int)] { frames := fr, cells := mc9, slots := ms9, locals := lo } (pC D dA [.ref h] (VW dA h ad x) sz) (va_Qi (fun (r9 : Int32) (u9 : VS) => r9 = v9 ∧ F9 u9) (fun (u9 : VS) t9 => bW D (va_A (VW dA h ad x) sz) (VW dA h ad u9) t9) (va_A (VW dA h ad x) sz)) mc9 ms9 (va_A (VW dA h ad x) sz)) : Met l ⟨"SeriesVaultLaw", "flush", "(LSeriesVault;[J)I"⟩ [Cond.codeWith ⟨"SeriesVaultLaw", "flush", "(LSeriesVault;[J)I"⟩ method_13_code 3 (some FieldType.int) [(0, 8, 11, 29), (0, 8, 14, 13)]] { frames := fr + 1, cells := mc9, slots := ms9, locals := lo + 23 } (pC D dA [.ref h, .ref o] ([(o, .inl (dA 2, 1, .inr (.inl og)))] ++ (VW dA h ad x)) sz) (va_Qi (fun (r9 : Int32) (u9 : VS) => r9 = 0 ∧ F9 u9) (fun (u9 : VS) t9 => bW D (va_A ([(o, .inl (dA 2, 1, .inr (.inl og)))] ++ (VW dA h ad x)) sz) ([(o, .inl (dA 2, 1, .inr (.inl (va_up og 0 (v9.toInt64)))))] ++ (VW dA h ad u9)) t9) (va_A ([(o, .inl (dA 2, 1, .inr (.inl og)))] ++ (VW dA h ad x)) sz)) mc9 ms9 (va_A ([(o, .inl (dA 2, 1, .inr (.inl og)))] ++ (VW dA h ad x)) sz) := by
  refine mkW (y := ⟨"SeriesVaultLaw", "flush", "(LSeriesVault;[J)I"⟩) (cc := method_13_code) (maxL := 3) (av := [.ref h, .ref o]) (ws := [(o, .inl (dA 2, 1, .inr (.inl og)))] ++ (VW dA h ad x)) (sz := sz) (Qc := fun A => va_Qi (fun (r9 : Int32) (u9 : VS) => r9 = 0 ∧ F9 u9) (fun (u9 : VS) t9 => bW D A ([(o, .inl (dA 2, 1, .inr (.inl (va_up og 0 (v9.toInt64)))))] ++ (VW dA h ad u9)) t9) A) (by decide) (Nat.le_of_ble_eq_true rfl) ?_
  intro A p e s m below meth c ls hsz htab hB
  obtain ⟨hx, hb, hr, hml, hown, hin, hlk, hE, hK, hP, hD, hS, hA, hN, hl⟩ := hB
  have hown : s.vm.findClass "SeriesVaultLaw" = some m.cls := hown
  have hl : lv_has ls 3 [(0, .ref h), (1, .ref o)] := hl
  obtain ⟨H, hH⟩ : ∃ z, z = s.heap := ⟨_, rfl⟩
  have hP : va_P D vwCl ([(o, .inl (dA 2, 1, .inr (.inl og)))] ++ (VW dA h ad x)) H := by rw [hH]; exact hP
  have hS : va_S A s.heap H [] := by rw [hH]; exact hS
  rw [← hH]
  refine lv_aload_n hx hb d_SeriesVaultLaw_flush_0 rfl (lv_at hl 1 rfl) ?_
  refine lv_iconst (v := 0) hx hb d_SeriesVaultLaw_flush_1 (by decide) ?_
  refine lv_aload_n hx hb d_SeriesVaultLaw_flush_2 rfl (lv_at hl 0 rfl) ?_
  have hPc : va_P D vwCl (VW dA h ad x) H := spP (wr := [(o, .inl (dA 2, 1, .inr (.inl og)))]) hP
  have hDc : va_D A (VW dA h ad x) := spD (wr := [(o, .inl (dA 2, 1, .inr (.inl og)))]) hD
  refine jkI (wr := [(o, .inl (dA 2, 1, .inr (.inl og)))]) (rnV (As := []) (rest := [.int 0, .ref o]) hx hb hml hown hE hK (hN _ _ hS) hPc hDc ((fun (_ : Launch) (_ : va_G) (_ : Nat → ClassId) (sz9 : Nat) (_ : Nat) (_ : Nat → Nat) (_ : VS) => hc9 sz9) l D dA H.size h ad x) (q0 := 0) rfl rfl w413 w412 w414 w415 w277 rfl rfl ⟨⟨by decide, by decide⟩, rfl⟩ ⟨(by first | exact Nat.le_of_ble_eq_true rfl | (dsimp only; omega)), (by first | exact Nat.le_of_ble_eq_true rfl | (dsimp only; omega))⟩ rfl hl.1 rfl (by first | exact Nat.le_of_ble_eq_true rfl | (dsimp only; omega)) d_SeriesVaultLaw_flush_3 ⟨(show 0 + mc9 ≤ mc9 by omega), (show 0 + ms9 ≤ ms9 by omega)⟩) hP hD hS hA (fun r1 u2 H locs hp9 hP hD hS => ?_)
  obtain ⟨u8, h9u⟩ : ∃ z9, z9 = u2 := ⟨_, rfl⟩
  subst h9u
  have hP : va_P D vwCl ([(o, .inl (dA 2, 1, .inr (.inl og)))] ++ (VW dA h ad u8)) H := hP
  have hD : va_D A ([(o, .inl (dA 2, 1, .inr (.inl og)))] ++ (VW dA h ad u8)) := hD
  obtain ⟨hp9, f_f_3⟩ := hp9
  replace hp9 : v9 = r1 := Eq.symm hp9
  subst hp9
  refine lv_i2l hx hb d_SeriesVaultLaw_flush_6 rfl ?_
  refine nlst (n := 1) hx hb hK hP hD hS (0) 2 rfl rfl (0) (by omega) (by decide) d_SeriesVaultLaw_flush_7 (fun H locs hP hD hS => ?_)
  have hP : va_P D vwCl ([(o, .inl (dA 2, 1, .inr (.inl (va_up og 0 v9.toInt64))))] ++ (VW dA h ad u8)) H := hP
  have hD : va_D A ([(o, .inl (dA 2, 1, .inr (.inl (va_up og 0 v9.toInt64))))] ++ (VW dA h ad u8)) := hD
  refine lv_goto hx hb d_SeriesVaultLaw_flush_8 (tgt := 17) rfl ?_
  refine lv_iconst (v := 0) hx hb d_SeriesVaultLaw_flush_17 (by decide) ?_
  exact rfI hx hb hr hlk hS u8 ⟨rfl, f_f_3⟩ hP hD (show 0 + mc9 ≤ mc9 by omega) (show 0 + ms9 ≤ ms9 by omega) d_SeriesVaultLaw_flush_18
theorem d_SeriesVaultLaw_flush_11 : decode method_13_code 11 = .ok (.astore_n 2, 1) := by decide +kernel
theorem d_SeriesVaultLaw_flush_12 : decode method_13_code 12 = .ok (.iconst 1, 1) := by decide +kernel
theorem d_SeriesVaultLaw_flush_13 : decode method_13_code 13 = .ok (.ireturn, 1) := by decide +kernel
set_option maxHeartbeats 4000000 in
set_option maxRecDepth 100000 in
theorem k8_flush_1 (l : Launch) (D : va_G) (dA : Nat → ClassId) (sz : Nat) (h : Nat) (ad : Nat → Nat) (o : Nat) (og : Nat → Int64) (x : VS) (F9 : VS → Prop) (fr : Nat) (lo : Nat) (mc9 : Nat) (ms9 : Nat) (hc9 : ∀ sz : Nat, mX l ⟨"SeriesVault", "flush", "()I"⟩ [Cond.code ⟨"SeriesVault", "flush", "()I"⟩ prog_1_method_36_code 4 (some FieldType.int)] { frames := fr, cells := mc9, slots := ms9, locals := lo } (pC D dA [.ref h] (VW dA h ad x) sz) "java/lang/IllegalStateException" (fun st9 t9 => va_F (va_A (VW dA h ad x) sz) st9 t9 ∧ ∃ u9 : VS, F9 u9 ∧ bW D (va_A (VW dA h ad x) sz) (VW dA h ad u9) t9) mc9 ms9 (va_A (VW dA h ad x) sz)) : Met l ⟨"SeriesVaultLaw", "flush", "(LSeriesVault;[J)I"⟩ [Cond.codeWith ⟨"SeriesVaultLaw", "flush", "(LSeriesVault;[J)I"⟩ method_13_code 3 (some FieldType.int) [(0, 8, 11, 29), (0, 8, 14, 13)]] { frames := fr + 1, cells := mc9, slots := ms9, locals := lo + 23 } (pC D dA [.ref h, .ref o] ([(o, .inl (dA 2, 1, .inr (.inl og)))] ++ (VW dA h ad x)) sz) (va_Qi (fun (r9 : Int32) (u9 : VS) => r9 = 1 ∧ F9 u9) (fun (u9 : VS) t9 => bW D (va_A ([(o, .inl (dA 2, 1, .inr (.inl og)))] ++ (VW dA h ad x)) sz) ([(o, .inl (dA 2, 1, .inr (.inl og)))] ++ (VW dA h ad u9)) t9) (va_A ([(o, .inl (dA 2, 1, .inr (.inl og)))] ++ (VW dA h ad x)) sz)) mc9 ms9 (va_A ([(o, .inl (dA 2, 1, .inr (.inl og)))] ++ (VW dA h ad x)) sz) := by
  refine mkW (y := ⟨"SeriesVaultLaw", "flush", "(LSeriesVault;[J)I"⟩) (cc := method_13_code) (maxL := 3) (av := [.ref h, .ref o]) (ws := [(o, .inl (dA 2, 1, .inr (.inl og)))] ++ (VW dA h ad x)) (sz := sz) (Qc := fun A => va_Qi (fun (r9 : Int32) (u9 : VS) => r9 = 1 ∧ F9 u9) (fun (u9 : VS) t9 => bW D A ([(o, .inl (dA 2, 1, .inr (.inl og)))] ++ (VW dA h ad u9)) t9) A) (by decide) (Nat.le_of_ble_eq_true rfl) ?_
  intro A p e s m below meth c ls hsz htab hB
  obtain ⟨hx, hb, hr, hml, hown, hin, hlk, hE, hK, hP, hD, hS, hA, hN, hl⟩ := hB
  have hown : s.vm.findClass "SeriesVaultLaw" = some m.cls := hown
  have hl : lv_has ls 3 [(0, .ref h), (1, .ref o)] := hl
  obtain ⟨H, hH⟩ : ∃ z, z = s.heap := ⟨_, rfl⟩
  have hP : va_P D vwCl ([(o, .inl (dA 2, 1, .inr (.inl og)))] ++ (VW dA h ad x)) H := by rw [hH]; exact hP
  have hS : va_S A s.heap H [] := by rw [hH]; exact hS
  rw [← hH]
  refine lv_aload_n hx hb d_SeriesVaultLaw_flush_0 rfl (lv_at hl 1 rfl) ?_
  refine lv_iconst (v := 0) hx hb d_SeriesVaultLaw_flush_1 (by decide) ?_
  refine lv_aload_n hx hb d_SeriesVaultLaw_flush_2 rfl (lv_at hl 0 rfl) ?_
  refine xkV (S := VS) (F := F9) (w1 := fun u => VW dA h ad u) (wr := [(o, .inl (dA 2, 1, .inr (.inl og)))]) (As := []) (rest := [.int 0, .ref o]) hx hb hml hown hE hK (hN _ _ hS) (hc9 H.size) (q0 := 0) rfl rfl w413 w412 w414 w415 w277 rfl rfl ⟨⟨by decide, by decide⟩, rfl⟩ ⟨(by first | exact Nat.le_of_ble_eq_true rfl | (dsimp only; omega)), (by first | exact Nat.le_of_ble_eq_true rfl | (dsimp only; omega))⟩ rfl hl.1 rfl (by first | exact Nat.le_of_ble_eq_true rfl | (dsimp only; omega)) d_SeriesVaultLaw_flush_3 ⟨(show 0 + mc9 ≤ mc9 by omega), (show 0 + ms9 ≤ ms9 by omega)⟩ hP hD hS hA (fun u2 xa1 ce H locs hf9 hP hD hS hce hcv hcl => ?_)
  have hP : va_P D vwCl ([(o, .inl (dA 2, 1, .inr (.inl og)))] ++ (VW dA h ad u2)) H := hP
  have hD : va_D A ([(o, .inl (dA 2, 1, .inr (.inl og)))] ++ (VW dA h ad u2)) := hD
  refine xCatch (E := "java/lang/IllegalStateException") hown hE [] ⟨0, 8, 11, 29⟩ [⟨0, 8, 14, 13⟩] htab (fun _ h => absurd h List.not_mem_nil) (by decide) (by decide) w363 w289 hce hcv hcl ?_
  refine lv_astore_n hx hb d_SeriesVaultLaw_flush_11 rfl hl (by decide) rfl (fun ls hl => ?_)
  have hl : lv_has ls 3 [(2, .ref xa1), (0, .ref h), (1, .ref o)] := hl
  refine lv_iconst (v := 1) hx hb d_SeriesVaultLaw_flush_12 (by decide) ?_
  exact rfI hx hb hr hlk hS u2 ⟨rfl, hf9⟩ hP hD (show 0 + mc9 ≤ mc9 by omega) (show 0 + ms9 ≤ ms9 by omega) d_SeriesVaultLaw_flush_13
theorem d_SeriesVaultLaw_flush_14 : decode method_13_code 14 = .ok (.astore_n 2, 1) := by decide +kernel
theorem d_SeriesVaultLaw_flush_15 : decode method_13_code 15 = .ok (.iconst 2, 1) := by decide +kernel
theorem d_SeriesVaultLaw_flush_16 : decode method_13_code 16 = .ok (.ireturn, 1) := by decide +kernel
set_option maxHeartbeats 4000000 in
set_option maxRecDepth 100000 in
theorem k8_flush_2 (l : Launch) (D : va_G) (dA : Nat → ClassId) (sz : Nat) (h : Nat) (ad : Nat → Nat) (o : Nat) (og : Nat → Int64) (x : VS) (F9 : VS → Prop) (fr : Nat) (lo : Nat) (mc9 : Nat) (ms9 : Nat) (hc9 : ∀ sz : Nat, mX l ⟨"SeriesVault", "flush", "()I"⟩ [Cond.code ⟨"SeriesVault", "flush", "()I"⟩ prog_1_method_36_code 4 (some FieldType.int)] { frames := fr, cells := mc9, slots := ms9, locals := lo } (pC D dA [.ref h] (VW dA h ad x) sz) "java/lang/UnsupportedOperationException" (fun st9 t9 => va_F (va_A (VW dA h ad x) sz) st9 t9 ∧ ∃ u9 : VS, F9 u9 ∧ bW D (va_A (VW dA h ad x) sz) (VW dA h ad u9) t9) mc9 ms9 (va_A (VW dA h ad x) sz)) : Met l ⟨"SeriesVaultLaw", "flush", "(LSeriesVault;[J)I"⟩ [Cond.codeWith ⟨"SeriesVaultLaw", "flush", "(LSeriesVault;[J)I"⟩ method_13_code 3 (some FieldType.int) [(0, 8, 11, 29), (0, 8, 14, 13)]] { frames := fr + 1, cells := mc9, slots := ms9, locals := lo + 23 } (pC D dA [.ref h, .ref o] ([(o, .inl (dA 2, 1, .inr (.inl og)))] ++ (VW dA h ad x)) sz) (va_Qi (fun (r9 : Int32) (u9 : VS) => r9 = 2 ∧ F9 u9) (fun (u9 : VS) t9 => bW D (va_A ([(o, .inl (dA 2, 1, .inr (.inl og)))] ++ (VW dA h ad x)) sz) ([(o, .inl (dA 2, 1, .inr (.inl og)))] ++ (VW dA h ad u9)) t9) (va_A ([(o, .inl (dA 2, 1, .inr (.inl og)))] ++ (VW dA h ad x)) sz)) mc9 ms9 (va_A ([(o, .inl (dA 2, 1, .inr (.inl og)))] ++ (VW dA h ad x)) sz) := by
  refine mkW (y := ⟨"SeriesVaultLaw", "flush", "(LSeriesVault;[J)I"⟩) (cc := method_13_code) (maxL := 3) (av := [.ref h, .ref o]) (ws := [(o, .inl (dA 2, 1, .inr (.inl og)))] ++ (VW dA h ad x)) (sz := sz) (Qc := fun A => va_Qi (fun (r9 : Int32) (u9 : VS) => r9 = 2 ∧ F9 u9) (fun (u9 : VS) t9 => bW D A ([(o, .inl (dA 2, 1, .inr (.inl og)))] ++ (VW dA h ad u9)) t9) A) (by decide) (Nat.le_of_ble_eq_true rfl) ?_
  intro A p e s m below meth c ls hsz htab hB
  obtain ⟨hx, hb, hr, hml, hown, hin, hlk, hE, hK, hP, hD, hS, hA, hN, hl⟩ := hB
  have hown : s.vm.findClass "SeriesVaultLaw" = some m.cls := hown
  have hl : lv_has ls 3 [(0, .ref h), (1, .ref o)] := hl
  obtain ⟨H, hH⟩ : ∃ z, z = s.heap := ⟨_, rfl⟩
  have hP : va_P D vwCl ([(o, .inl (dA 2, 1, .inr (.inl og)))] ++ (VW dA h ad x)) H := by rw [hH]; exact hP
  have hS : va_S A s.heap H [] := by rw [hH]; exact hS
  rw [← hH]
  refine lv_aload_n hx hb d_SeriesVaultLaw_flush_0 rfl (lv_at hl 1 rfl) ?_
  refine lv_iconst (v := 0) hx hb d_SeriesVaultLaw_flush_1 (by decide) ?_
  refine lv_aload_n hx hb d_SeriesVaultLaw_flush_2 rfl (lv_at hl 0 rfl) ?_
  refine xkV (S := VS) (F := F9) (w1 := fun u => VW dA h ad u) (wr := [(o, .inl (dA 2, 1, .inr (.inl og)))]) (As := []) (rest := [.int 0, .ref o]) hx hb hml hown hE hK (hN _ _ hS) (hc9 H.size) (q0 := 0) rfl rfl w413 w412 w414 w415 w277 rfl rfl ⟨⟨by decide, by decide⟩, rfl⟩ ⟨(by first | exact Nat.le_of_ble_eq_true rfl | (dsimp only; omega)), (by first | exact Nat.le_of_ble_eq_true rfl | (dsimp only; omega))⟩ rfl hl.1 rfl (by first | exact Nat.le_of_ble_eq_true rfl | (dsimp only; omega)) d_SeriesVaultLaw_flush_3 ⟨(show 0 + mc9 ≤ mc9 by omega), (show 0 + ms9 ≤ ms9 by omega)⟩ hP hD hS hA (fun u2 xa1 ce H locs hf9 hP hD hS hce hcv hcl => ?_)
  have hP : va_P D vwCl ([(o, .inl (dA 2, 1, .inr (.inl og)))] ++ (VW dA h ad u2)) H := hP
  have hD : va_D A ([(o, .inl (dA 2, 1, .inr (.inl og)))] ++ (VW dA h ad u2)) := hD
  refine xCatch (E := "java/lang/UnsupportedOperationException") hown hE [⟨0, 8, 11, 29⟩] ⟨0, 8, 14, 13⟩ [] htab (List.forall_mem_cons.mpr ⟨⟨by decide, "java/lang/IllegalStateException", w363, by decide⟩, fun _ h => absurd h List.not_mem_nil⟩) (by decide) (by decide) w1791 w1150 hce hcv hcl ?_
  refine lv_astore_n hx hb d_SeriesVaultLaw_flush_14 rfl hl (by decide) rfl (fun ls hl => ?_)
  have hl : lv_has ls 3 [(2, .ref xa1), (0, .ref h), (1, .ref o)] := hl
  refine lv_iconst (v := 2) hx hb d_SeriesVaultLaw_flush_15 (by decide) ?_
  exact rfI hx hb hr hlk hS u2 ⟨rfl, hf9⟩ hP hD (show 0 + mc9 ≤ mc9 by omega) (show 0 + ms9 ≤ ms9 by omega) d_SeriesVaultLaw_flush_16
