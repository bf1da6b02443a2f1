theorem d_Arrays_copyOf_317_0 : decode prog_38_method_123_code 0 = .ok (.iload_n 1, 1) := by decide +kernel
theorem d_Arrays_copyOf_317_1 : decode prog_38_method_123_code 1 = .ok (.aload_n 0, 1) := by decide +kernel
theorem d_Arrays_copyOf_317_2 : decode prog_38_method_123_code 2 = .ok (.arraylength, 1) := by decide +kernel
theorem d_Arrays_copyOf_317_3 : decode prog_38_method_123_code 3 = .ok (.if_icmp .ne 11, 3) := by decide +kernel
theorem d_Arrays_copyOf_317_14 : decode prog_38_method_123_code 14 = .ok (.iload_n 1, 1) := by decide +kernel
theorem d_Arrays_copyOf_317_15 : decode prog_38_method_123_code 15 = .ok (.newarray .int, 2) := by decide +kernel
theorem d_Arrays_copyOf_317_17 : decode prog_38_method_123_code 17 = .ok (.astore_n 2, 1) := by decide +kernel
theorem d_Arrays_copyOf_317_18 : decode prog_38_method_123_code 18 = .ok (.aload_n 0, 1) := by decide +kernel
theorem d_Arrays_copyOf_317_19 : decode prog_38_method_123_code 19 = .ok (.iconst 0, 1) := by decide +kernel
theorem d_Arrays_copyOf_317_20 : decode prog_38_method_123_code 20 = .ok (.aload_n 2, 1) := by decide +kernel
theorem d_Arrays_copyOf_317_21 : decode prog_38_method_123_code 21 = .ok (.iconst 0, 1) := by decide +kernel
theorem d_Arrays_copyOf_317_22 : decode prog_38_method_123_code 22 = .ok (.aload_n 0, 1) := by decide +kernel
theorem d_Arrays_copyOf_317_23 : decode prog_38_method_123_code 23 = .ok (.arraylength, 1) := by decide +kernel
theorem d_Arrays_copyOf_317_24 : decode prog_38_method_123_code 24 = .ok (.iload_n 1, 1) := by decide +kernel
theorem d_Arrays_copyOf_317_25 : decode prog_38_method_123_code 25 = .ok (.invokestatic 304, 3) := by decide +kernel
theorem d_Arrays_copyOf_317_28 : decode prog_38_method_123_code 28 = .ok (.invokestatic 150, 3) := by decide +kernel
theorem d_Arrays_copyOf_317_31 : decode prog_38_method_123_code 31 = .ok (.aload_n 2, 1) := by decide +kernel
theorem d_Arrays_copyOf_317_32 : decode prog_38_method_123_code 32 = .ok (.areturn, 1) := by decide +kernel
theorem w1109 : Cond.methodLink "java/util/Arrays" 304 ⟨"java/lang/Math", "min", "(II)I"⟩ ∈ aW := aw_of (tb_2 (List.mem_of_getElem? (i := 141) rfl)) rfl
theorem w1110 : Cond.methodLink "java/util/Arrays" 150 ⟨"java/lang/System", "arraycopy", "(Ljava/lang/Object;ILjava/lang/Object;II)V"⟩ ∈ aW := aw_of (tb_2 (List.mem_of_getElem? (i := 144) rfl)) rfl
set_option maxHeartbeats 4000000 in
set_option maxRecDepth 100000 in
theorem v_copyOfI (l : Launch) (D : va_G) (dA : Nat → ClassId) (sz : Nat) (ws : va_W) (i : Nat) (a : Nat) (n : Nat) (f : Nat → Nat) (k : Nat) (hsrc : ws[i]? = some (a, .inl (dA 1, n, .inl (fun k => nI (f k))))) (h1 : n < k) (h2 : k ≤ 131072) : Met l ⟨"java/util/Arrays", "copyOf", "([II)[I"⟩ [Cond.code ⟨"java/util/Arrays", "copyOf", "([II)[I"⟩ prog_38_method_123_code 3 (some (FieldType.array FieldType.int))] { frames := 1, cells := 1, slots := k, locals := 40 } (pC D dA [.ref a, .int (nI k)] ws sz) (va_Qr (fun (u9 : Unit) => True) (fun (u9 : Unit) (r9 : Nat) t9 => bW D (va_A ws sz) ((r9, .inl (dA 1, k, .inl (fun z9 => nI ((va_cpy f (fun _ => 0) 0 0 (min n k)) z9)))) :: ws) t9) (va_A ws sz)) 1 k (va_A ws sz) := by
  refine mkC (y := ⟨"java/util/Arrays", "copyOf", "([II)[I"⟩) (cc := prog_38_method_123_code) (maxL := 3) (av := [.ref a, .int (nI k)]) (ws := ws) (sz := sz) (Qc := fun A => va_Qr (fun (u9 : Unit) => True) (fun (u9 : Unit) (r9 : Nat) t9 => bW D A ((r9, .inl (dA 1, k, .inl (fun z9 => nI ((va_cpy f (fun _ => 0) 0 0 (min n k)) z9)))) :: ws) t9) A) (by decide) (Nat.le_of_ble_eq_true rfl) ?_
  intro A p e s m below meth c ls hsz hB
  obtain ⟨hx, hb, hr, hml, hown, hin, hlk, hE, hK, hP, hD, hS, hA, hN, hl⟩ := hB
  have hown : s.vm.findClass "java/util/Arrays" = some m.cls := hown
  have hl : lv_has ls 3 [(0, .ref a), (1, .int (nI k))] := hl
  obtain ⟨H, hH⟩ : ∃ z, z = s.heap := ⟨_, rfl⟩
  have hP : va_P D vwCl ws H := by rw [hH]; exact hP
  have hS : va_S A s.heap H [] := by rw [hH]; exact hS
  rw [← hH]
  refine lv_iload_n hx hb d_Arrays_copyOf_317_0 rfl (lv_at hl 1 rfl) ?_
  refine lv_aload_n hx hb d_Arrays_copyOf_317_1 rfl (lv_at hl 0 rfl) ?_
  refine va_alen (v := nI n) hx hb hK hP (i) 1 hsrc rfl rfl d_Arrays_copyOf_317_2 ?_
  refine lv_icmp_ne hx hb d_Arrays_copyOf_317_3 (tgt := 14) rfl (fun g1 => ?_) (fun g1 => ?_)
  rotate_left
  · have g1 := (nI_eq (a := k) (b := n) (by omega) (by omega)).mp g1; exfalso; omega
  have g1 := mt (nI_eq (a := k) (b := n) (by omega) (by omega)).mpr g1
  refine lv_iload_n hx hb d_Arrays_copyOf_317_14 rfl (lv_at hl 1 rfl) ?_
  refine nnA (atype := .int) (ty := .int) (N' := k) (a0 := (k, .inl (fun z9 => nI ((fun _ => 0) z9)))) hx hb hE rfl w184 hK hP hD hS hA 1 rfl (fun _ => rfl) (by omega) (show k * 4 ≤ 536870912 by omega) (show 0 + 1 ≤ 1 by omega) (show 0 + k ≤ k by omega) d_Arrays_copyOf_317_15 (fun q2 H hP hD hS => ?_)
  have hP : va_P D vwCl ([(q2, .inl (dA 1, k, .inl (fun z9 => nI ((fun _ => 0) z9))))] ++ ws) H := hP
  have hD : va_D A ([(q2, .inl (dA 1, k, .inl (fun z9 => nI ((fun _ => 0) z9))))] ++ ws) := hD
  refine lv_astore_n hx hb d_Arrays_copyOf_317_17 rfl hl (by decide) rfl (fun ls hl => ?_)
  have hl : lv_has ls 3 [(2, .ref q2), (0, .ref a), (1, .int (nI k))] := hl
  refine lv_aload_n hx hb d_Arrays_copyOf_317_18 rfl (lv_at hl 1 rfl) ?_
  refine lv_iconst (v := 0) hx hb d_Arrays_copyOf_317_19 (by decide) ?_
  refine lv_aload_n hx hb d_Arrays_copyOf_317_20 rfl (lv_at hl 0 rfl) ?_
  refine lv_iconst (v := 0) hx hb d_Arrays_copyOf_317_21 (by decide) ?_
  refine lv_aload_n hx hb d_Arrays_copyOf_317_22 rfl (lv_at hl 1 rfl) ?_
  refine va_alen (v := nI n) hx hb hK hP (i + 1) 1 hsrc rfl rfl d_Arrays_copyOf_317_23 ?_
  refine lv_iload_n hx hb d_Arrays_copyOf_317_24 rfl (lv_at hl 2 rfl) ?_
  refine va_mmin hx hb (hml.trans hl.1.symm) hown (hE.t w1109 rfl) (hE.t w548 rfl) (hE.t w549 rfl) (hE.t w550 rfl) (Nat.le_of_ble_eq_true rfl) (Nat.le_of_ble_eq_true rfl) (show 0 + 1 ≤ 1 by omega) (show 0 + k ≤ k by omega) d_Arrays_copyOf_317_25 (tpi (y := nI (min n k)) (nI_min (a := n) (b := k) (by omega) (by omega)) ?_)
  refine ncpyi (f := (fun z9 => nI (f z9))) (g := (fun z9 => nI ((fun _ => 0) z9))) (n0 := n) (n1 := k) hx hb (hml.trans hl.1.symm) hown (hE.t w1110 rfl) (hE.t w720 rfl) (hE.t w721 rfl) (hE.t w722 rfl) hK hP hD hS (i + 1) (0) 1 hsrc rfl rfl rfl (0) (0) (min n k) (by omega) (by omega) (by omega) (by omega) (by omega) (fun _ _ => rfl) (Nat.le_of_ble_eq_true rfl) (Nat.le_of_ble_eq_true rfl) d_Arrays_copyOf_317_28 (fun H locs hP hD hS => ?_)
  rw [cpyNI] at hP hD
  have hP : va_P D vwCl ([(q2, .inl (dA 1, k, .inl (fun z9 => nI ((va_cpy f (fun _ => 0) 0 0 (min n k)) z9))))] ++ ws) H := hP
  have hD : va_D A ([(q2, .inl (dA 1, k, .inl (fun z9 => nI ((va_cpy f (fun _ => 0) 0 0 (min n k)) z9))))] ++ ws) := hD
  refine lv_aload_n hx hb d_Arrays_copyOf_317_31 rfl (lv_at hl 0 rfl) ?_
  exact rfR hx hb hr (Or.inr ⟨_, rfl⟩) hlk hS () trivial hP hD (show 0 + 1 ≤ 1 by omega) (show 0 + k ≤ k by omega) d_Arrays_copyOf_317_32
theorem d_Arrays_copyOf_32d_0 : decode prog_38_method_124_code 0 = .ok (.iload_n 1, 1) := by decide +kernel
theorem d_Arrays_copyOf_32d_1 : decode prog_38_method_124_code 1 = .ok (.aload_n 0, 1) := by decide +kernel
theorem d_Arrays_copyOf_32d_2 : decode prog_38_method_124_code 2 = .ok (.arraylength, 1) := by decide +kernel
theorem d_Arrays_copyOf_32d_3 : decode prog_38_method_124_code 3 = .ok (.if_icmp .ne 11, 3) := by decide +kernel
theorem d_Arrays_copyOf_32d_14 : decode prog_38_method_124_code 14 = .ok (.iload_n 1, 1) := by decide +kernel
theorem d_Arrays_copyOf_32d_15 : decode prog_38_method_124_code 15 = .ok (.newarray .long, 2) := by decide +kernel
theorem d_Arrays_copyOf_32d_17 : decode prog_38_method_124_code 17 = .ok (.astore_n 2, 1) := by decide +kernel
theorem d_Arrays_copyOf_32d_18 : decode prog_38_method_124_code 18 = .ok (.aload_n 0, 1) := by decide +kernel
theorem d_Arrays_copyOf_32d_19 : decode prog_38_method_124_code 19 = .ok (.iconst 0, 1) := by decide +kernel
theorem d_Arrays_copyOf_32d_20 : decode prog_38_method_124_code 20 = .ok (.aload_n 2, 1) := by decide +kernel
theorem d_Arrays_copyOf_32d_21 : decode prog_38_method_124_code 21 = .ok (.iconst 0, 1) := by decide +kernel
theorem d_Arrays_copyOf_32d_22 : decode prog_38_method_124_code 22 = .ok (.aload_n 0, 1) := by decide +kernel
theorem d_Arrays_copyOf_32d_23 : decode prog_38_method_124_code 23 = .ok (.arraylength, 1) := by decide +kernel
theorem d_Arrays_copyOf_32d_24 : decode prog_38_method_124_code 24 = .ok (.iload_n 1, 1) := by decide +kernel
theorem d_Arrays_copyOf_32d_25 : decode prog_38_method_124_code 25 = .ok (.invokestatic 304, 3) := by decide +kernel
theorem d_Arrays_copyOf_32d_28 : decode prog_38_method_124_code 28 = .ok (.invokestatic 150, 3) := by decide +kernel
theorem d_Arrays_copyOf_32d_31 : decode prog_38_method_124_code 31 = .ok (.aload_n 2, 1) := by decide +kernel
theorem d_Arrays_copyOf_32d_32 : decode prog_38_method_124_code 32 = .ok (.areturn, 1) := by decide +kernel
set_option maxHeartbeats 4000000 in
set_option maxRecDepth 100000 in
theorem v_copyOfJ (l : Launch) (D : va_G) (dA : Nat → ClassId) (sz : Nat) (ws : va_W) (i : Nat) (a : Nat) (n : Nat) (f : Nat → Int64) (k : Nat) (hsrc : ws[i]? = some (a, .inl (dA 2, n, .inr (.inl f)))) (h1 : n < k) (h2 : k ≤ 131072) : Met l ⟨"java/util/Arrays", "copyOf", "([JI)[J"⟩ [Cond.code ⟨"java/util/Arrays", "copyOf", "([JI)[J"⟩ prog_38_method_124_code 3 (some (FieldType.array FieldType.long))] { frames := 1, cells := 1, slots := k, locals := 40 } (pC D dA [.ref a, .int (nI k)] ws sz) (va_Qr (fun (u9 : Unit) => True) (fun (u9 : Unit) (r9 : Nat) t9 => bW D (va_A ws sz) ((r9, .inl (dA 2, k, .inr (.inl (va_cpy f (fun _ => 0) 0 0 (min n k))))) :: ws) t9) (va_A ws sz)) 1 k (va_A ws sz) := by
  refine mkC (y := ⟨"java/util/Arrays", "copyOf", "([JI)[J"⟩) (cc := prog_38_method_124_code) (maxL := 3) (av := [.ref a, .int (nI k)]) (ws := ws) (sz := sz) (Qc := fun A => va_Qr (fun (u9 : Unit) => True) (fun (u9 : Unit) (r9 : Nat) t9 => bW D A ((r9, .inl (dA 2, k, .inr (.inl (va_cpy f (fun _ => 0) 0 0 (min n k))))) :: ws) t9) A) (by decide) (Nat.le_of_ble_eq_true rfl) ?_
  intro A p e s m below meth c ls hsz hB
  obtain ⟨hx, hb, hr, hml, hown, hin, hlk, hE, hK, hP, hD, hS, hA, hN, hl⟩ := hB
  have hown : s.vm.findClass "java/util/Arrays" = some m.cls := hown
  have hl : lv_has ls 3 [(0, .ref a), (1, .int (nI k))] := hl
  obtain ⟨H, hH⟩ : ∃ z, z = s.heap := ⟨_, rfl⟩
  have hP : va_P D vwCl ws H := by rw [hH]; exact hP
  have hS : va_S A s.heap H [] := by rw [hH]; exact hS
  rw [← hH]
  refine lv_iload_n hx hb d_Arrays_copyOf_32d_0 rfl (lv_at hl 1 rfl) ?_
  refine lv_aload_n hx hb d_Arrays_copyOf_32d_1 rfl (lv_at hl 0 rfl) ?_
  refine va_alen (v := nI n) hx hb hK hP (i) 2 hsrc rfl rfl d_Arrays_copyOf_32d_2 ?_
  refine lv_icmp_ne hx hb d_Arrays_copyOf_32d_3 (tgt := 14) rfl (fun g1 => ?_) (fun g1 => ?_)
  rotate_left
  · have g1 := (nI_eq (a := k) (b := n) (by omega) (by omega)).mp g1; exfalso; omega
  have g1 := mt (nI_eq (a := k) (b := n) (by omega) (by omega)).mpr g1
  refine lv_iload_n hx hb d_Arrays_copyOf_32d_14 rfl (lv_at hl 1 rfl) ?_
  refine nnA (atype := .long) (ty := .long) (N' := k) (a0 := (k, .inr (.inl (fun _ => 0)))) hx hb hE rfl w186 hK hP hD hS hA 2 rfl (fun _ => rfl) (by omega) (show k * 8 ≤ 536870912 by omega) (show 0 + 1 ≤ 1 by omega) (show 0 + k ≤ k by omega) d_Arrays_copyOf_32d_15 (fun q2 H hP hD hS => ?_)
  have hP : va_P D vwCl ([(q2, .inl (dA 2, k, .inr (.inl (fun _ => 0))))] ++ ws) H := hP
  have hD : va_D A ([(q2, .inl (dA 2, k, .inr (.inl (fun _ => 0))))] ++ ws) := hD
  refine lv_astore_n hx hb d_Arrays_copyOf_32d_17 rfl hl (by decide) rfl (fun ls hl => ?_)
  have hl : lv_has ls 3 [(2, .ref q2), (0, .ref a), (1, .int (nI k))] := hl
  refine lv_aload_n hx hb d_Arrays_copyOf_32d_18 rfl (lv_at hl 1 rfl) ?_
  refine lv_iconst (v := 0) hx hb d_Arrays_copyOf_32d_19 (by decide) ?_
  refine lv_aload_n hx hb d_Arrays_copyOf_32d_20 rfl (lv_at hl 0 rfl) ?_
  refine lv_iconst (v := 0) hx hb d_Arrays_copyOf_32d_21 (by decide) ?_
  refine lv_aload_n hx hb d_Arrays_copyOf_32d_22 rfl (lv_at hl 1 rfl) ?_
  refine va_alen (v := nI n) hx hb hK hP (i + 1) 2 hsrc rfl rfl d_Arrays_copyOf_32d_23 ?_
  refine lv_iload_n hx hb d_Arrays_copyOf_32d_24 rfl (lv_at hl 2 rfl) ?_
  refine va_mmin hx hb (hml.trans hl.1.symm) hown (hE.t w1109 rfl) (hE.t w548 rfl) (hE.t w549 rfl) (hE.t w550 rfl) (Nat.le_of_ble_eq_true rfl) (Nat.le_of_ble_eq_true rfl) (show 0 + 1 ≤ 1 by omega) (show 0 + k ≤ k by omega) d_Arrays_copyOf_32d_25 (tpi (y := nI (min n k)) (nI_min (a := n) (b := k) (by omega) (by omega)) ?_)
  refine ncpyl (f := f) (g := fun _ => 0) (n0 := n) (n1 := k) hx hb (hml.trans hl.1.symm) hown (hE.t w1110 rfl) (hE.t w720 rfl) (hE.t w721 rfl) (hE.t w722 rfl) hK hP hD hS (i + 1) (0) 2 hsrc rfl rfl rfl (0) (0) (min n k) (by omega) (by omega) (by omega) (by omega) (by omega) (fun _ _ => rfl) (Nat.le_of_ble_eq_true rfl) (Nat.le_of_ble_eq_true rfl) d_Arrays_copyOf_32d_28 (fun H locs hP hD hS => ?_)
  have hP : va_P D vwCl ([(q2, .inl (dA 2, k, .inr (.inl (va_cpy f (fun _ => 0) 0 0 (min n k)))))] ++ ws) H := hP
  have hD : va_D A ([(q2, .inl (dA 2, k, .inr (.inl (va_cpy f (fun _ => 0) 0 0 (min n k)))))] ++ ws) := hD
  refine lv_aload_n hx hb d_Arrays_copyOf_32d_31 rfl (lv_at hl 0 rfl) ?_
  exact rfR hx hb hr (Or.inr ⟨_, rfl⟩) hlk hS () trivial hP hD (show 0 + 1 ≤ 1 by omega) (show 0 + k ≤ k by omega) d_Arrays_copyOf_32d_32
theorem d_Arrays_copyOf_27d_0 : decode prog_38_method_121_code 0 = .ok (.iload_n 1, 1) := by decide +kernel
theorem d_Arrays_copyOf_27d_1 : decode prog_38_method_121_code 1 = .ok (.aload_n 0, 1) := by decide +kernel
theorem d_Arrays_copyOf_27d_2 : decode prog_38_method_121_code 2 = .ok (.arraylength, 1) := by decide +kernel
theorem d_Arrays_copyOf_27d_3 : decode prog_38_method_121_code 3 = .ok (.if_icmp .ne 11, 3) := by decide +kernel
theorem d_Arrays_copyOf_27d_14 : decode prog_38_method_121_code 14 = .ok (.iload_n 1, 1) := by decide +kernel
theorem d_Arrays_copyOf_27d_15 : decode prog_38_method_121_code 15 = .ok (.newarray .byte, 2) := by decide +kernel
theorem d_Arrays_copyOf_27d_17 : decode prog_38_method_121_code 17 = .ok (.astore_n 2, 1) := by decide +kernel
theorem d_Arrays_copyOf_27d_18 : decode prog_38_method_121_code 18 = .ok (.aload_n 0, 1) := by decide +kernel
theorem d_Arrays_copyOf_27d_19 : decode prog_38_method_121_code 19 = .ok (.iconst 0, 1) := by decide +kernel
theorem d_Arrays_copyOf_27d_20 : decode prog_38_method_121_code 20 = .ok (.aload_n 2, 1) := by decide +kernel
theorem d_Arrays_copyOf_27d_21 : decode prog_38_method_121_code 21 = .ok (.iconst 0, 1) := by decide +kernel
theorem d_Arrays_copyOf_27d_22 : decode prog_38_method_121_code 22 = .ok (.aload_n 0, 1) := by decide +kernel
theorem d_Arrays_copyOf_27d_23 : decode prog_38_method_121_code 23 = .ok (.arraylength, 1) := by decide +kernel
theorem d_Arrays_copyOf_27d_24 : decode prog_38_method_121_code 24 = .ok (.iload_n 1, 1) := by decide +kernel
theorem d_Arrays_copyOf_27d_25 : decode prog_38_method_121_code 25 = .ok (.invokestatic 304, 3) := by decide +kernel
theorem d_Arrays_copyOf_27d_28 : decode prog_38_method_121_code 28 = .ok (.invokestatic 150, 3) := by decide +kernel
theorem d_Arrays_copyOf_27d_31 : decode prog_38_method_121_code 31 = .ok (.aload_n 2, 1) := by decide +kernel
theorem d_Arrays_copyOf_27d_32 : decode prog_38_method_121_code 32 = .ok (.areturn, 1) := by decide +kernel
set_option maxHeartbeats 4000000 in
set_option maxRecDepth 100000 in
theorem v_copyOfB (l : Launch) (D : va_G) (dA : Nat → ClassId) (sz : Nat) (ws : va_W) (i : Nat) (a : Nat) (n : Nat) (f : Nat → Int32) (k : Nat) (hsrc : ws[i]? = some (a, .inl (dA 0, n, .inl f))) (h1 : n < k) (h2 : k ≤ 131072) (hby : byteF f) : Met l ⟨"java/util/Arrays", "copyOf", "([BI)[B"⟩ [Cond.code ⟨"java/util/Arrays", "copyOf", "([BI)[B"⟩ prog_38_method_121_code 3 (some (FieldType.array FieldType.byte))] { frames := 1, cells := 1, slots := k, locals := 40 } (pC D dA [.ref a, .int (nI k)] ws sz) (va_Qr (fun (u9 : Unit) => True) (fun (u9 : Unit) (r9 : Nat) t9 => bW D (va_A ws sz) ((r9, .inl (dA 0, k, .inl (va_cpy f (fun _ => 0) 0 0 (min n k)))) :: ws) t9) (va_A ws sz)) 1 k (va_A ws sz) := by
  refine mkC (y := ⟨"java/util/Arrays", "copyOf", "([BI)[B"⟩) (cc := prog_38_method_121_code) (maxL := 3) (av := [.ref a, .int (nI k)]) (ws := ws) (sz := sz) (Qc := fun A => va_Qr (fun (u9 : Unit) => True) (fun (u9 : Unit) (r9 : Nat) t9 => bW D A ((r9, .inl (dA 0, k, .inl (va_cpy f (fun _ => 0) 0 0 (min n k)))) :: ws) t9) A) (by decide) (Nat.le_of_ble_eq_true rfl) ?_
  intro A p e s m below meth c ls hsz hB
  obtain ⟨hx, hb, hr, hml, hown, hin, hlk, hE, hK, hP, hD, hS, hA, hN, hl⟩ := hB
  have hown : s.vm.findClass "java/util/Arrays" = some m.cls := hown
  have hl : lv_has ls 3 [(0, .ref a), (1, .int (nI k))] := hl
  obtain ⟨H, hH⟩ : ∃ z, z = s.heap := ⟨_, rfl⟩
  have hP : va_P D vwCl ws H := by rw [hH]; exact hP
  have hS : va_S A s.heap H [] := by rw [hH]; exact hS
  rw [← hH]
  refine lv_iload_n hx hb d_Arrays_copyOf_27d_0 rfl (lv_at hl 1 rfl) ?_
  refine lv_aload_n hx hb d_Arrays_copyOf_27d_1 rfl (lv_at hl 0 rfl) ?_
  refine va_alen (v := nI n) hx hb hK hP (i) 0 hsrc rfl rfl d_Arrays_copyOf_27d_2 ?_
  refine lv_icmp_ne hx hb d_Arrays_copyOf_27d_3 (tgt := 14) rfl (fun g1 => ?_) (fun g1 => ?_)
  rotate_left
  · have g1 := (nI_eq (a := k) (b := n) (by omega) (by omega)).mp g1; exfalso; omega
  have g1 := mt (nI_eq (a := k) (b := n) (by omega) (by omega)).mpr g1
  refine lv_iload_n hx hb d_Arrays_copyOf_27d_14 rfl (lv_at hl 1 rfl) ?_
  refine nnA (atype := .byte) (ty := .byte) (N' := k) (a0 := (k, .inl (fun _ => 0))) hx hb hE rfl w496 hK hP hD hS hA 0 rfl (fun _ => rfl) (by omega) (show k * 1 ≤ 536870912 by omega) (show 0 + 1 ≤ 1 by omega) (show 0 + k ≤ k by omega) d_Arrays_copyOf_27d_15 (fun q2 H hP hD hS => ?_)
  have hP : va_P D vwCl ([(q2, .inl (dA 0, k, .inl (fun _ => 0)))] ++ ws) H := hP
  have hD : va_D A ([(q2, .inl (dA 0, k, .inl (fun _ => 0)))] ++ ws) := hD
  refine lv_astore_n hx hb d_Arrays_copyOf_27d_17 rfl hl (by decide) rfl (fun ls hl => ?_)
  have hl : lv_has ls 3 [(2, .ref q2), (0, .ref a), (1, .int (nI k))] := hl
  refine lv_aload_n hx hb d_Arrays_copyOf_27d_18 rfl (lv_at hl 1 rfl) ?_
  refine lv_iconst (v := 0) hx hb d_Arrays_copyOf_27d_19 (by decide) ?_
  refine lv_aload_n hx hb d_Arrays_copyOf_27d_20 rfl (lv_at hl 0 rfl) ?_
  refine lv_iconst (v := 0) hx hb d_Arrays_copyOf_27d_21 (by decide) ?_
  refine lv_aload_n hx hb d_Arrays_copyOf_27d_22 rfl (lv_at hl 1 rfl) ?_
  refine va_alen (v := nI n) hx hb hK hP (i + 1) 0 hsrc rfl rfl d_Arrays_copyOf_27d_23 ?_
  refine lv_iload_n hx hb d_Arrays_copyOf_27d_24 rfl (lv_at hl 2 rfl) ?_
  refine va_mmin hx hb (hml.trans hl.1.symm) hown (hE.t w1109 rfl) (hE.t w548 rfl) (hE.t w549 rfl) (hE.t w550 rfl) (Nat.le_of_ble_eq_true rfl) (Nat.le_of_ble_eq_true rfl) (show 0 + 1 ≤ 1 by omega) (show 0 + k ≤ k by omega) d_Arrays_copyOf_27d_25 (tpi (y := nI (min n k)) (nI_min (a := n) (b := k) (by omega) (by omega)) ?_)
  refine ncpyi (f := f) (g := fun _ => 0) (n0 := n) (n1 := k) hx hb (hml.trans hl.1.symm) hown (hE.t w1110 rfl) (hE.t w720 rfl) (hE.t w721 rfl) (hE.t w722 rfl) hK hP hD hS (i + 1) (0) 0 hsrc rfl rfl rfl (0) (0) (min n k) (by omega) (by omega) (by omega) (by omega) (by omega) (fun _ _ => byte_fit hby _) (Nat.le_of_ble_eq_true rfl) (Nat.le_of_ble_eq_true rfl) d_Arrays_copyOf_27d_28 (fun H locs hP hD hS => ?_)
  have hP : va_P D vwCl ([(q2, .inl (dA 0, k, .inl (va_cpy f (fun _ => 0) 0 0 (min n k))))] ++ ws) H := hP
  have hD : va_D A ([(q2, .inl (dA 0, k, .inl (va_cpy f (fun _ => 0) 0 0 (min n k))))] ++ ws) := hD
  refine lv_aload_n hx hb d_Arrays_copyOf_27d_31 rfl (lv_at hl 0 rfl) ?_
  exact rfR hx hb hr (Or.inr ⟨_, rfl⟩) hlk hS () trivial hP hD (show 0 + 1 ≤ 1 by omega) (show 0 + k ≤ k by omega) d_Arrays_copyOf_27d_32
