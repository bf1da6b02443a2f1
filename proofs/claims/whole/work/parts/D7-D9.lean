section
set_option maxHeartbeats 4000000 in
set_option maxRecDepth 100000 in
theorem v_Ladd3_0W (l : Launch) (D : va_G) (dA : Nat → ClassId) (sz : Nat) (e0 mi : Nat) (ws : va_W) (a : Nat) (mc : Int32) (v : Nat) (fs : List Value) (mo : (v, .inr (10, fs)) ∈ ws) : Met l ⟨"java/util/ArrayList", "add", "(Ljava/lang/Object;[Ljava/lang/Object;I)V"⟩ [Cond.code ⟨"java/util/ArrayList", "add", "(Ljava/lang/Object;[Ljava/lang/Object;I)V"⟩ prog_37_method_24_code 4 none] { frames := 3, cells := 1, slots := 10, locals := 57 } (pCy D dA e0 mi [.ref a, .ref v, .ref e0, .int 0] ([(a, .inr (6, [.ref e0, .int 0, .int mc]))] ++ (ws)) sz) (va_Qv (fun (u9 : Nat) => True) (fun (u9 : Nat) t9 => bW D (va_A ([(a, .inr (6, [.ref e0, .int 0, .int mc]))] ++ (ws)) sz) ([(u9, .inl (dA 7, 10, .inr (.inr (.inr (.inr (va_up (fun _ => none) 0 (some v)))))))] ++ ([(a, .inr (6, [.ref u9, .int 1, .int mc]))] ++ (ws))) t9) (va_A ([(a, .inr (6, [.ref e0, .int 0, .int mc]))] ++ (ws)) sz)) 1 10 (va_A ([(a, .inr (6, [.ref e0, .int 0, .int mc]))] ++ (ws)) sz) := by
  refine mkY (y := ⟨"java/util/ArrayList", "add", "(Ljava/lang/Object;[Ljava/lang/Object;I)V"⟩) (cc := prog_37_method_24_code) (maxL := 4) (av := [.ref a, .ref v, .ref e0, .int 0]) (ws := [(a, .inr (6, [.ref e0, .int 0, .int mc]))] ++ (ws)) (sz := sz) (Qc := fun A => va_Qv (fun (u9 : Nat) => True) (fun (u9 : Nat) t9 => bW D A ([(u9, .inl (dA 7, 10, .inr (.inr (.inr (.inr (va_up (fun _ => none) 0 (some v)))))))] ++ ([(a, .inr (6, [.ref u9, .int 1, .int mc]))] ++ (ws))) t9) A) (by decide) (Nat.le_of_ble_eq_true rfl) ?_
  intro A p e s m below meth c ls hsz hZ hT hM hB
  obtain ⟨hx, hb, hr, hml, hown, hin, hlk, hE, hK, hP, hD, hS, hA, hN, hl⟩ := hB
  have hown : s.vm.findClass "java/util/ArrayList" = some m.cls := hown
  have hl : lv_has ls 4 [(0, .ref a), (1, .ref v), (2, .ref e0), (3, .int 0)] := hl
  obtain ⟨H, hH⟩ : ∃ z, z = s.heap := ⟨_, rfl⟩
  have hP : va_P D vwCl ([(a, .inr (6, [.ref e0, .int 0, .int mc]))] ++ (ws)) H := by rw [hH]; exact hP
  have hS : va_S A s.heap H [] := by rw [hH]; exact hS
  rw [← hH]
  refine lv_iload_n hx hb d_L_add_faf_0 rfl (lv_at hl 3 rfl) ?_
  refine lv_aload_n hx hb d_L_add_faf_1 rfl (lv_at hl 2 rfl) ?_
  refine va_tlen (v := 0) hx hb hT hS (by decide) d_L_add_faf_2 ?_
  refine lv_icmp_ne hx hb d_L_add_faf_3 (tgt := 11) rfl (fun h9 => absurd (by decide) h9) (fun _ => ?_)
  refine lv_aload_n hx hb d_L_add_faf_6 rfl (lv_at hl 0 rfl) ?_
  refine jkR (wr := []) (rnVy (As := []) (rest := []) hx hb hml hown hE hK hZ hT hM hS (hN _ _ hS) hP hD (v_Lgrow_0 l D dA H.size e0 mi ws a mc) (q0 := 0) rfl rfl w773 w772 w774 w775 w680 rfl rfl ⟨⟨by decide, by decide⟩, rfl⟩ ⟨(Nat.le_of_ble_eq_true rfl), (Nat.le_of_ble_eq_true rfl)⟩ rfl hl.1 rfl (Nat.le_of_ble_eq_true rfl) d_L_add_faf_7 ⟨(show 0 + 1 ≤ 1 by omega), (show 0 + 10 ≤ 10 by omega)⟩) hP hD hS hA (fun u1 b H locs hp9 hP hD hS => ?_)
  have hP : va_P D vwCl ([(b, .inl (dA 7, 10, .inr (.inr (.inr (.inr (fun _ => none))))))] ++ ([(a, .inr (6, [.ref b, .int 0, .int mc]))] ++ (ws))) H := hP
  have hD : va_D A ([(b, .inl (dA 7, 10, .inr (.inr (.inr (.inr (fun _ => none))))))] ++ ([(a, .inr (6, [.ref b, .int 0, .int mc]))] ++ (ws))) := hD
  refine lv_astore_n hx hb d_L_add_faf_10 rfl hl (by decide) rfl (fun ls hl => ?_)
  have hl : lv_has ls 4 [(2, .ref b), (0, .ref a), (1, .ref v), (3, .int 0)] := hl
  refine lv_aload_n hx hb d_L_add_faf_11 rfl (lv_at hl 0 rfl) ?_
  refine lv_iload_n hx hb d_L_add_faf_12 rfl (lv_at hl 3 rfl) ?_
  refine lv_aload_n hx hb d_L_add_faf_13 rfl (lv_at hl 2 rfl) ?_
  obtain ⟨qp2, ep3⟩ := List.getElem?_of_mem (show ((v, .inr (10, fs)) : Nat × va_E) ∈ [(b, .inl (dA 7, 10, .inr (.inr (.inr (.inr (fun _ => none))))))] ++ ([(a, .inr (6, [.ref b, .int 0, .int mc]))] ++ (ws)) from (List.mem_append_right _ (List.mem_append_right _ mo)))
  refine nqstO (E := "java/lang/Object") (r := ("SeriesVault$Word", TW, 1)) (f := (fun _ => none)) (n := 10) hx hb hK hP hD hS (0) 7 (qp2) 10 rfl rfl (show va_Nw (.castable "SeriesVault$Word" "java/lang/Object") s from hE.1 _ w1456) ep3 rfl (0) (by omega) (by decide) d_L_add_faf_14 (fun H locs hP hD hS => ?_)
  have hP : va_P D vwCl ([(b, .inl (dA 7, 10, .inr (.inr (.inr (.inr (va_up (fun _ => none) 0 (some v)))))))] ++ ([(a, .inr (6, [.ref b, .int 0, .int mc]))] ++ (ws))) H := hP
  have hD : va_D A ([(b, .inl (dA 7, 10, .inr (.inr (.inr (.inr (va_up (fun _ => none) 0 (some v)))))))] ++ ([(a, .inr (6, [.ref b, .int 0, .int mc]))] ++ (ws))) := hD
  refine lv_aload_n hx hb d_L_add_faf_15 rfl (lv_at hl 1 rfl) ?_
  refine lv_iload_n hx hb d_L_add_faf_16 rfl (lv_at hl 3 rfl) ?_
  refine lv_iconst (v := 1) hx hb d_L_add_faf_17 (by decide) ?_
  refine lv_iadd hx hb d_L_add_faf_18 (tpi (y := 1) (by decide) ?_)
  refine tpi (y := 1) (by decide) ?_
  refine pF (v := .int 1) hx hb hown hE hK hP hD hS 1 rfl rfl layL tyL tokL nmL 1 (by decide) w657 rfl rfl rfl (Nat.le_of_ble_eq_true rfl) d_L_add_faf_19 (fun H locs hP hD hS => ?_)
  have hP : va_P D vwCl ([(b, .inl (dA 7, 10, .inr (.inr (.inr (.inr (va_up (fun _ => none) 0 (some v)))))))] ++ ([(a, .inr (6, [.ref b, .int 1, .int mc]))] ++ (ws))) H := hP
  have hD : va_D A ([(b, .inl (dA 7, 10, .inr (.inr (.inr (.inr (va_up (fun _ => none) 0 (some v)))))))] ++ ([(a, .inr (6, [.ref b, .int 1, .int mc]))] ++ (ws))) := hD
  exact rfV hx hb hr hlk hS b trivial hP hD (show 0 + 1 ≤ 1 by omega) (show 0 + 10 ≤ 10 by omega) d_L_add_faf_22
set_option maxHeartbeats 4000000 in
set_option maxRecDepth 100000 in
theorem v_Ladd_0W (l : Launch) (D : va_G) (dA : Nat → ClassId) (sz : Nat) (e0 mi : Nat) (ws : va_W) (a : Nat) (mc : Int32) (v : Nat) (fs : List Value) (mo : (v, .inr (10, fs)) ∈ ws) : Met l ⟨"java/util/ArrayList", "add", "(Ljava/lang/Object;)Z"⟩ [Cond.code ⟨"java/util/ArrayList", "add", "(Ljava/lang/Object;)Z"⟩ prog_37_method_25_code 2 (some FieldType.boolean)] { frames := 4, cells := 1, slots := 10, locals := 80 } (pCy D dA e0 mi [.ref a, .ref v] ([(a, .inr (6, [.ref e0, .int 0, .int mc]))] ++ (ws)) sz) (va_Qi (fun (r9 : Int32) (u9 : Nat) => r9 = 1) (fun (u9 : Nat) t9 => bW D (va_A ([(a, .inr (6, [.ref e0, .int 0, .int mc]))] ++ (ws)) sz) ([(u9, .inl (dA 7, 10, .inr (.inr (.inr (.inr (va_up (fun _ => none) 0 (some v)))))))] ++ ([(a, .inr (6, [.ref u9, .int 1, .int (mc + 1)]))] ++ (ws))) t9) (va_A ([(a, .inr (6, [.ref e0, .int 0, .int mc]))] ++ (ws)) sz)) 1 10 (va_A ([(a, .inr (6, [.ref e0, .int 0, .int mc]))] ++ (ws)) sz) := by
  refine mkY (y := ⟨"java/util/ArrayList", "add", "(Ljava/lang/Object;)Z"⟩) (cc := prog_37_method_25_code) (maxL := 2) (av := [.ref a, .ref v]) (ws := [(a, .inr (6, [.ref e0, .int 0, .int mc]))] ++ (ws)) (sz := sz) (Qc := fun A => va_Qi (fun (r9 : Int32) (u9 : Nat) => r9 = 1) (fun (u9 : Nat) t9 => bW D A ([(u9, .inl (dA 7, 10, .inr (.inr (.inr (.inr (va_up (fun _ => none) 0 (some v)))))))] ++ ([(a, .inr (6, [.ref u9, .int 1, .int (mc + 1)]))] ++ (ws))) t9) A) (by decide) (Nat.le_of_ble_eq_true rfl) ?_
  intro A p e s m below meth c ls hsz hZ hT hM hB
  obtain ⟨hx, hb, hr, hml, hown, hin, hlk, hE, hK, hP, hD, hS, hA, hN, hl⟩ := hB
  have hown : s.vm.findClass "java/util/ArrayList" = some m.cls := hown
  have hl : lv_has ls 2 [(0, .ref a), (1, .ref v)] := hl
  obtain ⟨H, hH⟩ : ∃ z, z = s.heap := ⟨_, rfl⟩
  have hP : va_P D vwCl ([(a, .inr (6, [.ref e0, .int 0, .int mc]))] ++ (ws)) H := by rw [hH]; exact hP
  have hS : va_S A s.heap H [] := by rw [hH]; exact hS
  rw [← hH]
  refine lv_aload_n hx hb d_L_add_9ae_0 rfl (lv_at hl 0 rfl) ?_
  refine lv_dup hx hb d_L_add_9ae_1 rfl ?_
  refine gFU (v := .int mc) hx hb hown hE hK hP 0 rfl rfl layL 2 (by decide) w654 w655 rfl d_L_add_9ae_2 ?_
  refine lv_iconst (v := 1) hx hb d_L_add_9ae_5 (by decide) ?_
  refine lv_iadd hx hb d_L_add_9ae_6 ?_
  refine pFU (v := .int (mc + 1)) hx hb hown hE hK hP hD hS 0 rfl rfl layL tyL tokL nmL 2 (by decide) w654 w655 rfl rfl rfl (Nat.le_of_ble_eq_true rfl) d_L_add_9ae_7 (fun H locs hP hD hS => ?_)
  have hP : va_P D vwCl ([(a, .inr (6, [.ref e0, .int 0, .int (mc + 1)]))] ++ (ws)) H := hP
  have hD : va_D A ([(a, .inr (6, [.ref e0, .int 0, .int (mc + 1)]))] ++ (ws)) := hD
  refine lv_aload_n hx hb d_L_add_9ae_10 rfl (lv_at hl 0 rfl) ?_
  refine lv_aload_n hx hb d_L_add_9ae_11 rfl (lv_at hl 1 rfl) ?_
  refine lv_aload_n hx hb d_L_add_9ae_12 rfl (lv_at hl 0 rfl) ?_
  refine gF (v := .ref e0) hx hb hown hE hK hP 0 rfl rfl layL 0 (by decide) w656 rfl d_L_add_9ae_13 ?_
  refine lv_aload_n hx hb d_L_add_9ae_16 rfl (lv_at hl 0 rfl) ?_
  refine gF (v := .int 0) hx hb hown hE hK hP 0 rfl rfl layL 1 (by decide) w657 rfl d_L_add_9ae_17 ?_
  refine jkV (wr := []) (rnVy (As := [.ref v, .ref e0, .int 0]) (rest := []) hx hb hml hown hE hK hZ hT hM hS (hN _ _ hS) hP hD (v_Ladd3_0W l D dA H.size e0 mi ws a (mc + 1) v fs mo) (q0 := 0) rfl rfl w778 w777 w779 w780 w680 rfl rfl ⟨⟨by decide, by decide⟩, rfl⟩ ⟨(Nat.le_of_ble_eq_true rfl), (Nat.le_of_ble_eq_true rfl)⟩ rfl hl.1 rfl (Nat.le_of_ble_eq_true rfl) d_L_add_9ae_20 ⟨(show 0 + 1 ≤ 1 by omega), (show 0 + 10 ≤ 10 by omega)⟩) hP hD hS hA (fun u2 H locs hp9 hP hD hS => ?_)
  obtain ⟨b, h9u⟩ : ∃ z9, z9 = u2 := ⟨_, rfl⟩
  subst h9u
  have hP : va_P D vwCl ([(b, .inl (dA 7, 10, .inr (.inr (.inr (.inr (va_up (fun _ => none) 0 (some v)))))))] ++ ([(a, .inr (6, [.ref b, .int 1, .int (mc + 1)]))] ++ (ws))) H := hP
  have hD : va_D A ([(b, .inl (dA 7, 10, .inr (.inr (.inr (.inr (va_up (fun _ => none) 0 (some v)))))))] ++ ([(a, .inr (6, [.ref b, .int 1, .int (mc + 1)]))] ++ (ws))) := hD
  refine lv_iconst (v := 1) hx hb d_L_add_9ae_23 (by decide) ?_
  exact rfZ hx hb hr (bI_nar true) hlk hS b rfl hP hD (show 0 + 1 ≤ 1 by omega) (show 0 + 10 ≤ 10 by omega) d_L_add_9ae_24
theorem d_Arrays_copyOf_918_0 : decode prog_38_method_120_code 0 = .ok (.aload_n 2, 1) := by decide +kernel
theorem d_Arrays_copyOf_918_1 : decode prog_38_method_120_code 1 = .ok (.ldc 110, 2) := by decide +kernel
theorem d_Arrays_copyOf_918_3 : decode prog_38_method_120_code 3 = .ok (.if_acmp .ne 10, 3) := by decide +kernel
theorem d_Arrays_copyOf_918_6 : decode prog_38_method_120_code 6 = .ok (.iload_n 1, 1) := by decide +kernel
theorem d_Arrays_copyOf_918_7 : decode prog_38_method_120_code 7 = .ok (.anewarray 2, 3) := by decide +kernel
theorem d_Arrays_copyOf_918_10 : decode prog_38_method_120_code 10 = .ok (.goto 14, 3) := by decide +kernel
theorem d_Arrays_copyOf_918_24 : decode prog_38_method_120_code 24 = .ok (.astore_n 3, 1) := by decide +kernel
theorem d_Arrays_copyOf_918_25 : decode prog_38_method_120_code 25 = .ok (.aload_n 0, 1) := by decide +kernel
theorem d_Arrays_copyOf_918_26 : decode prog_38_method_120_code 26 = .ok (.iconst 0, 1) := by decide +kernel
theorem d_Arrays_copyOf_918_27 : decode prog_38_method_120_code 27 = .ok (.aload_n 3, 1) := by decide +kernel
theorem d_Arrays_copyOf_918_28 : decode prog_38_method_120_code 28 = .ok (.iconst 0, 1) := by decide +kernel
theorem d_Arrays_copyOf_918_29 : decode prog_38_method_120_code 29 = .ok (.aload_n 0, 1) := by decide +kernel
theorem d_Arrays_copyOf_918_30 : decode prog_38_method_120_code 30 = .ok (.arraylength, 1) := by decide +kernel
theorem d_Arrays_copyOf_918_31 : decode prog_38_method_120_code 31 = .ok (.iload_n 1, 1) := by decide +kernel
theorem d_Arrays_copyOf_918_32 : decode prog_38_method_120_code 32 = .ok (.invokestatic 304, 3) := by decide +kernel
theorem d_Arrays_copyOf_918_35 : decode prog_38_method_120_code 35 = .ok (.invokestatic 150, 3) := by decide +kernel
theorem d_Arrays_copyOf_918_38 : decode prog_38_method_120_code 38 = .ok (.aload_n 3, 1) := by decide +kernel
theorem d_Arrays_copyOf_918_39 : decode prog_38_method_120_code 39 = .ok (.areturn, 1) := by decide +kernel
theorem w1460 : Cond.classLink "java/util/Arrays" 110 "[Ljava/lang/Object;" ∈ aW := aw_of (tb_2 (List.mem_of_getElem? (i := 138) rfl)) rfl
theorem w1461 : Cond.classLink "java/util/Arrays" 2 "java/lang/Object" ∈ aW := aw_of (tb_2 (List.mem_of_getElem? (i := 140) rfl)) rfl
set_option maxHeartbeats 4000000 in
set_option maxRecDepth 100000 in
theorem v_ocopy3_W (l : Launch) (D : va_G) (dA : Nat → ClassId) (sz : Nat) (e0 mi : Nat) (ws : va_W) (arr : Nat) (k : Nat) (f : Nat → Option Nat) (n : Nat) (m1 : (arr, .inl (dA 7, k, .inr (.inr (.inr (.inr f))))) ∈ ws) (hel : ∀ i : Nat, i < k → ∀ y : Nat, f i = some y → ∃ vs : List Value, (y, .inr (10, vs)) ∈ ws) (h1 : k ≤ n) (h2 : n ≤ 131072) : Met l ⟨"java/util/Arrays", "copyOf", "([Ljava/lang/Object;ILjava/lang/Class;)[Ljava/lang/Object;"⟩ [Cond.code ⟨"java/util/Arrays", "copyOf", "([Ljava/lang/Object;ILjava/lang/Class;)[Ljava/lang/Object;"⟩ prog_38_method_120_code 4 (some (FieldType.array (FieldType.object "java/lang/Object")))] { frames := 1, cells := 1, slots := n, locals := 40 } (pCy D dA e0 mi [.ref arr, .int (nI n), .ref mi] (ws) sz) (va_Qr (fun (_ : (Nat → Option Nat)) => True) (fun (u9 : (Nat → Option Nat)) (r9 : Nat) t9 => (u9 = cpF f k) ∧ bW D (va_A (ws) sz) ([(r9, .inl (dA 7, n, .inr (.inr (.inr (.inr u9)))))] ++ (ws)) t9) (va_A (ws) sz)) 1 n (va_A (ws) sz) := by
  refine mkY (y := ⟨"java/util/Arrays", "copyOf", "([Ljava/lang/Object;ILjava/lang/Class;)[Ljava/lang/Object;"⟩) (cc := prog_38_method_120_code) (maxL := 4) (av := [.ref arr, .int (nI n), .ref mi]) (ws := ws) (sz := sz) (Qc := fun A => va_Qr (fun (_ : (Nat → Option Nat)) => True) (fun (u9 : (Nat → Option Nat)) (r9 : Nat) t9 => (u9 = cpF f k) ∧ bW D A ([(r9, .inl (dA 7, n, .inr (.inr (.inr (.inr u9)))))] ++ (ws)) t9) A) (by decide) (Nat.le_of_ble_eq_true rfl) ?_
  intro A p e s m below meth c ls hsz hZ hT hM hB
  obtain ⟨hx, hb, hr, hml, hown, hin, hlk, hE, hK, hP, hD, hS, hA, hN, hl⟩ := hB
  have hown : s.vm.findClass "java/util/Arrays" = some m.cls := hown
  have hl : lv_has ls 4 [(0, .ref arr), (1, .int (nI n)), (2, .ref mi)] := hl
  obtain ⟨H, hH⟩ : ∃ z, z = s.heap := ⟨_, rfl⟩
  have hP : va_P D vwCl (ws) H := by rw [hH]; exact hP
  have hS : va_S A s.heap H [] := by rw [hH]; exact hS
  rw [← hH]
  refine lv_aload_n hx hb d_Arrays_copyOf_918_0 rfl (lv_at hl 2 rfl) ?_
  refine va_ldcM hx hb hown (hE.t w1460 rfl) hM d_Arrays_copyOf_918_1 ?_
  refine lv_acmp_ne (rx := some mi) (ry := some mi) hx hb d_Arrays_copyOf_918_3 (tgt := 13) rfl (fun h9 => absurd rfl h9) (fun _ => ?_)
  refine lv_iload_n hx hb d_Arrays_copyOf_918_6 rfl (lv_at hl 1 rfl) ?_
  refine nnQ (N' := n) hx hb hown hE w1461 w767 hK hP hD hS hA 7 rfl (by omega) (show n * 4 ≤ 536870912 by omega) (show 0 + 1 ≤ 1 by omega) (show 0 + n ≤ n by omega) d_Arrays_copyOf_918_7 (fun r9 H hP hD hS => ?_)
  have hP : va_P D vwCl ([(r9, .inl (dA 7, n, .inr (.inr (.inr (.inr (fun _ => none))))))] ++ (ws)) H := hP
  have hD : va_D A ([(r9, .inl (dA 7, n, .inr (.inr (.inr (.inr (fun _ => none))))))] ++ (ws)) := hD
  refine lv_goto hx hb d_Arrays_copyOf_918_10 (tgt := 24) rfl ?_
  refine lv_astore_n hx hb d_Arrays_copyOf_918_24 rfl hl (by decide) rfl (fun ls hl => ?_)
  have hl : lv_has ls 4 [(3, .ref r9), (0, .ref arr), (1, .int (nI n)), (2, .ref mi)] := hl
  refine lv_aload_n hx hb d_Arrays_copyOf_918_25 rfl (lv_at hl 1 rfl) ?_
  refine lv_iconst (v := 0) hx hb d_Arrays_copyOf_918_26 (by decide) ?_
  refine lv_aload_n hx hb d_Arrays_copyOf_918_27 rfl (lv_at hl 0 rfl) ?_
  refine lv_iconst (v := 0) hx hb d_Arrays_copyOf_918_28 (by decide) ?_
  refine lv_aload_n hx hb d_Arrays_copyOf_918_29 rfl (lv_at hl 1 rfl) ?_
  obtain ⟨qp1, ep2⟩ := List.getElem?_of_mem (show ((arr, .inl (dA 7, k, .inr (.inr (.inr (.inr f))))) : Nat × va_E) ∈ [(r9, .inl (dA 7, n, .inr (.inr (.inr (.inr (fun _ => none))))))] ++ (ws) from (List.mem_append_right _ m1))
  refine va_alen (v := nI k) hx hb hK hP (qp1) 7 ep2 rfl rfl d_Arrays_copyOf_918_30 ?_
  refine lv_iload_n hx hb d_Arrays_copyOf_918_31 rfl (lv_at hl 2 rfl) ?_
  refine va_mmin hx hb (hml.trans hl.1.symm) hown (hE.t w1109 rfl) (hE.t w548 rfl) (hE.t w549 rfl) (hE.t w550 rfl) (Nat.le_of_ble_eq_true rfl) (Nat.le_of_ble_eq_true rfl) (show 0 + 1 ≤ 1 by omega) (show 0 + n ≤ n by omega) d_Arrays_copyOf_918_32 (tpi (y := nI (min k n)) (nI_min (a := k) (b := n) (by omega) (by omega)) ?_)
  obtain ⟨qp3, ep4⟩ := List.getElem?_of_mem (show ((arr, .inl (dA 7, k, .inr (.inr (.inr (.inr f))))) : Nat × va_E) ∈ [(r9, .inl (dA 7, n, .inr (.inr (.inr (.inr (fun _ => none))))))] ++ (ws) from (List.mem_append_right _ m1))
  refine ncpyO (E := "java/lang/Object") (r := ("SeriesVault$Word", TW, 1)) (f := f) (g := (fun _ => none)) (n0 := k) (n1 := n) hx hb (hml.trans hl.1.symm) hown (hE.t w1110 rfl) (hE.t w720 rfl) (hE.t w721 rfl) (hE.t w722 rfl) hK hP hD hS (qp3) (0) 7 10 (show va_Nw (.castable "SeriesVault$Word" "java/lang/Object") s from hE.1 _ w1456) ep4 rfl rfl rfl (0) (0) (min k n) (by omega) (by omega) (by omega) (by omega) (by omega) (fun i hi y hy => by obtain ⟨vs, hv⟩ := hel i (by omega) y (by rw [Nat.zero_add] at hy; exact hy); exact ⟨vs, (List.mem_append_right _ hv)⟩) (Nat.le_of_ble_eq_true rfl) (Nat.le_of_ble_eq_true rfl) d_Arrays_copyOf_918_35 (fun H locs hP hD hS => ?_)
  have hP : va_P D vwCl ([(r9, .inl (dA 7, n, .inr (.inr (.inr (.inr (va_cpy f (fun _ => none) 0 0 (min k n)))))))] ++ (ws)) H := hP
  have hD : va_D A ([(r9, .inl (dA 7, n, .inr (.inr (.inr (.inr (va_cpy f (fun _ => none) 0 0 (min k n)))))))] ++ (ws)) := hD
  refine lv_aload_n hx hb d_Arrays_copyOf_918_38 rfl (lv_at hl 0 rfl) ?_
  exact rkR hx hb hr (Or.inr ⟨_, rfl⟩) hlk hS (va_cpy f (fun _ => none) 0 0 (min k n)) (cpF_e h1) hP hD (show 0 + 1 ≤ 1 by omega) (show 0 + n ≤ n by omega) d_Arrays_copyOf_918_39
theorem d_Arrays_copyOf_5ca_0 : decode prog_38_method_119_code 0 = .ok (.aload_n 0, 1) := by decide +kernel
theorem d_Arrays_copyOf_5ca_1 : decode prog_38_method_119_code 1 = .ok (.iload_n 1, 1) := by decide +kernel
theorem d_Arrays_copyOf_5ca_2 : decode prog_38_method_119_code 2 = .ok (.aload_n 0, 1) := by decide +kernel
theorem d_Arrays_copyOf_5ca_3 : decode prog_38_method_119_code 3 = .ok (.invokevirtual 86, 3) := by decide +kernel
theorem d_Arrays_copyOf_5ca_6 : decode prog_38_method_119_code 6 = .ok (.invokestatic 300, 3) := by decide +kernel
theorem d_Arrays_copyOf_5ca_9 : decode prog_38_method_119_code 9 = .ok (.areturn, 1) := by decide +kernel
theorem w1462 : Cond.methodLink "java/util/Arrays" 86 ⟨"java/lang/Object", "getClass", "()Ljava/lang/Class;"⟩ ∈ aW := aw_of (tb_2 (List.mem_of_getElem? (i := 110) rfl)) rfl
theorem w1463 : Cond.declares ⟨"java/lang/Object", "getClass", "()Ljava/lang/Class;"⟩ ∈ aW := aw_of (tb_11 (List.mem_of_getElem? (i := 95) rfl)) rfl
theorem w1464 : Cond.selects "[Ljava/lang/Object;" ⟨"java/lang/Object", "getClass", "()Ljava/lang/Class;"⟩ ⟨"java/lang/Object", "getClass", "()Ljava/lang/Class;"⟩ ∈ aW := aw_of (tb_11 (List.mem_of_getElem? (i := 94) rfl)) rfl
theorem w1465 : Cond.instanceMethod ⟨"java/lang/Object", "getClass", "()Ljava/lang/Class;"⟩ ∈ aW := aw_of (tb_2 (List.mem_of_getElem? (i := 111) rfl)) rfl
theorem w1466 : Cond.native ⟨"java/lang/Object", "getClass", "()Ljava/lang/Class;"⟩ ∈ aW := aw_of (tb_2 (List.mem_of_getElem? (i := 134) rfl)) rfl
theorem w1467 : Cond.methodLink "java/util/Arrays" 300 ⟨"java/util/Arrays", "copyOf", "([Ljava/lang/Object;ILjava/lang/Class;)[Ljava/lang/Object;"⟩ ∈ aW := aw_of (tb_2 (List.mem_of_getElem? (i := 135) rfl)) rfl
theorem w1468 : Cond.code ⟨"java/util/Arrays", "copyOf", "([Ljava/lang/Object;ILjava/lang/Class;)[Ljava/lang/Object;"⟩ prog_38_method_120_code 4 (some (FieldType.array (FieldType.object "java/lang/Object"))) ∈ aW := aw_of (tb_2 (List.mem_of_getElem? (i := 137) rfl)) rfl
theorem w1469 : Cond.static ⟨"java/util/Arrays", "copyOf", "([Ljava/lang/Object;ILjava/lang/Class;)[Ljava/lang/Object;"⟩ ∈ aW := aw_of (tb_2 (List.mem_of_getElem? (i := 136) rfl)) rfl
set_option maxHeartbeats 4000000 in
set_option maxRecDepth 100000 in
theorem v_ocopy_W (l : Launch) (D : va_G) (dA : Nat → ClassId) (sz : Nat) (e0 mi : Nat) (ws : va_W) (arr : Nat) (k : Nat) (f : Nat → Option Nat) (n : Nat) (m1 : (arr, .inl (dA 7, k, .inr (.inr (.inr (.inr f))))) ∈ ws) (hel : ∀ i : Nat, i < k → ∀ y : Nat, f i = some y → ∃ vs : List Value, (y, .inr (10, vs)) ∈ ws) (h1 : k ≤ n) (h2 : n ≤ 131072) : Met l ⟨"java/util/Arrays", "copyOf", "([Ljava/lang/Object;I)[Ljava/lang/Object;"⟩ [Cond.code ⟨"java/util/Arrays", "copyOf", "([Ljava/lang/Object;I)[Ljava/lang/Object;"⟩ prog_38_method_119_code 2 (some (FieldType.array (FieldType.object "java/lang/Object")))] { frames := 2, cells := 1, slots := n, locals := 63 } (pCy D dA e0 mi [.ref arr, .int (nI n)] (ws) sz) (va_Qr (fun (_ : (Nat → Option Nat)) => True) (fun (u9 : (Nat → Option Nat)) (r9 : Nat) t9 => (u9 = cpF f k) ∧ bW D (va_A (ws) sz) ([(r9, .inl (dA 7, n, .inr (.inr (.inr (.inr u9)))))] ++ (ws)) t9) (va_A (ws) sz)) 1 n (va_A (ws) sz) := by
  refine mkY (y := ⟨"java/util/Arrays", "copyOf", "([Ljava/lang/Object;I)[Ljava/lang/Object;"⟩) (cc := prog_38_method_119_code) (maxL := 2) (av := [.ref arr, .int (nI n)]) (ws := ws) (sz := sz) (Qc := fun A => va_Qr (fun (_ : (Nat → Option Nat)) => True) (fun (u9 : (Nat → Option Nat)) (r9 : Nat) t9 => (u9 = cpF f k) ∧ bW D A ([(r9, .inl (dA 7, n, .inr (.inr (.inr (.inr u9)))))] ++ (ws)) t9) A) (by decide) (Nat.le_of_ble_eq_true rfl) ?_
  intro A p e s m below meth c ls hsz hZ hT hM hB
  obtain ⟨hx, hb, hr, hml, hown, hin, hlk, hE, hK, hP, hD, hS, hA, hN, hl⟩ := hB
  have hown : s.vm.findClass "java/util/Arrays" = some m.cls := hown
  have hl : lv_has ls 2 [(0, .ref arr), (1, .int (nI n))] := hl
  obtain ⟨H, hH⟩ : ∃ z, z = s.heap := ⟨_, rfl⟩
  have hP : va_P D vwCl (ws) H := by rw [hH]; exact hP
  have hS : va_S A s.heap H [] := by rw [hH]; exact hS
  rw [← hH]
  refine lv_aload_n hx hb d_Arrays_copyOf_5ca_0 rfl (lv_at hl 0 rfl) ?_
  refine lv_iload_n hx hb d_Arrays_copyOf_5ca_1 rfl (lv_at hl 1 rfl) ?_
  refine lv_aload_n hx hb d_Arrays_copyOf_5ca_2 rfl (lv_at hl 0 rfl) ?_
  obtain ⟨qp1, ep2⟩ := List.getElem?_of_mem (show ((arr, .inl (dA 7, k, .inr (.inr (.inr (.inr f))))) : Nat × va_E) ∈ ws from m1)
  refine ngetC hx hb (hml.trans hl.1.symm) hown hE w1462 w1463 w1464 w1465 w1466 hM hK hP (qp1) ep2 (Nat.le_of_ble_eq_true rfl) (Nat.le_of_ble_eq_true rfl) d_Arrays_copyOf_5ca_3 ?_
  refine jkR (wr := []) (rnSy (As := [.ref arr, .int (nI n), .ref mi]) (rest := []) hx hb hml hown hE hK hZ hT hM hS (hN _ _ hS) hP hD (v_ocopy3_W l D dA H.size e0 mi ws arr k f n m1 hel (show k ≤ n from by omega) (show n ≤ 131072 from by omega)) w1468 w1467 w1469 w712 rfl rfl ⟨⟨by decide, by decide⟩, rfl⟩ ⟨(Nat.le_of_ble_eq_true rfl), (Nat.le_of_ble_eq_true rfl)⟩ rfl hl.1 rfl (Nat.le_of_ble_eq_true rfl) d_Arrays_copyOf_5ca_6 ⟨(show 0 + 1 ≤ 1 by omega), (show 0 + n ≤ n by omega)⟩) hP hD hS hA (fun u3 r9 H locs hp9 hP hD hS => ?_)
  obtain ⟨gx, h9u⟩ : ∃ z9, z9 = u3 := ⟨_, rfl⟩
  subst h9u
  have hP : va_P D vwCl ([(r9, .inl (dA 7, n, .inr (.inr (.inr (.inr gx)))))] ++ (ws)) H := hP
  have hD : va_D A ([(r9, .inl (dA 7, n, .inr (.inr (.inr (.inr gx)))))] ++ (ws)) := hD
  have f_e_4 := hp9
  exact rkR hx hb hr (Or.inr ⟨_, rfl⟩) hlk hS gx f_e_4 hP hD (show 0 + 1 ≤ 1 by omega) (show 0 + n ≤ n by omega) d_Arrays_copyOf_5ca_9
theorem d_L_grow_6cd_20 : decode prog_37_method_6_code 20 = .ok (.iload_n 2, 1) := by decide +kernel
theorem d_L_grow_6cd_21 : decode prog_37_method_6_code 21 = .ok (.iload_n 1, 1) := by decide +kernel
theorem d_L_grow_6cd_22 : decode prog_37_method_6_code 22 = .ok (.iload_n 2, 1) := by decide +kernel
theorem d_L_grow_6cd_23 : decode prog_37_method_6_code 23 = .ok (.isub, 1) := by decide +kernel
theorem d_L_grow_6cd_24 : decode prog_37_method_6_code 24 = .ok (.iload_n 2, 1) := by decide +kernel
theorem d_L_grow_6cd_25 : decode prog_37_method_6_code 25 = .ok (.iconst 1, 1) := by decide +kernel
theorem d_L_grow_6cd_26 : decode prog_37_method_6_code 26 = .ok (.ishr, 1) := by decide +kernel
theorem d_L_grow_6cd_27 : decode prog_37_method_6_code 27 = .ok (.invokestatic 73, 3) := by decide +kernel
theorem d_L_grow_6cd_30 : decode prog_37_method_6_code 30 = .ok (.istore_n 3, 1) := by decide +kernel
theorem d_L_grow_6cd_31 : decode prog_37_method_6_code 31 = .ok (.aload_n 0, 1) := by decide +kernel
theorem d_L_grow_6cd_32 : decode prog_37_method_6_code 32 = .ok (.aload_n 0, 1) := by decide +kernel
theorem d_L_grow_6cd_33 : decode prog_37_method_6_code 33 = .ok (.getfield 9, 3) := by decide +kernel
theorem d_L_grow_6cd_36 : decode prog_37_method_6_code 36 = .ok (.iload_n 3, 1) := by decide +kernel
theorem d_L_grow_6cd_37 : decode prog_37_method_6_code 37 = .ok (.invokestatic 66, 3) := by decide +kernel
theorem d_L_grow_6cd_40 : decode prog_37_method_6_code 40 = .ok (.dup_x1, 1) := by decide +kernel
theorem d_L_grow_6cd_41 : decode prog_37_method_6_code 41 = .ok (.putfield 9, 3) := by decide +kernel
theorem d_L_grow_6cd_44 : decode prog_37_method_6_code 44 = .ok (.areturn, 1) := by decide +kernel
theorem w1470 : Cond.methodLink "java/util/ArrayList" 73 ⟨"jdk/internal/util/ArraysSupport", "newLength", "(III)I"⟩ ∈ aW := aw_of (tb_2 (List.mem_of_getElem? (i := 97) rfl)) rfl
theorem w1471 : Cond.initialized "jdk/internal/util/ArraysSupport" ∈ aW := aw_of (tb_1 (List.mem_of_getElem? (i := 12) rfl)) rfl
theorem w1472 : Cond.code ⟨"jdk/internal/util/ArraysSupport", "newLength", "(III)I"⟩ prog_44_method_27_code 4 (some FieldType.int) ∈ aW := aw_of (tb_2 (List.mem_of_getElem? (i := 99) rfl)) rfl
theorem w1473 : Cond.static ⟨"jdk/internal/util/ArraysSupport", "newLength", "(III)I"⟩ ∈ aW := aw_of (tb_2 (List.mem_of_getElem? (i := 98) rfl)) rfl
theorem w1474 : Cond.methodLink "java/util/ArrayList" 66 ⟨"java/util/Arrays", "copyOf", "([Ljava/lang/Object;I)[Ljava/lang/Object;"⟩ ∈ aW := aw_of (tb_2 (List.mem_of_getElem? (i := 107) rfl)) rfl
theorem w1475 : Cond.code ⟨"java/util/Arrays", "copyOf", "([Ljava/lang/Object;I)[Ljava/lang/Object;"⟩ prog_38_method_119_code 2 (some (FieldType.array (FieldType.object "java/lang/Object"))) ∈ aW := aw_of (tb_2 (List.mem_of_getElem? (i := 109) rfl)) rfl
theorem w1476 : Cond.static ⟨"java/util/Arrays", "copyOf", "([Ljava/lang/Object;I)[Ljava/lang/Object;"⟩ ∈ aW := aw_of (tb_2 (List.mem_of_getElem? (i := 108) rfl)) rfl
set_option maxHeartbeats 4000000 in
set_option maxRecDepth 100000 in
theorem v_Lgrow1_W (l : Launch) (D : va_G) (dA : Nat → ClassId) (sz : Nat) (e0 mi : Nat) (ws : va_W) (la : Nat → Nat) (g : LI) (mn : Nat) (hel : ∀ i : Nat, i < g.eN → ∀ y : Nat, g.el i = some y → ∃ vs : List Value, (y, .inr (10, vs)) ∈ ws) (h1 : 0 < g.eN) (h2 : g.eN ≤ 65536) (h3 : g.sz = g.eN) (h4 : mn = g.eN + 1) : Met l ⟨"java/util/ArrayList", "grow", "(I)[Ljava/lang/Object;"⟩ [Cond.code ⟨"java/util/ArrayList", "grow", "(I)[Ljava/lang/Object;"⟩ prog_37_method_6_code 4 (some (FieldType.array (FieldType.object "java/lang/Object")))] { frames := 3, cells := 1, slots := g.eN + max 1 (g.eN / 2), locals := 84 } (pCy D dA e0 mi [.ref (la 0), .int (nI mn)] (LiW dA la g ++ (ws)) sz) (va_Qr (fun (_ : Unit) => True) (fun (u9 : Unit) (r9 : Nat) t9 => (True) ∧ bW D (va_A (LiW dA la g ++ (ws)) sz) (LiW dA la (LI.s_el (LI.s_eN (LI.s_eA g r9) (g.eN + max 1 (g.eN / 2))) (cpF g.el g.eN)) ++ (ws)) t9) (va_A (LiW dA la g ++ (ws)) sz)) 1 (g.eN + max 1 (g.eN / 2)) (va_A (LiW dA la g ++ (ws)) sz) := by
  refine mkY (y := ⟨"java/util/ArrayList", "grow", "(I)[Ljava/lang/Object;"⟩) (cc := prog_37_method_6_code) (maxL := 4) (av := [.ref (la 0), .int (nI mn)]) (ws := LiW dA la g ++ (ws)) (sz := sz) (Qc := fun A => va_Qr (fun (_ : Unit) => True) (fun (u9 : Unit) (r9 : Nat) t9 => (True) ∧ bW D A (LiW dA la (LI.s_el (LI.s_eN (LI.s_eA g r9) (g.eN + max 1 (g.eN / 2))) (cpF g.el g.eN)) ++ (ws)) t9) A) (by decide) (Nat.le_of_ble_eq_true rfl) ?_
  intro A p e s m below meth c ls hsz hZ hT hM hB
  obtain ⟨hx, hb, hr, hml, hown, hin, hlk, hE, hK, hP, hD, hS, hA, hN, hl⟩ := hB
  have hown : s.vm.findClass "java/util/ArrayList" = some m.cls := hown
  have hl : lv_has ls 4 [(0, .ref (la 0)), (1, .int (nI mn))] := hl
  obtain ⟨H, hH⟩ : ∃ z, z = s.heap := ⟨_, rfl⟩
  have hP : va_P D vwCl (LiW dA la g ++ (ws)) H := by rw [hH]; exact hP
  have hS : va_S A s.heap H [] := by rw [hH]; exact hS
  rw [← hH]
  refine lv_aload_n hx hb d_L_grow_6cd_0 rfl (lv_at hl 0 rfl) ?_
  refine gF (v := .ref g.eA) hx hb hown hE hK hP 0 rfl rfl layL 0 (by decide) w656 rfl d_L_grow_6cd_1 ?_
  refine va_alen (v := nI g.eN) hx hb hK hP (1) 7 rfl rfl rfl d_L_grow_6cd_4 ?_
  refine lv_istore_n hx hb d_L_grow_6cd_5 rfl hl (by decide) rfl (fun ls hl => ?_)
  have hl : lv_has ls 4 [(2, .int (nI g.eN)), (0, .ref (la 0)), (1, .int (nI mn))] := hl
  refine lv_iload_n hx hb d_L_grow_6cd_6 rfl (lv_at hl 0 rfl) ?_
  refine lv_if_gt hx hb d_L_grow_6cd_7 (tgt := 20) rfl (fun _ => ?_) (fun h9 => absurd ((nI_ltI (a := 0) (b := g.eN) (by omega) (by omega)).mpr h1) h9)
  refine lv_iload_n hx hb d_L_grow_6cd_20 rfl (lv_at hl 0 rfl) ?_
  refine lv_iload_n hx hb d_L_grow_6cd_21 rfl (lv_at hl 2 rfl) ?_
  refine lv_iload_n hx hb d_L_grow_6cd_22 rfl (lv_at hl 0 rfl) ?_
  refine lv_isub hx hb d_L_grow_6cd_23 (tpi (y := nI (mn - g.eN)) (pk_sub (a := mn) (b := g.eN) (by omega)) ?_)
  refine lv_iload_n hx hb d_L_grow_6cd_24 rfl (lv_at hl 0 rfl) ?_
  refine lv_iconst (v := 1) hx hb d_L_grow_6cd_25 (by decide) ?_
  refine lv_ishr hx hb d_L_grow_6cd_26 (tpi (y := nI (g.eN / 2)) (sar_nI (a := g.eN) (by omega)) ?_)
  have e5 : mn - g.eN = 1 := by omega
  have e5 : mn - g.eN = 1 := by omega
  have hPc := hP.sub (ws' := []) [] rfl
  have hDc := hD.sub (ws' := []) [] (by decide) rfl
  refine jpI (rnS (As := [.int (nI g.eN), .int (nI (mn - g.eN)), .int (nI (g.eN / 2))]) (rest := []) hx hb hml hown hE hK (hN _ _ hS) hPc hDc (v_newLength l D dA H.size g.eN (mn - g.eN) (g.eN / 2) (show 1 ≤ (mn - g.eN) from by omega) (show g.eN ≤ 65536 from by omega) (show (mn - g.eN) ≤ 65536 from by omega) (show (g.eN / 2) ≤ 65536 from by omega)) w1472 w1470 w1473 w1471 rfl rfl ⟨⟨by decide, by decide⟩, rfl⟩ ⟨(Nat.le_of_ble_eq_true rfl), (Nat.le_of_ble_eq_true rfl)⟩ rfl hl.1 rfl (Nat.le_of_ble_eq_true rfl) d_L_grow_6cd_27 ⟨(show 0 + 0 ≤ 1 by omega), (show 0 + 0 ≤ g.eN + max 1 (g.eN / 2) by omega)⟩) hP hD hS hA (fun r1 u9 H locs hp9 hP hD hS => ?_)
  have hP : va_P D vwCl (LiW dA la g ++ (ws)) H := hP
  have hD : va_D A (LiW dA la g ++ (ws)) := hD
  replace hp9 : nI (g.eN + max (mn - g.eN) (g.eN / 2)) = r1 := Eq.symm hp9
  subst hp9
  refine lv_istore_n hx hb d_L_grow_6cd_30 rfl hl (by decide) rfl (fun ls hl => ?_)
  have hl : lv_has ls 4 [(3, .int (nI (g.eN + max (mn - g.eN) (g.eN / 2)))), (2, .int (nI g.eN)), (0, .ref (la 0)), (1, .int (nI mn))] := hl
  refine lv_aload_n hx hb d_L_grow_6cd_31 rfl (lv_at hl 2 rfl) ?_
  refine lv_aload_n hx hb d_L_grow_6cd_32 rfl (lv_at hl 2 rfl) ?_
  refine gF (v := .ref g.eA) hx hb hown hE hK hP 0 rfl rfl layL 0 (by decide) w656 rfl d_L_grow_6cd_33 ?_
  refine lv_iload_n hx hb d_L_grow_6cd_36 rfl (lv_at hl 0 rfl) ?_
  refine jkR (wr := []) (rnSy (As := [.ref g.eA, .int (nI (g.eN + max (mn - g.eN) (g.eN / 2)))]) (rest := [.ref (la 0)]) hx hb hml hown hE hK hZ hT hM hS (hN _ _ hS) hP hD (v_ocopy_W l D dA H.size e0 mi (LiW dA la g ++ (ws)) g.eA g.eN g.el (g.eN + max (mn - g.eN) (g.eN / 2)) (List.mem_of_getElem? (i := 1) rfl) (fun i hi y hy => by obtain ⟨vs, hv⟩ := hel i hi y hy; exact ⟨vs, (fun _ hm => (List.mem_append_right _ hm)) _ hv⟩) (show g.eN ≤ (g.eN + max (mn - g.eN) (g.eN / 2)) from by omega) (show (g.eN + max (mn - g.eN) (g.eN / 2)) ≤ 131072 from by omega)) w1475 w1474 w1476 w712 rfl rfl ⟨⟨by decide, by decide⟩, rfl⟩ ⟨(Nat.le_of_ble_eq_true rfl), (Nat.le_of_ble_eq_true rfl)⟩ rfl hl.1 rfl (Nat.le_of_ble_eq_true rfl) d_L_grow_6cd_37 ⟨(show 0 + 0 + 1 ≤ 1 by omega), (show 0 + 0 + (g.eN + max (mn - g.eN) (g.eN / 2)) ≤ g.eN + max 1 (g.eN / 2) by omega)⟩) hP hD hS hA (fun u3 r9 H locs hp9 hP hD hS => ?_)
  obtain ⟨gx4, h9u⟩ : ∃ z9, z9 = u3 := ⟨_, rfl⟩
  subst h9u
  have hP : va_P D vwCl ([(r9, .inl (dA 7, g.eN + max (mn - g.eN) (g.eN / 2), .inr (.inr (.inr (.inr gx4)))))] ++ (LiW dA la g ++ (ws))) H := hP
  have hD : va_D A ([(r9, .inl (dA 7, g.eN + max (mn - g.eN) (g.eN / 2), .inr (.inr (.inr (.inr gx4)))))] ++ (LiW dA la g ++ (ws))) := hD
  have f_e_5 := hp9
  refine lv_dup_x1 hx hb d_L_grow_6cd_40 rfl rfl ?_
  refine pF (v := .ref r9) hx hb hown hE hK hP hD hS 1 rfl rfl layL tyL tokL nmL 0 (by decide) w656 rfl rfl rfl (Nat.le_of_ble_eq_true rfl) d_L_grow_6cd_41 (fun H locs hP hD hS => ?_)
  have hP : va_P D vwCl ([(r9, .inl (dA 7, g.eN + max (mn - g.eN) (g.eN / 2), .inr (.inr (.inr (.inr gx4)))))] ++ (LiWf dA la g (LI.s_eA g r9) ++ (ws))) H := hP
  have hD : va_D A ([(r9, .inl (dA 7, g.eN + max (mn - g.eN) (g.eN / 2), .inr (.inr (.inr (.inr gx4)))))] ++ (LiWf dA la g (LI.s_eA g r9) ++ (ws))) := hD
  have hP := swP 1 hP
  have hD := swD 1 hD
  have hP : va_P D vwCl (LiW dA la (LI.s_el (LI.s_eN (LI.s_eA g r9) (g.eN + max (mn - g.eN) (g.eN / 2))) gx4) ++ (ws)) H := hP
  have hD : va_D A (LiW dA la (LI.s_el (LI.s_eN (LI.s_eA g r9) (g.eN + max (mn - g.eN) (g.eN / 2))) gx4) ++ (ws)) := hD
  have e9 : (LI.s_el (LI.s_eN (LI.s_eA g r9) (g.eN + max (mn - g.eN) (g.eN / 2))) gx4 : LI) = LI.s_el (LI.s_eN (LI.s_eA g r9) (g.eN + max 1 (g.eN / 2))) (cpF g.el g.eN) := by rw [show (g.eN + max 1 (g.eN / 2)) = (g.eN + max (mn - g.eN) (g.eN / 2)) from by simp [*], show (cpF g.el g.eN) = gx4 from by simp [*]] <;> rfl
  rw [e9] at hP hD
  exact rkR hx hb hr (Or.inr ⟨_, rfl⟩) hlk hS () trivial hP hD (show 0 + 0 + 1 ≤ 1 by omega) (show 0 + 0 + (g.eN + max (mn - g.eN) (g.eN / 2)) ≤ g.eN + max 1 (g.eN / 2) by omega) d_L_grow_6cd_44
set_option maxHeartbeats 4000000 in
set_option maxRecDepth 100000 in
theorem v_Lgrow_W (l : Launch) (D : va_G) (dA : Nat → ClassId) (sz : Nat) (e0 mi : Nat) (ws : va_W) (la : Nat → Nat) (g : LI) (hel : ∀ i : Nat, i < g.eN → ∀ y : Nat, g.el i = some y → ∃ vs : List Value, (y, .inr (10, vs)) ∈ ws) (h1 : 0 < g.eN) (h2 : g.eN ≤ 65536) (h3 : g.sz = g.eN) : Met l ⟨"java/util/ArrayList", "grow", "()[Ljava/lang/Object;"⟩ [Cond.code ⟨"java/util/ArrayList", "grow", "()[Ljava/lang/Object;"⟩ prog_37_method_7_code 1 (some (FieldType.array (FieldType.object "java/lang/Object")))] { frames := 4, cells := 1, slots := g.eN + max 1 (g.eN / 2), locals := 107 } (pCy D dA e0 mi [.ref (la 0)] (LiW dA la g ++ (ws)) sz) (va_Qr (fun (_ : Unit) => True) (fun (u9 : Unit) (r9 : Nat) t9 => (True) ∧ bW D (va_A (LiW dA la g ++ (ws)) sz) (LiW dA la (LI.s_el (LI.s_eN (LI.s_eA g r9) (g.eN + max 1 (g.eN / 2))) (cpF g.el g.eN)) ++ (ws)) t9) (va_A (LiW dA la g ++ (ws)) sz)) 1 (g.eN + max 1 (g.eN / 2)) (va_A (LiW dA la g ++ (ws)) sz) := by
  refine mkY (y := ⟨"java/util/ArrayList", "grow", "()[Ljava/lang/Object;"⟩) (cc := prog_37_method_7_code) (maxL := 1) (av := [.ref (la 0)]) (ws := LiW dA la g ++ (ws)) (sz := sz) (Qc := fun A => va_Qr (fun (_ : Unit) => True) (fun (u9 : Unit) (r9 : Nat) t9 => (True) ∧ bW D A (LiW dA la (LI.s_el (LI.s_eN (LI.s_eA g r9) (g.eN + max 1 (g.eN / 2))) (cpF g.el g.eN)) ++ (ws)) t9) A) (by decide) (Nat.le_of_ble_eq_true rfl) ?_
  intro A p e s m below meth c ls hsz hZ hT hM hB
  obtain ⟨hx, hb, hr, hml, hown, hin, hlk, hE, hK, hP, hD, hS, hA, hN, hl⟩ := hB
  have hown : s.vm.findClass "java/util/ArrayList" = some m.cls := hown
  have hl : lv_has ls 1 [(0, .ref (la 0))] := hl
  obtain ⟨H, hH⟩ : ∃ z, z = s.heap := ⟨_, rfl⟩
  have hP : va_P D vwCl (LiW dA la g ++ (ws)) H := by rw [hH]; exact hP
  have hS : va_S A s.heap H [] := by rw [hH]; exact hS
  rw [← hH]
  refine lv_aload_n hx hb d_L_grow_d81_0 rfl (lv_at hl 0 rfl) ?_
  refine lv_aload_n hx hb d_L_grow_d81_1 rfl (lv_at hl 0 rfl) ?_
  refine gF (v := .int (nI g.sz)) hx hb hown hE hK hP 0 rfl rfl layL 1 (by decide) w657 rfl d_L_grow_d81_2 ?_
  refine lv_iconst (v := 1) hx hb d_L_grow_d81_5 (by decide) ?_
  refine lv_iadd hx hb d_L_grow_d81_6 (tpi (y := nI (g.sz + 1)) (nI_add (g.sz) (1)) ?_)
  refine jkR (wr := []) (rnVy (As := [.int (nI (g.sz + 1))]) (rest := []) hx hb hml hown hE hK hZ hT hM hS (hN _ _ hS) hP hD (v_Lgrow1_W l D dA H.size e0 mi ws la g (g.sz + 1) hel (show 0 < g.eN from by omega) (show g.eN ≤ 65536 from by omega) (show g.sz = g.eN from by omega) (show (g.sz + 1) = g.eN + 1 from by omega)) (q0 := 0) rfl rfl w769 w768 w770 w771 w680 rfl rfl ⟨⟨by decide, by decide⟩, rfl⟩ ⟨(Nat.le_of_ble_eq_true rfl), (Nat.le_of_ble_eq_true rfl)⟩ rfl hl.1 rfl (Nat.le_of_ble_eq_true rfl) d_L_grow_d81_7 ⟨(show 0 + 1 ≤ 1 by omega), (show 0 + (g.eN + max 1 (g.eN / 2)) ≤ g.eN + max 1 (g.eN / 2) by omega)⟩) hP hD hS hA (fun u1 r9 H locs hp9 hP hD hS => ?_)
  have hP : va_P D vwCl (LiW dA la (LI.s_el (LI.s_eN (LI.s_eA g r9) (g.eN + max 1 (g.eN / 2))) (cpF g.el g.eN)) ++ (ws)) H := hP
  have hD : va_D A (LiW dA la (LI.s_el (LI.s_eN (LI.s_eA g r9) (g.eN + max 1 (g.eN / 2))) (cpF g.el g.eN)) ++ (ws)) := hD
  exact rkR hx hb hr (Or.inr ⟨_, rfl⟩) hlk hS () trivial hP hD (show 0 + 1 ≤ 1 by omega) (show 0 + (g.eN + max 1 (g.eN / 2)) ≤ g.eN + max 1 (g.eN / 2) by omega) d_L_grow_d81_10
set_option maxHeartbeats 4000000 in
set_option maxRecDepth 100000 in
theorem v_Ladd3_gW (l : Launch) (D : va_G) (dA : Nat → ClassId) (sz : Nat) (e0 mi : Nat) (ws : va_W) (la : Nat → Nat) (g : LI) (v : Nat) (fs : List Value) (hel : ∀ i : Nat, i < g.eN → ∀ y : Nat, g.el i = some y → ∃ vs : List Value, (y, .inr (10, vs)) ∈ ws) (h1 : 0 < g.eN) (h2 : g.eN ≤ 65536) (h3 : g.sz = g.eN) (mo : (v, .inr (10, fs)) ∈ ws) : Met l ⟨"java/util/ArrayList", "add", "(Ljava/lang/Object;[Ljava/lang/Object;I)V"⟩ [Cond.code ⟨"java/util/ArrayList", "add", "(Ljava/lang/Object;[Ljava/lang/Object;I)V"⟩ prog_37_method_24_code 4 none] { frames := 5, cells := 1, slots := g.eN + max 1 (g.eN / 2), locals := 127 } (pCy D dA e0 mi [.ref (la 0), .ref v, .ref g.eA, .int (nI g.sz)] (LiW dA la g ++ (ws)) sz) (va_Qv (fun (u9 : Nat) => True) (fun (u9 : Nat) t9 => bW D (va_A (LiW dA la g ++ (ws)) sz) (LiW dA la (LI.s_el (LI.s_eN (LI.s_eA (LI.s_sz g (g.sz + 1)) u9) (g.eN + max 1 (g.eN / 2))) (va_up (cpF g.el g.eN) g.sz (some v))) ++ (ws)) t9) (va_A (LiW dA la g ++ (ws)) sz)) 1 (g.eN + max 1 (g.eN / 2)) (va_A (LiW dA la g ++ (ws)) sz) := by
  refine mkY (y := ⟨"java/util/ArrayList", "add", "(Ljava/lang/Object;[Ljava/lang/Object;I)V"⟩) (cc := prog_37_method_24_code) (maxL := 4) (av := [.ref (la 0), .ref v, .ref g.eA, .int (nI g.sz)]) (ws := LiW dA la g ++ (ws)) (sz := sz) (Qc := fun A => va_Qv (fun (u9 : Nat) => True) (fun (u9 : Nat) t9 => bW D A (LiW dA la (LI.s_el (LI.s_eN (LI.s_eA (LI.s_sz g (g.sz + 1)) u9) (g.eN + max 1 (g.eN / 2))) (va_up (cpF g.el g.eN) g.sz (some v))) ++ (ws)) t9) A) (by decide) (Nat.le_of_ble_eq_true rfl) ?_
  intro A p e s m below meth c ls hsz hZ hT hM hB
  obtain ⟨hx, hb, hr, hml, hown, hin, hlk, hE, hK, hP, hD, hS, hA, hN, hl⟩ := hB
  have hown : s.vm.findClass "java/util/ArrayList" = some m.cls := hown
  have hl : lv_has ls 4 [(0, .ref (la 0)), (1, .ref v), (2, .ref g.eA), (3, .int (nI g.sz))] := hl
  obtain ⟨H, hH⟩ : ∃ z, z = s.heap := ⟨_, rfl⟩
  have hP : va_P D vwCl (LiW dA la g ++ (ws)) H := by rw [hH]; exact hP
  have hS : va_S A s.heap H [] := by rw [hH]; exact hS
  rw [← hH]
  refine lv_iload_n hx hb d_L_add_faf_0 rfl (lv_at hl 3 rfl) ?_
  refine lv_aload_n hx hb d_L_add_faf_1 rfl (lv_at hl 2 rfl) ?_
  refine va_alen (v := nI g.eN) hx hb hK hP (1) 7 rfl rfl rfl d_L_add_faf_2 ?_
  refine lv_icmp_ne hx hb d_L_add_faf_3 (tgt := 11) rfl (fun h9 => absurd ((nI_eq (a := g.sz) (b := g.eN) (by omega) (by omega)).mpr h3) h9) (fun _ => ?_)
  refine lv_aload_n hx hb d_L_add_faf_6 rfl (lv_at hl 0 rfl) ?_
  refine jkR (wr := []) (rnVy (As := []) (rest := []) hx hb hml hown hE hK hZ hT hM hS (hN _ _ hS) hP hD (v_Lgrow_W l D dA H.size e0 mi ws la g hel (show 0 < g.eN from by omega) (show g.eN ≤ 65536 from by omega) (show g.sz = g.eN from by omega)) (q0 := 0) rfl rfl w773 w772 w774 w775 w680 rfl rfl ⟨⟨by decide, by decide⟩, rfl⟩ ⟨(Nat.le_of_ble_eq_true rfl), (Nat.le_of_ble_eq_true rfl)⟩ rfl hl.1 rfl (Nat.le_of_ble_eq_true rfl) d_L_add_faf_7 ⟨(show 0 + 1 ≤ 1 by omega), (show 0 + (g.eN + max 1 (g.eN / 2)) ≤ g.eN + max 1 (g.eN / 2) by omega)⟩) hP hD hS hA (fun u1 b H locs hp9 hP hD hS => ?_)
  have hP : va_P D vwCl (LiW dA la (LI.s_el (LI.s_eN (LI.s_eA g b) (g.eN + max 1 (g.eN / 2))) (cpF g.el g.eN)) ++ (ws)) H := hP
  have hD : va_D A (LiW dA la (LI.s_el (LI.s_eN (LI.s_eA g b) (g.eN + max 1 (g.eN / 2))) (cpF g.el g.eN)) ++ (ws)) := hD
  refine lv_astore_n hx hb d_L_add_faf_10 rfl hl (by decide) rfl (fun ls hl => ?_)
  have hl : lv_has ls 4 [(2, .ref b), (0, .ref (la 0)), (1, .ref v), (3, .int (nI g.sz))] := hl
  refine lv_aload_n hx hb d_L_add_faf_11 rfl (lv_at hl 0 rfl) ?_
  refine lv_iload_n hx hb d_L_add_faf_12 rfl (lv_at hl 3 rfl) ?_
  refine lv_aload_n hx hb d_L_add_faf_13 rfl (lv_at hl 2 rfl) ?_
  obtain ⟨qp2, ep3⟩ := List.getElem?_of_mem (show ((v, .inr (10, fs)) : Nat × va_E) ∈ LiW dA la (LI.s_el (LI.s_eN (LI.s_eA g b) (g.eN + max 1 (g.eN / 2))) (cpF g.el g.eN)) ++ (ws) from (List.mem_append_right _ mo))
  refine nqstO (E := "java/lang/Object") (r := ("SeriesVault$Word", TW, 1)) (f := (cpF g.el g.eN)) (n := g.eN + max 1 (g.eN / 2)) hx hb hK hP hD hS (1) 7 (qp2) 10 rfl rfl (show va_Nw (.castable "SeriesVault$Word" "java/lang/Object") s from hE.1 _ w1456) ep3 rfl (g.sz) (by omega) (by omega) d_L_add_faf_14 (fun H locs hP hD hS => ?_)
  have hP : va_P D vwCl (LiW dA la (LI.s_el (LI.s_eN (LI.s_eA g b) (g.eN + max 1 (g.eN / 2))) (va_up (cpF g.el g.eN) g.sz (some v))) ++ (ws)) H := hP
  have hD : va_D A (LiW dA la (LI.s_el (LI.s_eN (LI.s_eA g b) (g.eN + max 1 (g.eN / 2))) (va_up (cpF g.el g.eN) g.sz (some v))) ++ (ws)) := hD
  refine lv_aload_n hx hb d_L_add_faf_15 rfl (lv_at hl 1 rfl) ?_
  refine lv_iload_n hx hb d_L_add_faf_16 rfl (lv_at hl 3 rfl) ?_
  refine lv_iconst (v := 1) hx hb d_L_add_faf_17 (by decide) ?_
  refine lv_iadd hx hb d_L_add_faf_18 (tpi (y := nI (g.sz + 1)) (nI_add (g.sz) (1)) ?_)
  refine pF (v := .int (nI (g.sz + 1))) hx hb hown hE hK hP hD hS 0 rfl rfl layL tyL tokL nmL 1 (by decide) w657 rfl rfl rfl (Nat.le_of_ble_eq_true rfl) d_L_add_faf_19 (fun H locs hP hD hS => ?_)
  have hP : va_P D vwCl (LiW dA la (LI.s_el (LI.s_eN (LI.s_eA (LI.s_sz g (g.sz + 1)) b) (g.eN + max 1 (g.eN / 2))) (va_up (cpF g.el g.eN) g.sz (some v))) ++ (ws)) H := hP
  have hD : va_D A (LiW dA la (LI.s_el (LI.s_eN (LI.s_eA (LI.s_sz g (g.sz + 1)) b) (g.eN + max 1 (g.eN / 2))) (va_up (cpF g.el g.eN) g.sz (some v))) ++ (ws)) := hD
  exact rfV hx hb hr hlk hS b trivial hP hD (show 0 + 1 ≤ 1 by omega) (show 0 + (g.eN + max 1 (g.eN / 2)) ≤ g.eN + max 1 (g.eN / 2) by omega) d_L_add_faf_22
set_option maxHeartbeats 4000000 in
set_option maxRecDepth 100000 in
theorem v_Ladd_gW (l : Launch) (D : va_G) (dA : Nat → ClassId) (sz : Nat) (e0 mi : Nat) (ws : va_W) (la : Nat → Nat) (g : LI) (v : Nat) (fs : List Value) (hel : ∀ i : Nat, i < g.eN → ∀ y : Nat, g.el i = some y → ∃ vs : List Value, (y, .inr (10, vs)) ∈ ws) (h1 : 0 < g.eN) (h2 : g.eN ≤ 65536) (h3 : g.sz = g.eN) (mo : (v, .inr (10, fs)) ∈ ws) : Met l ⟨"java/util/ArrayList", "add", "(Ljava/lang/Object;)Z"⟩ [Cond.code ⟨"java/util/ArrayList", "add", "(Ljava/lang/Object;)Z"⟩ prog_37_method_25_code 2 (some FieldType.boolean)] { frames := 6, cells := 1, slots := g.eN + max 1 (g.eN / 2), locals := 150 } (pCy D dA e0 mi [.ref (la 0), .ref v] (LiW dA la g ++ (ws)) sz) (va_Qi (fun (r9 : Int32) (u9 : Nat) => r9 = 1) (fun (u9 : Nat) t9 => bW D (va_A (LiW dA la g ++ (ws)) sz) (LiW dA la (LI.s_el (LI.s_eN (LI.s_eA (LI.s_mc (LI.s_sz g (g.sz + 1)) (g.mc + 1)) u9) (g.eN + max 1 (g.eN / 2))) (va_up (cpF g.el g.eN) g.sz (some v))) ++ (ws)) t9) (va_A (LiW dA la g ++ (ws)) sz)) 1 (g.eN + max 1 (g.eN / 2)) (va_A (LiW dA la g ++ (ws)) sz) := by
  refine mkY (y := ⟨"java/util/ArrayList", "add", "(Ljava/lang/Object;)Z"⟩) (cc := prog_37_method_25_code) (maxL := 2) (av := [.ref (la 0), .ref v]) (ws := LiW dA la g ++ (ws)) (sz := sz) (Qc := fun A => va_Qi (fun (r9 : Int32) (u9 : Nat) => r9 = 1) (fun (u9 : Nat) t9 => bW D A (LiW dA la (LI.s_el (LI.s_eN (LI.s_eA (LI.s_mc (LI.s_sz g (g.sz + 1)) (g.mc + 1)) u9) (g.eN + max 1 (g.eN / 2))) (va_up (cpF g.el g.eN) g.sz (some v))) ++ (ws)) t9) A) (by decide) (Nat.le_of_ble_eq_true rfl) ?_
  intro A p e s m below meth c ls hsz hZ hT hM hB
  obtain ⟨hx, hb, hr, hml, hown, hin, hlk, hE, hK, hP, hD, hS, hA, hN, hl⟩ := hB
  have hown : s.vm.findClass "java/util/ArrayList" = some m.cls := hown
  have hl : lv_has ls 2 [(0, .ref (la 0)), (1, .ref v)] := hl
  obtain ⟨H, hH⟩ : ∃ z, z = s.heap := ⟨_, rfl⟩
  have hP : va_P D vwCl (LiW dA la g ++ (ws)) H := by rw [hH]; exact hP
  have hS : va_S A s.heap H [] := by rw [hH]; exact hS
  rw [← hH]
  refine lv_aload_n hx hb d_L_add_9ae_0 rfl (lv_at hl 0 rfl) ?_
  refine lv_dup hx hb d_L_add_9ae_1 rfl ?_
  refine gFU (v := .int g.mc) hx hb hown hE hK hP 0 rfl rfl layL 2 (by decide) w654 w655 rfl d_L_add_9ae_2 ?_
  refine lv_iconst (v := 1) hx hb d_L_add_9ae_5 (by decide) ?_
  refine lv_iadd hx hb d_L_add_9ae_6 ?_
  refine pFU (v := .int (g.mc + 1)) hx hb hown hE hK hP hD hS 0 rfl rfl layL tyL tokL nmL 2 (by decide) w654 w655 rfl rfl rfl (Nat.le_of_ble_eq_true rfl) d_L_add_9ae_7 (fun H locs hP hD hS => ?_)
  have hP : va_P D vwCl (LiW dA la (LI.s_mc g (g.mc + 1)) ++ (ws)) H := hP
  have hD : va_D A (LiW dA la (LI.s_mc g (g.mc + 1)) ++ (ws)) := hD
  refine lv_aload_n hx hb d_L_add_9ae_10 rfl (lv_at hl 0 rfl) ?_
  refine lv_aload_n hx hb d_L_add_9ae_11 rfl (lv_at hl 1 rfl) ?_
  refine lv_aload_n hx hb d_L_add_9ae_12 rfl (lv_at hl 0 rfl) ?_
  refine gF (v := .ref g.eA) hx hb hown hE hK hP 0 rfl rfl layL 0 (by decide) w656 rfl d_L_add_9ae_13 ?_
  refine lv_aload_n hx hb d_L_add_9ae_16 rfl (lv_at hl 0 rfl) ?_
  refine gF (v := .int (nI g.sz)) hx hb hown hE hK hP 0 rfl rfl layL 1 (by decide) w657 rfl d_L_add_9ae_17 ?_
  refine jkV (wr := []) (rnVy (As := [.ref v, .ref g.eA, .int (nI g.sz)]) (rest := []) hx hb hml hown hE hK hZ hT hM hS (hN _ _ hS) hP hD (v_Ladd3_gW l D dA H.size e0 mi ws la (LI.s_mc g (g.mc + 1)) v fs hel (show 0 < g.eN from by omega) (show g.eN ≤ 65536 from by omega) (show g.sz = g.eN from by omega) mo) (q0 := 0) rfl rfl w778 w777 w779 w780 w680 rfl rfl ⟨⟨by decide, by decide⟩, rfl⟩ ⟨(Nat.le_of_ble_eq_true rfl), (Nat.le_of_ble_eq_true rfl)⟩ rfl hl.1 rfl (Nat.le_of_ble_eq_true rfl) d_L_add_9ae_20 ⟨(show 0 + 1 ≤ 1 by omega), (show 0 + (g.eN + max 1 (g.eN / 2)) ≤ g.eN + max 1 (g.eN / 2) by omega)⟩) hP hD hS hA (fun u2 H locs hp9 hP hD hS => ?_)
  obtain ⟨b, h9u⟩ : ∃ z9, z9 = u2 := ⟨_, rfl⟩
  subst h9u
  have hP : va_P D vwCl (LiW dA la (LI.s_el (LI.s_eN (LI.s_eA (LI.s_mc (LI.s_sz g (g.sz + 1)) (g.mc + 1)) b) (g.eN + max 1 (g.eN / 2))) (va_up (cpF g.el g.eN) g.sz (some v))) ++ (ws)) H := hP
  have hD : va_D A (LiW dA la (LI.s_el (LI.s_eN (LI.s_eA (LI.s_mc (LI.s_sz g (g.sz + 1)) (g.mc + 1)) b) (g.eN + max 1 (g.eN / 2))) (va_up (cpF g.el g.eN) g.sz (some v))) ++ (ws)) := hD
  refine lv_iconst (v := 1) hx hb d_L_add_9ae_23 (by decide) ?_
  exact rfZ hx hb hr (bI_nar true) hlk hS b rfl hP hD (show 0 + 1 ≤ 1 by omega) (show 0 + (g.eN + max 1 (g.eN / 2)) ≤ g.eN + max 1 (g.eN / 2) by omega) d_L_add_9ae_24
set_option maxHeartbeats 4000000 in
set_option maxRecDepth 100000 in
theorem v_Ladd3_0E (l : Launch) (D : va_G) (dA : Nat → ClassId) (sz : Nat) (e0 mi : Nat) (ws : va_W) (a : Nat) (mc : Int32) (v : Nat) (fs : List Value) (mo : (v, .inr (13, fs)) ∈ ws) : Met l ⟨"java/util/ArrayList", "add", "(Ljava/lang/Object;[Ljava/lang/Object;I)V"⟩ [Cond.code ⟨"java/util/ArrayList", "add", "(Ljava/lang/Object;[Ljava/lang/Object;I)V"⟩ prog_37_method_24_code 4 none] { frames := 3, cells := 1, slots := 10, locals := 57 } (pCy D dA e0 mi [.ref a, .ref v, .ref e0, .int 0] ([(a, .inr (6, [.ref e0, .int 0, .int mc]))] ++ (ws)) sz) (va_Qv (fun (u9 : Nat) => True) (fun (u9 : Nat) t9 => bW D (va_A ([(a, .inr (6, [.ref e0, .int 0, .int mc]))] ++ (ws)) sz) ([(u9, .inl (dA 7, 10, .inr (.inr (.inr (.inr (va_up (fun _ => none) 0 (some v)))))))] ++ ([(a, .inr (6, [.ref u9, .int 1, .int mc]))] ++ (ws))) t9) (va_A ([(a, .inr (6, [.ref e0, .int 0, .int mc]))] ++ (ws)) sz)) 1 10 (va_A ([(a, .inr (6, [.ref e0, .int 0, .int mc]))] ++ (ws)) sz) := by
  refine mkY (y := ⟨"java/util/ArrayList", "add", "(Ljava/lang/Object;[Ljava/lang/Object;I)V"⟩) (cc := prog_37_method_24_code) (maxL := 4) (av := [.ref a, .ref v, .ref e0, .int 0]) (ws := [(a, .inr (6, [.ref e0, .int 0, .int mc]))] ++ (ws)) (sz := sz) (Qc := fun A => va_Qv (fun (u9 : Nat) => True) (fun (u9 : Nat) t9 => bW D A ([(u9, .inl (dA 7, 10, .inr (.inr (.inr (.inr (va_up (fun _ => none) 0 (some v)))))))] ++ ([(a, .inr (6, [.ref u9, .int 1, .int mc]))] ++ (ws))) t9) A) (by decide) (Nat.le_of_ble_eq_true rfl) ?_
  intro A p e s m below meth c ls hsz hZ hT hM hB
  obtain ⟨hx, hb, hr, hml, hown, hin, hlk, hE, hK, hP, hD, hS, hA, hN, hl⟩ := hB
  have hown : s.vm.findClass "java/util/ArrayList" = some m.cls := hown
  have hl : lv_has ls 4 [(0, .ref a), (1, .ref v), (2, .ref e0), (3, .int 0)] := hl
  obtain ⟨H, hH⟩ : ∃ z, z = s.heap := ⟨_, rfl⟩
  have hP : va_P D vwCl ([(a, .inr (6, [.ref e0, .int 0, .int mc]))] ++ (ws)) H := by rw [hH]; exact hP
  have hS : va_S A s.heap H [] := by rw [hH]; exact hS
  rw [← hH]
  refine lv_iload_n hx hb d_L_add_faf_0 rfl (lv_at hl 3 rfl) ?_
  refine lv_aload_n hx hb d_L_add_faf_1 rfl (lv_at hl 2 rfl) ?_
  refine va_tlen (v := 0) hx hb hT hS (by decide) d_L_add_faf_2 ?_
  refine lv_icmp_ne hx hb d_L_add_faf_3 (tgt := 11) rfl (fun h9 => absurd (by decide) h9) (fun _ => ?_)
  refine lv_aload_n hx hb d_L_add_faf_6 rfl (lv_at hl 0 rfl) ?_
  refine jkR (wr := []) (rnVy (As := []) (rest := []) hx hb hml hown hE hK hZ hT hM hS (hN _ _ hS) hP hD (v_Lgrow_0 l D dA H.size e0 mi ws a mc) (q0 := 0) rfl rfl w773 w772 w774 w775 w680 rfl rfl ⟨⟨by decide, by decide⟩, rfl⟩ ⟨(Nat.le_of_ble_eq_true rfl), (Nat.le_of_ble_eq_true rfl)⟩ rfl hl.1 rfl (Nat.le_of_ble_eq_true rfl) d_L_add_faf_7 ⟨(show 0 + 1 ≤ 1 by omega), (show 0 + 10 ≤ 10 by omega)⟩) hP hD hS hA (fun u1 b H locs hp9 hP hD hS => ?_)
  have hP : va_P D vwCl ([(b, .inl (dA 7, 10, .inr (.inr (.inr (.inr (fun _ => none))))))] ++ ([(a, .inr (6, [.ref b, .int 0, .int mc]))] ++ (ws))) H := hP
  have hD : va_D A ([(b, .inl (dA 7, 10, .inr (.inr (.inr (.inr (fun _ => none))))))] ++ ([(a, .inr (6, [.ref b, .int 0, .int mc]))] ++ (ws))) := hD
  refine lv_astore_n hx hb d_L_add_faf_10 rfl hl (by decide) rfl (fun ls hl => ?_)
  have hl : lv_has ls 4 [(2, .ref b), (0, .ref a), (1, .ref v), (3, .int 0)] := hl
  refine lv_aload_n hx hb d_L_add_faf_11 rfl (lv_at hl 0 rfl) ?_
  refine lv_iload_n hx hb d_L_add_faf_12 rfl (lv_at hl 3 rfl) ?_
  refine lv_aload_n hx hb d_L_add_faf_13 rfl (lv_at hl 2 rfl) ?_
  obtain ⟨qp2, ep3⟩ := List.getElem?_of_mem (show ((v, .inr (13, fs)) : Nat × va_E) ∈ [(b, .inl (dA 7, 10, .inr (.inr (.inr (.inr (fun _ => none))))))] ++ ([(a, .inr (6, [.ref b, .int 0, .int mc]))] ++ (ws)) from (List.mem_append_right _ (List.mem_append_right _ mo)))
  refine nqstO (E := "java/lang/Object") (r := ("SeriesVault$Step", TE, 8)) (f := (fun _ => none)) (n := 10) hx hb hK hP hD hS (0) 7 (qp2) 13 rfl rfl (show va_Nw (.castable "SeriesVault$Step" "java/lang/Object") s from hE.1 _ w1457) ep3 rfl (0) (by omega) (by decide) d_L_add_faf_14 (fun H locs hP hD hS => ?_)
  have hP : va_P D vwCl ([(b, .inl (dA 7, 10, .inr (.inr (.inr (.inr (va_up (fun _ => none) 0 (some v)))))))] ++ ([(a, .inr (6, [.ref b, .int 0, .int mc]))] ++ (ws))) H := hP
  have hD : va_D A ([(b, .inl (dA 7, 10, .inr (.inr (.inr (.inr (va_up (fun _ => none) 0 (some v)))))))] ++ ([(a, .inr (6, [.ref b, .int 0, .int mc]))] ++ (ws))) := hD
  refine lv_aload_n hx hb d_L_add_faf_15 rfl (lv_at hl 1 rfl) ?_
  refine lv_iload_n hx hb d_L_add_faf_16 rfl (lv_at hl 3 rfl) ?_
  refine lv_iconst (v := 1) hx hb d_L_add_faf_17 (by decide) ?_
  refine lv_iadd hx hb d_L_add_faf_18 (tpi (y := 1) (by decide) ?_)
  refine tpi (y := 1) (by decide) ?_
  refine pF (v := .int 1) hx hb hown hE hK hP hD hS 1 rfl rfl layL tyL tokL nmL 1 (by decide) w657 rfl rfl rfl (Nat.le_of_ble_eq_true rfl) d_L_add_faf_19 (fun H locs hP hD hS => ?_)
  have hP : va_P D vwCl ([(b, .inl (dA 7, 10, .inr (.inr (.inr (.inr (va_up (fun _ => none) 0 (some v)))))))] ++ ([(a, .inr (6, [.ref b, .int 1, .int mc]))] ++ (ws))) H := hP
  have hD : va_D A ([(b, .inl (dA 7, 10, .inr (.inr (.inr (.inr (va_up (fun _ => none) 0 (some v)))))))] ++ ([(a, .inr (6, [.ref b, .int 1, .int mc]))] ++ (ws))) := hD
  exact rfV hx hb hr hlk hS b trivial hP hD (show 0 + 1 ≤ 1 by omega) (show 0 + 10 ≤ 10 by omega) d_L_add_faf_22
set_option maxHeartbeats 4000000 in
set_option maxRecDepth 100000 in
theorem v_Ladd_0E (l : Launch) (D : va_G) (dA : Nat → ClassId) (sz : Nat) (e0 mi : Nat) (ws : va_W) (a : Nat) (mc : Int32) (v : Nat) (fs : List Value) (mo : (v, .inr (13, fs)) ∈ ws) : Met l ⟨"java/util/ArrayList", "add", "(Ljava/lang/Object;)Z"⟩ [Cond.code ⟨"java/util/ArrayList", "add", "(Ljava/lang/Object;)Z"⟩ prog_37_method_25_code 2 (some FieldType.boolean)] { frames := 4, cells := 1, slots := 10, locals := 80 } (pCy D dA e0 mi [.ref a, .ref v] ([(a, .inr (6, [.ref e0, .int 0, .int mc]))] ++ (ws)) sz) (va_Qi (fun (r9 : Int32) (u9 : Nat) => r9 = 1) (fun (u9 : Nat) t9 => bW D (va_A ([(a, .inr (6, [.ref e0, .int 0, .int mc]))] ++ (ws)) sz) ([(u9, .inl (dA 7, 10, .inr (.inr (.inr (.inr (va_up (fun _ => none) 0 (some v)))))))] ++ ([(a, .inr (6, [.ref u9, .int 1, .int (mc + 1)]))] ++ (ws))) t9) (va_A ([(a, .inr (6, [.ref e0, .int 0, .int mc]))] ++ (ws)) sz)) 1 10 (va_A ([(a, .inr (6, [.ref e0, .int 0, .int mc]))] ++ (ws)) sz) := by
  refine mkY (y := ⟨"java/util/ArrayList", "add", "(Ljava/lang/Object;)Z"⟩) (cc := prog_37_method_25_code) (maxL := 2) (av := [.ref a, .ref v]) (ws := [(a, .inr (6, [.ref e0, .int 0, .int mc]))] ++ (ws)) (sz := sz) (Qc := fun A => va_Qi (fun (r9 : Int32) (u9 : Nat) => r9 = 1) (fun (u9 : Nat) t9 => bW D A ([(u9, .inl (dA 7, 10, .inr (.inr (.inr (.inr (va_up (fun _ => none) 0 (some v)))))))] ++ ([(a, .inr (6, [.ref u9, .int 1, .int (mc + 1)]))] ++ (ws))) t9) A) (by decide) (Nat.le_of_ble_eq_true rfl) ?_
  intro A p e s m below meth c ls hsz hZ hT hM hB
  obtain ⟨hx, hb, hr, hml, hown, hin, hlk, hE, hK, hP, hD, hS, hA, hN, hl⟩ := hB
  have hown : s.vm.findClass "java/util/ArrayList" = some m.cls := hown
  have hl : lv_has ls 2 [(0, .ref a), (1, .ref v)] := hl
  obtain ⟨H, hH⟩ : ∃ z, z = s.heap := ⟨_, rfl⟩
  have hP : va_P D vwCl ([(a, .inr (6, [.ref e0, .int 0, .int mc]))] ++ (ws)) H := by rw [hH]; exact hP
  have hS : va_S A s.heap H [] := by rw [hH]; exact hS
  rw [← hH]
  refine lv_aload_n hx hb d_L_add_9ae_0 rfl (lv_at hl 0 rfl) ?_
  refine lv_dup hx hb d_L_add_9ae_1 rfl ?_
  refine gFU (v := .int mc) hx hb hown hE hK hP 0 rfl rfl layL 2 (by decide) w654 w655 rfl d_L_add_9ae_2 ?_
  refine lv_iconst (v := 1) hx hb d_L_add_9ae_5 (by decide) ?_
  refine lv_iadd hx hb d_L_add_9ae_6 ?_
  refine pFU (v := .int (mc + 1)) hx hb hown hE hK hP hD hS 0 rfl rfl layL tyL tokL nmL 2 (by decide) w654 w655 rfl rfl rfl (Nat.le_of_ble_eq_true rfl) d_L_add_9ae_7 (fun H locs hP hD hS => ?_)
  have hP : va_P D vwCl ([(a, .inr (6, [.ref e0, .int 0, .int (mc + 1)]))] ++ (ws)) H := hP
  have hD : va_D A ([(a, .inr (6, [.ref e0, .int 0, .int (mc + 1)]))] ++ (ws)) := hD
  refine lv_aload_n hx hb d_L_add_9ae_10 rfl (lv_at hl 0 rfl) ?_
  refine lv_aload_n hx hb d_L_add_9ae_11 rfl (lv_at hl 1 rfl) ?_
  refine lv_aload_n hx hb d_L_add_9ae_12 rfl (lv_at hl 0 rfl) ?_
  refine gF (v := .ref e0) hx hb hown hE hK hP 0 rfl rfl layL 0 (by decide) w656 rfl d_L_add_9ae_13 ?_
  refine lv_aload_n hx hb d_L_add_9ae_16 rfl (lv_at hl 0 rfl) ?_
  refine gF (v := .int 0) hx hb hown hE hK hP 0 rfl rfl layL 1 (by decide) w657 rfl d_L_add_9ae_17 ?_
  refine jkV (wr := []) (rnVy (As := [.ref v, .ref e0, .int 0]) (rest := []) hx hb hml hown hE hK hZ hT hM hS (hN _ _ hS) hP hD (v_Ladd3_0E l D dA H.size e0 mi ws a (mc + 1) v fs mo) (q0 := 0) rfl rfl w778 w777 w779 w780 w680 rfl rfl ⟨⟨by decide, by decide⟩, rfl⟩ ⟨(Nat.le_of_ble_eq_true rfl), (Nat.le_of_ble_eq_true rfl)⟩ rfl hl.1 rfl (Nat.le_of_ble_eq_true rfl) d_L_add_9ae_20 ⟨(show 0 + 1 ≤ 1 by omega), (show 0 + 10 ≤ 10 by omega)⟩) hP hD hS hA (fun u2 H locs hp9 hP hD hS => ?_)
  obtain ⟨b, h9u⟩ : ∃ z9, z9 = u2 := ⟨_, rfl⟩
  subst h9u
  have hP : va_P D vwCl ([(b, .inl (dA 7, 10, .inr (.inr (.inr (.inr (va_up (fun _ => none) 0 (some v)))))))] ++ ([(a, .inr (6, [.ref b, .int 1, .int (mc + 1)]))] ++ (ws))) H := hP
  have hD : va_D A ([(b, .inl (dA 7, 10, .inr (.inr (.inr (.inr (va_up (fun _ => none) 0 (some v)))))))] ++ ([(a, .inr (6, [.ref b, .int 1, .int (mc + 1)]))] ++ (ws))) := hD
  refine lv_iconst (v := 1) hx hb d_L_add_9ae_23 (by decide) ?_
  exact rfZ hx hb hr (bI_nar true) hlk hS b rfl hP hD (show 0 + 1 ≤ 1 by omega) (show 0 + 10 ≤ 10 by omega) d_L_add_9ae_24
set_option maxHeartbeats 4000000 in
set_option maxRecDepth 100000 in
theorem v_ocopy3_E (l : Launch) (D : va_G) (dA : Nat → ClassId) (sz : Nat) (e0 mi : Nat) (ws : va_W) (arr : Nat) (k : Nat) (f : Nat → Option Nat) (n : Nat) (m1 : (arr, .inl (dA 7, k, .inr (.inr (.inr (.inr f))))) ∈ ws) (hel : ∀ i : Nat, i < k → ∀ y : Nat, f i = some y → ∃ vs : List Value, (y, .inr (13, vs)) ∈ ws) (h1 : k ≤ n) (h2 : n ≤ 131072) : Met l ⟨"java/util/Arrays", "copyOf", "([Ljava/lang/Object;ILjava/lang/Class;)[Ljava/lang/Object;"⟩ [Cond.code ⟨"java/util/Arrays", "copyOf", "([Ljava/lang/Object;ILjava/lang/Class;)[Ljava/lang/Object;"⟩ prog_38_method_120_code 4 (some (FieldType.array (FieldType.object "java/lang/Object")))] { frames := 1, cells := 1, slots := n, locals := 40 } (pCy D dA e0 mi [.ref arr, .int (nI n), .ref mi] (ws) sz) (va_Qr (fun (_ : (Nat → Option Nat)) => True) (fun (u9 : (Nat → Option Nat)) (r9 : Nat) t9 => (u9 = cpF f k) ∧ bW D (va_A (ws) sz) ([(r9, .inl (dA 7, n, .inr (.inr (.inr (.inr u9)))))] ++ (ws)) t9) (va_A (ws) sz)) 1 n (va_A (ws) sz) := by
  refine mkY (y := ⟨"java/util/Arrays", "copyOf", "([Ljava/lang/Object;ILjava/lang/Class;)[Ljava/lang/Object;"⟩) (cc := prog_38_method_120_code) (maxL := 4) (av := [.ref arr, .int (nI n), .ref mi]) (ws := ws) (sz := sz) (Qc := fun A => va_Qr (fun (_ : (Nat → Option Nat)) => True) (fun (u9 : (Nat → Option Nat)) (r9 : Nat) t9 => (u9 = cpF f k) ∧ bW D A ([(r9, .inl (dA 7, n, .inr (.inr (.inr (.inr u9)))))] ++ (ws)) t9) A) (by decide) (Nat.le_of_ble_eq_true rfl) ?_
  intro A p e s m below meth c ls hsz hZ hT hM hB
  obtain ⟨hx, hb, hr, hml, hown, hin, hlk, hE, hK, hP, hD, hS, hA, hN, hl⟩ := hB
  have hown : s.vm.findClass "java/util/Arrays" = some m.cls := hown
  have hl : lv_has ls 4 [(0, .ref arr), (1, .int (nI n)), (2, .ref mi)] := hl
  obtain ⟨H, hH⟩ : ∃ z, z = s.heap := ⟨_, rfl⟩
  have hP : va_P D vwCl (ws) H := by rw [hH]; exact hP
  have hS : va_S A s.heap H [] := by rw [hH]; exact hS
  rw [← hH]
  refine lv_aload_n hx hb d_Arrays_copyOf_918_0 rfl (lv_at hl 2 rfl) ?_
  refine va_ldcM hx hb hown (hE.t w1460 rfl) hM d_Arrays_copyOf_918_1 ?_
  refine lv_acmp_ne (rx := some mi) (ry := some mi) hx hb d_Arrays_copyOf_918_3 (tgt := 13) rfl (fun h9 => absurd rfl h9) (fun _ => ?_)
  refine lv_iload_n hx hb d_Arrays_copyOf_918_6 rfl (lv_at hl 1 rfl) ?_
  refine nnQ (N' := n) hx hb hown hE w1461 w767 hK hP hD hS hA 7 rfl (by omega) (show n * 4 ≤ 536870912 by omega) (show 0 + 1 ≤ 1 by omega) (show 0 + n ≤ n by omega) d_Arrays_copyOf_918_7 (fun r9 H hP hD hS => ?_)
  have hP : va_P D vwCl ([(r9, .inl (dA 7, n, .inr (.inr (.inr (.inr (fun _ => none))))))] ++ (ws)) H := hP
  have hD : va_D A ([(r9, .inl (dA 7, n, .inr (.inr (.inr (.inr (fun _ => none))))))] ++ (ws)) := hD
  refine lv_goto hx hb d_Arrays_copyOf_918_10 (tgt := 24) rfl ?_
  refine lv_astore_n hx hb d_Arrays_copyOf_918_24 rfl hl (by decide) rfl (fun ls hl => ?_)
  have hl : lv_has ls 4 [(3, .ref r9), (0, .ref arr), (1, .int (nI n)), (2, .ref mi)] := hl
  refine lv_aload_n hx hb d_Arrays_copyOf_918_25 rfl (lv_at hl 1 rfl) ?_
  refine lv_iconst (v := 0) hx hb d_Arrays_copyOf_918_26 (by decide) ?_
  refine lv_aload_n hx hb d_Arrays_copyOf_918_27 rfl (lv_at hl 0 rfl) ?_
  refine lv_iconst (v := 0) hx hb d_Arrays_copyOf_918_28 (by decide) ?_
  refine lv_aload_n hx hb d_Arrays_copyOf_918_29 rfl (lv_at hl 1 rfl) ?_
  obtain ⟨qp1, ep2⟩ := List.getElem?_of_mem (show ((arr, .inl (dA 7, k, .inr (.inr (.inr (.inr f))))) : Nat × va_E) ∈ [(r9, .inl (dA 7, n, .inr (.inr (.inr (.inr (fun _ => none))))))] ++ (ws) from (List.mem_append_right _ m1))
  refine va_alen (v := nI k) hx hb hK hP (qp1) 7 ep2 rfl rfl d_Arrays_copyOf_918_30 ?_
  refine lv_iload_n hx hb d_Arrays_copyOf_918_31 rfl (lv_at hl 2 rfl) ?_
  refine va_mmin hx hb (hml.trans hl.1.symm) hown (hE.t w1109 rfl) (hE.t w548 rfl) (hE.t w549 rfl) (hE.t w550 rfl) (Nat.le_of_ble_eq_true rfl) (Nat.le_of_ble_eq_true rfl) (show 0 + 1 ≤ 1 by omega) (show 0 + n ≤ n by omega) d_Arrays_copyOf_918_32 (tpi (y := nI (min k n)) (nI_min (a := k) (b := n) (by omega) (by omega)) ?_)
  obtain ⟨qp3, ep4⟩ := List.getElem?_of_mem (show ((arr, .inl (dA 7, k, .inr (.inr (.inr (.inr f))))) : Nat × va_E) ∈ [(r9, .inl (dA 7, n, .inr (.inr (.inr (.inr (fun _ => none))))))] ++ (ws) from (List.mem_append_right _ m1))
  refine ncpyO (E := "java/lang/Object") (r := ("SeriesVault$Step", TE, 8)) (f := f) (g := (fun _ => none)) (n0 := k) (n1 := n) hx hb (hml.trans hl.1.symm) hown (hE.t w1110 rfl) (hE.t w720 rfl) (hE.t w721 rfl) (hE.t w722 rfl) hK hP hD hS (qp3) (0) 7 13 (show va_Nw (.castable "SeriesVault$Step" "java/lang/Object") s from hE.1 _ w1457) ep4 rfl rfl rfl (0) (0) (min k n) (by omega) (by omega) (by omega) (by omega) (by omega) (fun i hi y hy => by obtain ⟨vs, hv⟩ := hel i (by omega) y (by rw [Nat.zero_add] at hy; exact hy); exact ⟨vs, (List.mem_append_right _ hv)⟩) (Nat.le_of_ble_eq_true rfl) (Nat.le_of_ble_eq_true rfl) d_Arrays_copyOf_918_35 (fun H locs hP hD hS => ?_)
  have hP : va_P D vwCl ([(r9, .inl (dA 7, n, .inr (.inr (.inr (.inr (va_cpy f (fun _ => none) 0 0 (min k n)))))))] ++ (ws)) H := hP
  have hD : va_D A ([(r9, .inl (dA 7, n, .inr (.inr (.inr (.inr (va_cpy f (fun _ => none) 0 0 (min k n)))))))] ++ (ws)) := hD
  refine lv_aload_n hx hb d_Arrays_copyOf_918_38 rfl (lv_at hl 0 rfl) ?_
  exact rkR hx hb hr (Or.inr ⟨_, rfl⟩) hlk hS (va_cpy f (fun _ => none) 0 0 (min k n)) (cpF_e h1) hP hD (show 0 + 1 ≤ 1 by omega) (show 0 + n ≤ n by omega) d_Arrays_copyOf_918_39
set_option maxHeartbeats 4000000 in
set_option maxRecDepth 100000 in
theorem v_ocopy_E (l : Launch) (D : va_G) (dA : Nat → ClassId) (sz : Nat) (e0 mi : Nat) (ws : va_W) (arr : Nat) (k : Nat) (f : Nat → Option Nat) (n : Nat) (m1 : (arr, .inl (dA 7, k, .inr (.inr (.inr (.inr f))))) ∈ ws) (hel : ∀ i : Nat, i < k → ∀ y : Nat, f i = some y → ∃ vs : List Value, (y, .inr (13, vs)) ∈ ws) (h1 : k ≤ n) (h2 : n ≤ 131072) : Met l ⟨"java/util/Arrays", "copyOf", "([Ljava/lang/Object;I)[Ljava/lang/Object;"⟩ [Cond.code ⟨"java/util/Arrays", "copyOf", "([Ljava/lang/Object;I)[Ljava/lang/Object;"⟩ prog_38_method_119_code 2 (some (FieldType.array (FieldType.object "java/lang/Object")))] { frames := 2, cells := 1, slots := n, locals := 63 } (pCy D dA e0 mi [.ref arr, .int (nI n)] (ws) sz) (va_Qr (fun (_ : (Nat → Option Nat)) => True) (fun (u9 : (Nat → Option Nat)) (r9 : Nat) t9 => (u9 = cpF f k) ∧ bW D (va_A (ws) sz) ([(r9, .inl (dA 7, n, .inr (.inr (.inr (.inr u9)))))] ++ (ws)) t9) (va_A (ws) sz)) 1 n (va_A (ws) sz) := by
  refine mkY (y := ⟨"java/util/Arrays", "copyOf", "([Ljava/lang/Object;I)[Ljava/lang/Object;"⟩) (cc := prog_38_method_119_code) (maxL := 2) (av := [.ref arr, .int (nI n)]) (ws := ws) (sz := sz) (Qc := fun A => va_Qr (fun (_ : (Nat → Option Nat)) => True) (fun (u9 : (Nat → Option Nat)) (r9 : Nat) t9 => (u9 = cpF f k) ∧ bW D A ([(r9, .inl (dA 7, n, .inr (.inr (.inr (.inr u9)))))] ++ (ws)) t9) A) (by decide) (Nat.le_of_ble_eq_true rfl) ?_
  intro A p e s m below meth c ls hsz hZ hT hM hB
  obtain ⟨hx, hb, hr, hml, hown, hin, hlk, hE, hK, hP, hD, hS, hA, hN, hl⟩ := hB
  have hown : s.vm.findClass "java/util/Arrays" = some m.cls := hown
  have hl : lv_has ls 2 [(0, .ref arr), (1, .int (nI n))] := hl
  obtain ⟨H, hH⟩ : ∃ z, z = s.heap := ⟨_, rfl⟩
  have hP : va_P D vwCl (ws) H := by rw [hH]; exact hP
  have hS : va_S A s.heap H [] := by rw [hH]; exact hS
  rw [← hH]
  refine lv_aload_n hx hb d_Arrays_copyOf_5ca_0 rfl (lv_at hl 0 rfl) ?_
  refine lv_iload_n hx hb d_Arrays_copyOf_5ca_1 rfl (lv_at hl 1 rfl) ?_
  refine lv_aload_n hx hb d_Arrays_copyOf_5ca_2 rfl (lv_at hl 0 rfl) ?_
  obtain ⟨qp1, ep2⟩ := List.getElem?_of_mem (show ((arr, .inl (dA 7, k, .inr (.inr (.inr (.inr f))))) : Nat × va_E) ∈ ws from m1)
  refine ngetC hx hb (hml.trans hl.1.symm) hown hE w1462 w1463 w1464 w1465 w1466 hM hK hP (qp1) ep2 (Nat.le_of_ble_eq_true rfl) (Nat.le_of_ble_eq_true rfl) d_Arrays_copyOf_5ca_3 ?_
  refine jkR (wr := []) (rnSy (As := [.ref arr, .int (nI n), .ref mi]) (rest := []) hx hb hml hown hE hK hZ hT hM hS (hN _ _ hS) hP hD (v_ocopy3_E l D dA H.size e0 mi ws arr k f n m1 hel (show k ≤ n from by omega) (show n ≤ 131072 from by omega)) w1468 w1467 w1469 w712 rfl rfl ⟨⟨by decide, by decide⟩, rfl⟩ ⟨(Nat.le_of_ble_eq_true rfl), (Nat.le_of_ble_eq_true rfl)⟩ rfl hl.1 rfl (Nat.le_of_ble_eq_true rfl) d_Arrays_copyOf_5ca_6 ⟨(show 0 + 1 ≤ 1 by omega), (show 0 + n ≤ n by omega)⟩) hP hD hS hA (fun u3 r9 H locs hp9 hP hD hS => ?_)
  obtain ⟨gx, h9u⟩ : ∃ z9, z9 = u3 := ⟨_, rfl⟩
  subst h9u
  have hP : va_P D vwCl ([(r9, .inl (dA 7, n, .inr (.inr (.inr (.inr gx)))))] ++ (ws)) H := hP
  have hD : va_D A ([(r9, .inl (dA 7, n, .inr (.inr (.inr (.inr gx)))))] ++ (ws)) := hD
  have f_e_4 := hp9
  exact rkR hx hb hr (Or.inr ⟨_, rfl⟩) hlk hS gx f_e_4 hP hD (show 0 + 1 ≤ 1 by omega) (show 0 + n ≤ n by omega) d_Arrays_copyOf_5ca_9
set_option maxHeartbeats 4000000 in
set_option maxRecDepth 100000 in
theorem v_Lgrow1_E (l : Launch) (D : va_G) (dA : Nat → ClassId) (sz : Nat) (e0 mi : Nat) (ws : va_W) (la : Nat → Nat) (g : LI) (mn : Nat) (hel : ∀ i : Nat, i < g.eN → ∀ y : Nat, g.el i = some y → ∃ vs : List Value, (y, .inr (13, vs)) ∈ ws) (h1 : 0 < g.eN) (h2 : g.eN ≤ 65536) (h3 : g.sz = g.eN) (h4 : mn = g.eN + 1) : Met l ⟨"java/util/ArrayList", "grow", "(I)[Ljava/lang/Object;"⟩ [Cond.code ⟨"java/util/ArrayList", "grow", "(I)[Ljava/lang/Object;"⟩ prog_37_method_6_code 4 (some (FieldType.array (FieldType.object "java/lang/Object")))] { frames := 3, cells := 1, slots := g.eN + max 1 (g.eN / 2), locals := 84 } (pCy D dA e0 mi [.ref (la 0), .int (nI mn)] (LiW dA la g ++ (ws)) sz) (va_Qr (fun (_ : Unit) => True) (fun (u9 : Unit) (r9 : Nat) t9 => (True) ∧ bW D (va_A (LiW dA la g ++ (ws)) sz) (LiW dA la (LI.s_el (LI.s_eN (LI.s_eA g r9) (g.eN + max 1 (g.eN / 2))) (cpF g.el g.eN)) ++ (ws)) t9) (va_A (LiW dA la g ++ (ws)) sz)) 1 (g.eN + max 1 (g.eN / 2)) (va_A (LiW dA la g ++ (ws)) sz) := by
  refine mkY (y := ⟨"java/util/ArrayList", "grow", "(I)[Ljava/lang/Object;"⟩) (cc := prog_37_method_6_code) (maxL := 4) (av := [.ref (la 0), .int (nI mn)]) (ws := LiW dA la g ++ (ws)) (sz := sz) (Qc := fun A => va_Qr (fun (_ : Unit) => True) (fun (u9 : Unit) (r9 : Nat) t9 => (True) ∧ bW D A (LiW dA la (LI.s_el (LI.s_eN (LI.s_eA g r9) (g.eN + max 1 (g.eN / 2))) (cpF g.el g.eN)) ++ (ws)) t9) A) (by decide) (Nat.le_of_ble_eq_true rfl) ?_
  intro A p e s m below meth c ls hsz hZ hT hM hB
  obtain ⟨hx, hb, hr, hml, hown, hin, hlk, hE, hK, hP, hD, hS, hA, hN, hl⟩ := hB
  have hown : s.vm.findClass "java/util/ArrayList" = some m.cls := hown
  have hl : lv_has ls 4 [(0, .ref (la 0)), (1, .int (nI mn))] := hl
  obtain ⟨H, hH⟩ : ∃ z, z = s.heap := ⟨_, rfl⟩
  have hP : va_P D vwCl (LiW dA la g ++ (ws)) H := by rw [hH]; exact hP
  have hS : va_S A s.heap H [] := by rw [hH]; exact hS
  rw [← hH]
  refine lv_aload_n hx hb d_L_grow_6cd_0 rfl (lv_at hl 0 rfl) ?_
  refine gF (v := .ref g.eA) hx hb hown hE hK hP 0 rfl rfl layL 0 (by decide) w656 rfl d_L_grow_6cd_1 ?_
  refine va_alen (v := nI g.eN) hx hb hK hP (1) 7 rfl rfl rfl d_L_grow_6cd_4 ?_
  refine lv_istore_n hx hb d_L_grow_6cd_5 rfl hl (by decide) rfl (fun ls hl => ?_)
  have hl : lv_has ls 4 [(2, .int (nI g.eN)), (0, .ref (la 0)), (1, .int (nI mn))] := hl
  refine lv_iload_n hx hb d_L_grow_6cd_6 rfl (lv_at hl 0 rfl) ?_
  refine lv_if_gt hx hb d_L_grow_6cd_7 (tgt := 20) rfl (fun _ => ?_) (fun h9 => absurd ((nI_ltI (a := 0) (b := g.eN) (by omega) (by omega)).mpr h1) h9)
  refine lv_iload_n hx hb d_L_grow_6cd_20 rfl (lv_at hl 0 rfl) ?_
  refine lv_iload_n hx hb d_L_grow_6cd_21 rfl (lv_at hl 2 rfl) ?_
  refine lv_iload_n hx hb d_L_grow_6cd_22 rfl (lv_at hl 0 rfl) ?_
  refine lv_isub hx hb d_L_grow_6cd_23 (tpi (y := nI (mn - g.eN)) (pk_sub (a := mn) (b := g.eN) (by omega)) ?_)
  refine lv_iload_n hx hb d_L_grow_6cd_24 rfl (lv_at hl 0 rfl) ?_
  refine lv_iconst (v := 1) hx hb d_L_grow_6cd_25 (by decide) ?_
  refine lv_ishr hx hb d_L_grow_6cd_26 (tpi (y := nI (g.eN / 2)) (sar_nI (a := g.eN) (by omega)) ?_)
  have e5 : mn - g.eN = 1 := by omega
  have e5 : mn - g.eN = 1 := by omega
  have hPc := hP.sub (ws' := []) [] rfl
  have hDc := hD.sub (ws' := []) [] (by decide) rfl
  refine jpI (rnS (As := [.int (nI g.eN), .int (nI (mn - g.eN)), .int (nI (g.eN / 2))]) (rest := []) hx hb hml hown hE hK (hN _ _ hS) hPc hDc (v_newLength l D dA H.size g.eN (mn - g.eN) (g.eN / 2) (show 1 ≤ (mn - g.eN) from by omega) (show g.eN ≤ 65536 from by omega) (show (mn - g.eN) ≤ 65536 from by omega) (show (g.eN / 2) ≤ 65536 from by omega)) w1472 w1470 w1473 w1471 rfl rfl ⟨⟨by decide, by decide⟩, rfl⟩ ⟨(Nat.le_of_ble_eq_true rfl), (Nat.le_of_ble_eq_true rfl)⟩ rfl hl.1 rfl (Nat.le_of_ble_eq_true rfl) d_L_grow_6cd_27 ⟨(show 0 + 0 ≤ 1 by omega), (show 0 + 0 ≤ g.eN + max 1 (g.eN / 2) by omega)⟩) hP hD hS hA (fun r1 u9 H locs hp9 hP hD hS => ?_)
  have hP : va_P D vwCl (LiW dA la g ++ (ws)) H := hP
  have hD : va_D A (LiW dA la g ++ (ws)) := hD
  replace hp9 : nI (g.eN + max (mn - g.eN) (g.eN / 2)) = r1 := Eq.symm hp9
  subst hp9
  refine lv_istore_n hx hb d_L_grow_6cd_30 rfl hl (by decide) rfl (fun ls hl => ?_)
  have hl : lv_has ls 4 [(3, .int (nI (g.eN + max (mn - g.eN) (g.eN / 2)))), (2, .int (nI g.eN)), (0, .ref (la 0)), (1, .int (nI mn))] := hl
  refine lv_aload_n hx hb d_L_grow_6cd_31 rfl (lv_at hl 2 rfl) ?_
  refine lv_aload_n hx hb d_L_grow_6cd_32 rfl (lv_at hl 2 rfl) ?_
  refine gF (v := .ref g.eA) hx hb hown hE hK hP 0 rfl rfl layL 0 (by decide) w656 rfl d_L_grow_6cd_33 ?_
  refine lv_iload_n hx hb d_L_grow_6cd_36 rfl (lv_at hl 0 rfl) ?_
  refine jkR (wr := []) (rnSy (As := [.ref g.eA, .int (nI (g.eN + max (mn - g.eN) (g.eN / 2)))]) (rest := [.ref (la 0)]) hx hb hml hown hE hK hZ hT hM hS (hN _ _ hS) hP hD (v_ocopy_E l D dA H.size e0 mi (LiW dA la g ++ (ws)) g.eA g.eN g.el (g.eN + max (mn - g.eN) (g.eN / 2)) (List.mem_of_getElem? (i := 1) rfl) (fun i hi y hy => by obtain ⟨vs, hv⟩ := hel i hi y hy; exact ⟨vs, (fun _ hm => (List.mem_append_right _ hm)) _ hv⟩) (show g.eN ≤ (g.eN + max (mn - g.eN) (g.eN / 2)) from by omega) (show (g.eN + max (mn - g.eN) (g.eN / 2)) ≤ 131072 from by omega)) w1475 w1474 w1476 w712 rfl rfl ⟨⟨by decide, by decide⟩, rfl⟩ ⟨(Nat.le_of_ble_eq_true rfl), (Nat.le_of_ble_eq_true rfl)⟩ rfl hl.1 rfl (Nat.le_of_ble_eq_true rfl) d_L_grow_6cd_37 ⟨(show 0 + 0 + 1 ≤ 1 by omega), (show 0 + 0 + (g.eN + max (mn - g.eN) (g.eN / 2)) ≤ g.eN + max 1 (g.eN / 2) by omega)⟩) hP hD hS hA (fun u3 r9 H locs hp9 hP hD hS => ?_)
  obtain ⟨gx4, h9u⟩ : ∃ z9, z9 = u3 := ⟨_, rfl⟩
  subst h9u
  have hP : va_P D vwCl ([(r9, .inl (dA 7, g.eN + max (mn - g.eN) (g.eN / 2), .inr (.inr (.inr (.inr gx4)))))] ++ (LiW dA la g ++ (ws))) H := hP
  have hD : va_D A ([(r9, .inl (dA 7, g.eN + max (mn - g.eN) (g.eN / 2), .inr (.inr (.inr (.inr gx4)))))] ++ (LiW dA la g ++ (ws))) := hD
  have f_e_5 := hp9
  refine lv_dup_x1 hx hb d_L_grow_6cd_40 rfl rfl ?_
  refine pF (v := .ref r9) hx hb hown hE hK hP hD hS 1 rfl rfl layL tyL tokL nmL 0 (by decide) w656 rfl rfl rfl (Nat.le_of_ble_eq_true rfl) d_L_grow_6cd_41 (fun H locs hP hD hS => ?_)
  have hP : va_P D vwCl ([(r9, .inl (dA 7, g.eN + max (mn - g.eN) (g.eN / 2), .inr (.inr (.inr (.inr gx4)))))] ++ (LiWf dA la g (LI.s_eA g r9) ++ (ws))) H := hP
  have hD : va_D A ([(r9, .inl (dA 7, g.eN + max (mn - g.eN) (g.eN / 2), .inr (.inr (.inr (.inr gx4)))))] ++ (LiWf dA la g (LI.s_eA g r9) ++ (ws))) := hD
  have hP := swP 1 hP
  have hD := swD 1 hD
  have hP : va_P D vwCl (LiW dA la (LI.s_el (LI.s_eN (LI.s_eA g r9) (g.eN + max (mn - g.eN) (g.eN / 2))) gx4) ++ (ws)) H := hP
  have hD : va_D A (LiW dA la (LI.s_el (LI.s_eN (LI.s_eA g r9) (g.eN + max (mn - g.eN) (g.eN / 2))) gx4) ++ (ws)) := hD
  have e9 : (LI.s_el (LI.s_eN (LI.s_eA g r9) (g.eN + max (mn - g.eN) (g.eN / 2))) gx4 : LI) = LI.s_el (LI.s_eN (LI.s_eA g r9) (g.eN + max 1 (g.eN / 2))) (cpF g.el g.eN) := by rw [show (g.eN + max 1 (g.eN / 2)) = (g.eN + max (mn - g.eN) (g.eN / 2)) from by simp [*], show (cpF g.el g.eN) = gx4 from by simp [*]] <;> rfl
  rw [e9] at hP hD
  exact rkR hx hb hr (Or.inr ⟨_, rfl⟩) hlk hS () trivial hP hD (show 0 + 0 + 1 ≤ 1 by omega) (show 0 + 0 + (g.eN + max (mn - g.eN) (g.eN / 2)) ≤ g.eN + max 1 (g.eN / 2) by omega) d_L_grow_6cd_44
set_option maxHeartbeats 4000000 in
set_option maxRecDepth 100000 in
theorem v_Lgrow_E (l : Launch) (D : va_G) (dA : Nat → ClassId) (sz : Nat) (e0 mi : Nat) (ws : va_W) (la : Nat → Nat) (g : LI) (hel : ∀ i : Nat, i < g.eN → ∀ y : Nat, g.el i = some y → ∃ vs : List Value, (y, .inr (13, vs)) ∈ ws) (h1 : 0 < g.eN) (h2 : g.eN ≤ 65536) (h3 : g.sz = g.eN) : Met l ⟨"java/util/ArrayList", "grow", "()[Ljava/lang/Object;"⟩ [Cond.code ⟨"java/util/ArrayList", "grow", "()[Ljava/lang/Object;"⟩ prog_37_method_7_code 1 (some (FieldType.array (FieldType.object "java/lang/Object")))] { frames := 4, cells := 1, slots := g.eN + max 1 (g.eN / 2), locals := 107 } (pCy D dA e0 mi [.ref (la 0)] (LiW dA la g ++ (ws)) sz) (va_Qr (fun (_ : Unit) => True) (fun (u9 : Unit) (r9 : Nat) t9 => (True) ∧ bW D (va_A (LiW dA la g ++ (ws)) sz) (LiW dA la (LI.s_el (LI.s_eN (LI.s_eA g r9) (g.eN + max 1 (g.eN / 2))) (cpF g.el g.eN)) ++ (ws)) t9) (va_A (LiW dA la g ++ (ws)) sz)) 1 (g.eN + max 1 (g.eN / 2)) (va_A (LiW dA la g ++ (ws)) sz) := by
  refine mkY (y := ⟨"java/util/ArrayList", "grow", "()[Ljava/lang/Object;"⟩) (cc := prog_37_method_7_code) (maxL := 1) (av := [.ref (la 0)]) (ws := LiW dA la g ++ (ws)) (sz := sz) (Qc := fun A => va_Qr (fun (_ : Unit) => True) (fun (u9 : Unit) (r9 : Nat) t9 => (True) ∧ bW D A (LiW dA la (LI.s_el (LI.s_eN (LI.s_eA g r9) (g.eN + max 1 (g.eN / 2))) (cpF g.el g.eN)) ++ (ws)) t9) A) (by decide) (Nat.le_of_ble_eq_true rfl) ?_
  intro A p e s m below meth c ls hsz hZ hT hM hB
  obtain ⟨hx, hb, hr, hml, hown, hin, hlk, hE, hK, hP, hD, hS, hA, hN, hl⟩ := hB
  have hown : s.vm.findClass "java/util/ArrayList" = some m.cls := hown
  have hl : lv_has ls 1 [(0, .ref (la 0))] := hl
  obtain ⟨H, hH⟩ : ∃ z, z = s.heap := ⟨_, rfl⟩
  have hP : va_P D vwCl (LiW dA la g ++ (ws)) H := by rw [hH]; exact hP
  have hS : va_S A s.heap H [] := by rw [hH]; exact hS
  rw [← hH]
  refine lv_aload_n hx hb d_L_grow_d81_0 rfl (lv_at hl 0 rfl) ?_
  refine lv_aload_n hx hb d_L_grow_d81_1 rfl (lv_at hl 0 rfl) ?_
  refine gF (v := .int (nI g.sz)) hx hb hown hE hK hP 0 rfl rfl layL 1 (by decide) w657 rfl d_L_grow_d81_2 ?_
  refine lv_iconst (v := 1) hx hb d_L_grow_d81_5 (by decide) ?_
  refine lv_iadd hx hb d_L_grow_d81_6 (tpi (y := nI (g.sz + 1)) (nI_add (g.sz) (1)) ?_)
  refine jkR (wr := []) (rnVy (As := [.int (nI (g.sz + 1))]) (rest := []) hx hb hml hown hE hK hZ hT hM hS (hN _ _ hS) hP hD (v_Lgrow1_E l D dA H.size e0 mi ws la g (g.sz + 1) hel (show 0 < g.eN from by omega) (show g.eN ≤ 65536 from by omega) (show g.sz = g.eN from by omega) (show (g.sz + 1) = g.eN + 1 from by omega)) (q0 := 0) rfl rfl w769 w768 w770 w771 w680 rfl rfl ⟨⟨by decide, by decide⟩, rfl⟩ ⟨(Nat.le_of_ble_eq_true rfl), (Nat.le_of_ble_eq_true rfl)⟩ rfl hl.1 rfl (Nat.le_of_ble_eq_true rfl) d_L_grow_d81_7 ⟨(show 0 + 1 ≤ 1 by omega), (show 0 + (g.eN + max 1 (g.eN / 2)) ≤ g.eN + max 1 (g.eN / 2) by omega)⟩) hP hD hS hA (fun u1 r9 H locs hp9 hP hD hS => ?_)
  have hP : va_P D vwCl (LiW dA la (LI.s_el (LI.s_eN (LI.s_eA g r9) (g.eN + max 1 (g.eN / 2))) (cpF g.el g.eN)) ++ (ws)) H := hP
  have hD : va_D A (LiW dA la (LI.s_el (LI.s_eN (LI.s_eA g r9) (g.eN + max 1 (g.eN / 2))) (cpF g.el g.eN)) ++ (ws)) := hD
  exact rkR hx hb hr (Or.inr ⟨_, rfl⟩) hlk hS () trivial hP hD (show 0 + 1 ≤ 1 by omega) (show 0 + (g.eN + max 1 (g.eN / 2)) ≤ g.eN + max 1 (g.eN / 2) by omega) d_L_grow_d81_10
set_option maxHeartbeats 4000000 in
set_option maxRecDepth 100000 in
theorem v_Ladd3_gE (l : Launch) (D : va_G) (dA : Nat → ClassId) (sz : Nat) (e0 mi : Nat) (ws : va_W) (la : Nat → Nat) (g : LI) (v : Nat) (fs : List Value) (hel : ∀ i : Nat, i < g.eN → ∀ y : Nat, g.el i = some y → ∃ vs : List Value, (y, .inr (13, vs)) ∈ ws) (h1 : 0 < g.eN) (h2 : g.eN ≤ 65536) (h3 : g.sz = g.eN) (mo : (v, .inr (13, fs)) ∈ ws) : Met l ⟨"java/util/ArrayList", "add", "(Ljava/lang/Object;[Ljava/lang/Object;I)V"⟩ [Cond.code ⟨"java/util/ArrayList", "add", "(Ljava/lang/Object;[Ljava/lang/Object;I)V"⟩ prog_37_method_24_code 4 none] { frames := 5, cells := 1, slots := g.eN + max 1 (g.eN / 2), locals := 127 } (pCy D dA e0 mi [.ref (la 0), .ref v, .ref g.eA, .int (nI g.sz)] (LiW dA la g ++ (ws)) sz) (va_Qv (fun (u9 : Nat) => True) (fun (u9 : Nat) t9 => bW D (va_A (LiW dA la g ++ (ws)) sz) (LiW dA la (LI.s_el (LI.s_eN (LI.s_eA (LI.s_sz g (g.sz + 1)) u9) (g.eN + max 1 (g.eN / 2))) (va_up (cpF g.el g.eN) g.sz (some v))) ++ (ws)) t9) (va_A (LiW dA la g ++ (ws)) sz)) 1 (g.eN + max 1 (g.eN / 2)) (va_A (LiW dA la g ++ (ws)) sz) := by
  refine mkY (y := ⟨"java/util/ArrayList", "add", "(Ljava/lang/Object;[Ljava/lang/Object;I)V"⟩) (cc := prog_37_method_24_code) (maxL := 4) (av := [.ref (la 0), .ref v, .ref g.eA, .int (nI g.sz)]) (ws := LiW dA la g ++ (ws)) (sz := sz) (Qc := fun A => va_Qv (fun (u9 : Nat) => True) (fun (u9 : Nat) t9 => bW D A (LiW dA la (LI.s_el (LI.s_eN (LI.s_eA (LI.s_sz g (g.sz + 1)) u9) (g.eN + max 1 (g.eN / 2))) (va_up (cpF g.el g.eN) g.sz (some v))) ++ (ws)) t9) A) (by decide) (Nat.le_of_ble_eq_true rfl) ?_
  intro A p e s m below meth c ls hsz hZ hT hM hB
  obtain ⟨hx, hb, hr, hml, hown, hin, hlk, hE, hK, hP, hD, hS, hA, hN, hl⟩ := hB
  have hown : s.vm.findClass "java/util/ArrayList" = some m.cls := hown
  have hl : lv_has ls 4 [(0, .ref (la 0)), (1, .ref v), (2, .ref g.eA), (3, .int (nI g.sz))] := hl
  obtain ⟨H, hH⟩ : ∃ z, z = s.heap := ⟨_, rfl⟩
  have hP : va_P D vwCl (LiW dA la g ++ (ws)) H := by rw [hH]; exact hP
  have hS : va_S A s.heap H [] := by rw [hH]; exact hS
  rw [← hH]
  refine lv_iload_n hx hb d_L_add_faf_0 rfl (lv_at hl 3 rfl) ?_
  refine lv_aload_n hx hb d_L_add_faf_1 rfl (lv_at hl 2 rfl) ?_
  refine va_alen (v := nI g.eN) hx hb hK hP (1) 7 rfl rfl rfl d_L_add_faf_2 ?_
  refine lv_icmp_ne hx hb d_L_add_faf_3 (tgt := 11) rfl (fun h9 => absurd ((nI_eq (a := g.sz) (b := g.eN) (by omega) (by omega)).mpr h3) h9) (fun _ => ?_)
  refine lv_aload_n hx hb d_L_add_faf_6 rfl (lv_at hl 0 rfl) ?_
  refine jkR (wr := []) (rnVy (As := []) (rest := []) hx hb hml hown hE hK hZ hT hM hS (hN _ _ hS) hP hD (v_Lgrow_E l D dA H.size e0 mi ws la g hel (show 0 < g.eN from by omega) (show g.eN ≤ 65536 from by omega) (show g.sz = g.eN from by omega)) (q0 := 0) rfl rfl w773 w772 w774 w775 w680 rfl rfl ⟨⟨by decide, by decide⟩, rfl⟩ ⟨(Nat.le_of_ble_eq_true rfl), (Nat.le_of_ble_eq_true rfl)⟩ rfl hl.1 rfl (Nat.le_of_ble_eq_true rfl) d_L_add_faf_7 ⟨(show 0 + 1 ≤ 1 by omega), (show 0 + (g.eN + max 1 (g.eN / 2)) ≤ g.eN + max 1 (g.eN / 2) by omega)⟩) hP hD hS hA (fun u1 b H locs hp9 hP hD hS => ?_)
  have hP : va_P D vwCl (LiW dA la (LI.s_el (LI.s_eN (LI.s_eA g b) (g.eN + max 1 (g.eN / 2))) (cpF g.el g.eN)) ++ (ws)) H := hP
  have hD : va_D A (LiW dA la (LI.s_el (LI.s_eN (LI.s_eA g b) (g.eN + max 1 (g.eN / 2))) (cpF g.el g.eN)) ++ (ws)) := hD
  refine lv_astore_n hx hb d_L_add_faf_10 rfl hl (by decide) rfl (fun ls hl => ?_)
  have hl : lv_has ls 4 [(2, .ref b), (0, .ref (la 0)), (1, .ref v), (3, .int (nI g.sz))] := hl
  refine lv_aload_n hx hb d_L_add_faf_11 rfl (lv_at hl 0 rfl) ?_
  refine lv_iload_n hx hb d_L_add_faf_12 rfl (lv_at hl 3 rfl) ?_
  refine lv_aload_n hx hb d_L_add_faf_13 rfl (lv_at hl 2 rfl) ?_
  obtain ⟨qp2, ep3⟩ := List.getElem?_of_mem (show ((v, .inr (13, fs)) : Nat × va_E) ∈ LiW dA la (LI.s_el (LI.s_eN (LI.s_eA g b) (g.eN + max 1 (g.eN / 2))) (cpF g.el g.eN)) ++ (ws) from (List.mem_append_right _ mo))
  refine nqstO (E := "java/lang/Object") (r := ("SeriesVault$Step", TE, 8)) (f := (cpF g.el g.eN)) (n := g.eN + max 1 (g.eN / 2)) hx hb hK hP hD hS (1) 7 (qp2) 13 rfl rfl (show va_Nw (.castable "SeriesVault$Step" "java/lang/Object") s from hE.1 _ w1457) ep3 rfl (g.sz) (by omega) (by omega) d_L_add_faf_14 (fun H locs hP hD hS => ?_)
  have hP : va_P D vwCl (LiW dA la (LI.s_el (LI.s_eN (LI.s_eA g b) (g.eN + max 1 (g.eN / 2))) (va_up (cpF g.el g.eN) g.sz (some v))) ++ (ws)) H := hP
  have hD : va_D A (LiW dA la (LI.s_el (LI.s_eN (LI.s_eA g b) (g.eN + max 1 (g.eN / 2))) (va_up (cpF g.el g.eN) g.sz (some v))) ++ (ws)) := hD
  refine lv_aload_n hx hb d_L_add_faf_15 rfl (lv_at hl 1 rfl) ?_
  refine lv_iload_n hx hb d_L_add_faf_16 rfl (lv_at hl 3 rfl) ?_
  refine lv_iconst (v := 1) hx hb d_L_add_faf_17 (by decide) ?_
  refine lv_iadd hx hb d_L_add_faf_18 (tpi (y := nI (g.sz + 1)) (nI_add (g.sz) (1)) ?_)
  refine pF (v := .int (nI (g.sz + 1))) hx hb hown hE hK hP hD hS 0 rfl rfl layL tyL tokL nmL 1 (by decide) w657 rfl rfl rfl (Nat.le_of_ble_eq_true rfl) d_L_add_faf_19 (fun H locs hP hD hS => ?_)
  have hP : va_P D vwCl (LiW dA la (LI.s_el (LI.s_eN (LI.s_eA (LI.s_sz g (g.sz + 1)) b) (g.eN + max 1 (g.eN / 2))) (va_up (cpF g.el g.eN) g.sz (some v))) ++ (ws)) H := hP
  have hD : va_D A (LiW dA la (LI.s_el (LI.s_eN (LI.s_eA (LI.s_sz g (g.sz + 1)) b) (g.eN + max 1 (g.eN / 2))) (va_up (cpF g.el g.eN) g.sz (some v))) ++ (ws)) := hD
  exact rfV hx hb hr hlk hS b trivial hP hD (show 0 + 1 ≤ 1 by omega) (show 0 + (g.eN + max 1 (g.eN / 2)) ≤ g.eN + max 1 (g.eN / 2) by omega) d_L_add_faf_22
set_option maxHeartbeats 4000000 in
set_option maxRecDepth 100000 in
theorem v_Ladd_gE (l : Launch) (D : va_G) (dA : Nat → ClassId) (sz : Nat) (e0 mi : Nat) (ws : va_W) (la : Nat → Nat) (g : LI) (v : Nat) (fs : List Value) (hel : ∀ i : Nat, i < g.eN → ∀ y : Nat, g.el i = some y → ∃ vs : List Value, (y, .inr (13, vs)) ∈ ws) (h1 : 0 < g.eN) (h2 : g.eN ≤ 65536) (h3 : g.sz = g.eN) (mo : (v, .inr (13, fs)) ∈ ws) : Met l ⟨"java/util/ArrayList", "add", "(Ljava/lang/Object;)Z"⟩ [Cond.code ⟨"java/util/ArrayList", "add", "(Ljava/lang/Object;)Z"⟩ prog_37_method_25_code 2 (some FieldType.boolean)] { frames := 6, cells := 1, slots := g.eN + max 1 (g.eN / 2), locals := 150 } (pCy D dA e0 mi [.ref (la 0), .ref v] (LiW dA la g ++ (ws)) sz) (va_Qi (fun (r9 : Int32) (u9 : Nat) => r9 = 1) (fun (u9 : Nat) t9 => bW D (va_A (LiW dA la g ++ (ws)) sz) (LiW dA la (LI.s_el (LI.s_eN (LI.s_eA (LI.s_mc (LI.s_sz g (g.sz + 1)) (g.mc + 1)) u9) (g.eN + max 1 (g.eN / 2))) (va_up (cpF g.el g.eN) g.sz (some v))) ++ (ws)) t9) (va_A (LiW dA la g ++ (ws)) sz)) 1 (g.eN + max 1 (g.eN / 2)) (va_A (LiW dA la g ++ (ws)) sz) := by
  refine mkY (y := ⟨"java/util/ArrayList", "add", "(Ljava/lang/Object;)Z"⟩) (cc := prog_37_method_25_code) (maxL := 2) (av := [.ref (la 0), .ref v]) (ws := LiW dA la g ++ (ws)) (sz := sz) (Qc := fun A => va_Qi (fun (r9 : Int32) (u9 : Nat) => r9 = 1) (fun (u9 : Nat) t9 => bW D A (LiW dA la (LI.s_el (LI.s_eN (LI.s_eA (LI.s_mc (LI.s_sz g (g.sz + 1)) (g.mc + 1)) u9) (g.eN + max 1 (g.eN / 2))) (va_up (cpF g.el g.eN) g.sz (some v))) ++ (ws)) t9) A) (by decide) (Nat.le_of_ble_eq_true rfl) ?_
  intro A p e s m below meth c ls hsz hZ hT hM hB
  obtain ⟨hx, hb, hr, hml, hown, hin, hlk, hE, hK, hP, hD, hS, hA, hN, hl⟩ := hB
  have hown : s.vm.findClass "java/util/ArrayList" = some m.cls := hown
  have hl : lv_has ls 2 [(0, .ref (la 0)), (1, .ref v)] := hl
  obtain ⟨H, hH⟩ : ∃ z, z = s.heap := ⟨_, rfl⟩
  have hP : va_P D vwCl (LiW dA la g ++ (ws)) H := by rw [hH]; exact hP
  have hS : va_S A s.heap H [] := by rw [hH]; exact hS
  rw [← hH]
  refine lv_aload_n hx hb d_L_add_9ae_0 rfl (lv_at hl 0 rfl) ?_
  refine lv_dup hx hb d_L_add_9ae_1 rfl ?_
  refine gFU (v := .int g.mc) hx hb hown hE hK hP 0 rfl rfl layL 2 (by decide) w654 w655 rfl d_L_add_9ae_2 ?_
  refine lv_iconst (v := 1) hx hb d_L_add_9ae_5 (by decide) ?_
  refine lv_iadd hx hb d_L_add_9ae_6 ?_
  refine pFU (v := .int (g.mc + 1)) hx hb hown hE hK hP hD hS 0 rfl rfl layL tyL tokL nmL 2 (by decide) w654 w655 rfl rfl rfl (Nat.le_of_ble_eq_true rfl) d_L_add_9ae_7 (fun H locs hP hD hS => ?_)
  have hP : va_P D vwCl (LiW dA la (LI.s_mc g (g.mc + 1)) ++ (ws)) H := hP
  have hD : va_D A (LiW dA la (LI.s_mc g (g.mc + 1)) ++ (ws)) := hD
  refine lv_aload_n hx hb d_L_add_9ae_10 rfl (lv_at hl 0 rfl) ?_
  refine lv_aload_n hx hb d_L_add_9ae_11 rfl (lv_at hl 1 rfl) ?_
  refine lv_aload_n hx hb d_L_add_9ae_12 rfl (lv_at hl 0 rfl) ?_
  refine gF (v := .ref g.eA) hx hb hown hE hK hP 0 rfl rfl layL 0 (by decide) w656 rfl d_L_add_9ae_13 ?_
  refine lv_aload_n hx hb d_L_add_9ae_16 rfl (lv_at hl 0 rfl) ?_
  refine gF (v := .int (nI g.sz)) hx hb hown hE hK hP 0 rfl rfl layL 1 (by decide) w657 rfl d_L_add_9ae_17 ?_
  refine jkV (wr := []) (rnVy (As := [.ref v, .ref g.eA, .int (nI g.sz)]) (rest := []) hx hb hml hown hE hK hZ hT hM hS (hN _ _ hS) hP hD (v_Ladd3_gE l D dA H.size e0 mi ws la (LI.s_mc g (g.mc + 1)) v fs hel (show 0 < g.eN from by omega) (show g.eN ≤ 65536 from by omega) (show g.sz = g.eN from by omega) mo) (q0 := 0) rfl rfl w778 w777 w779 w780 w680 rfl rfl ⟨⟨by decide, by decide⟩, rfl⟩ ⟨(Nat.le_of_ble_eq_true rfl), (Nat.le_of_ble_eq_true rfl)⟩ rfl hl.1 rfl (Nat.le_of_ble_eq_true rfl) d_L_add_9ae_20 ⟨(show 0 + 1 ≤ 1 by omega), (show 0 + (g.eN + max 1 (g.eN / 2)) ≤ g.eN + max 1 (g.eN / 2) by omega)⟩) hP hD hS hA (fun u2 H locs hp9 hP hD hS => ?_)
  obtain ⟨b, h9u⟩ : ∃ z9, z9 = u2 := ⟨_, rfl⟩
  subst h9u
  have hP : va_P D vwCl (LiW dA la (LI.s_el (LI.s_eN (LI.s_eA (LI.s_mc (LI.s_sz g (g.sz + 1)) (g.mc + 1)) b) (g.eN + max 1 (g.eN / 2))) (va_up (cpF g.el g.eN) g.sz (some v))) ++ (ws)) H := hP
  have hD : va_D A (LiW dA la (LI.s_el (LI.s_eN (LI.s_eA (LI.s_mc (LI.s_sz g (g.sz + 1)) (g.mc + 1)) b) (g.eN + max 1 (g.eN / 2))) (va_up (cpF g.el g.eN) g.sz (some v))) ++ (ws)) := hD
  refine lv_iconst (v := 1) hx hb d_L_add_9ae_23 (by decide) ?_
  exact rfZ hx hb hr (bI_nar true) hlk hS b rfl hP hD (show 0 + 1 ≤ 1 by omega) (show 0 + (g.eN + max 1 (g.eN / 2)) ≤ g.eN + max 1 (g.eN / 2) by omega) d_L_add_9ae_24
set_option maxHeartbeats 4000000 in
set_option maxRecDepth 100000 in
theorem v_Ladd3_0T (l : Launch) (D : va_G) (dA : Nat → ClassId) (sz : Nat) (e0 mi : Nat) (ws : va_W) (a : Nat) (mc : Int32) (v : Nat) (fs : List Value) (mo : (v, .inr (8, fs)) ∈ ws) : Met l ⟨"java/util/ArrayList", "add", "(Ljava/lang/Object;[Ljava/lang/Object;I)V"⟩ [Cond.code ⟨"java/util/ArrayList", "add", "(Ljava/lang/Object;[Ljava/lang/Object;I)V"⟩ prog_37_method_24_code 4 none] { frames := 3, cells := 1, slots := 10, locals := 57 } (pCy D dA e0 mi [.ref a, .ref v, .ref e0, .int 0] ([(a, .inr (6, [.ref e0, .int 0, .int mc]))] ++ (ws)) sz) (va_Qv (fun (u9 : Nat) => True) (fun (u9 : Nat) t9 => bW D (va_A ([(a, .inr (6, [.ref e0, .int 0, .int mc]))] ++ (ws)) sz) ([(u9, .inl (dA 7, 10, .inr (.inr (.inr (.inr (va_up (fun _ => none) 0 (some v)))))))] ++ ([(a, .inr (6, [.ref u9, .int 1, .int mc]))] ++ (ws))) t9) (va_A ([(a, .inr (6, [.ref e0, .int 0, .int mc]))] ++ (ws)) sz)) 1 10 (va_A ([(a, .inr (6, [.ref e0, .int 0, .int mc]))] ++ (ws)) sz) := by
  refine mkY (y := ⟨"java/util/ArrayList", "add", "(Ljava/lang/Object;[Ljava/lang/Object;I)V"⟩) (cc := prog_37_method_24_code) (maxL := 4) (av := [.ref a, .ref v, .ref e0, .int 0]) (ws := [(a, .inr (6, [.ref e0, .int 0, .int mc]))] ++ (ws)) (sz := sz) (Qc := fun A => va_Qv (fun (u9 : Nat) => True) (fun (u9 : Nat) t9 => bW D A ([(u9, .inl (dA 7, 10, .inr (.inr (.inr (.inr (va_up (fun _ => none) 0 (some v)))))))] ++ ([(a, .inr (6, [.ref u9, .int 1, .int mc]))] ++ (ws))) t9) A) (by decide) (Nat.le_of_ble_eq_true rfl) ?_
  intro A p e s m below meth c ls hsz hZ hT hM hB
  obtain ⟨hx, hb, hr, hml, hown, hin, hlk, hE, hK, hP, hD, hS, hA, hN, hl⟩ := hB
  have hown : s.vm.findClass "java/util/ArrayList" = some m.cls := hown
  have hl : lv_has ls 4 [(0, .ref a), (1, .ref v), (2, .ref e0), (3, .int 0)] := hl
  obtain ⟨H, hH⟩ : ∃ z, z = s.heap := ⟨_, rfl⟩
  have hP : va_P D vwCl ([(a, .inr (6, [.ref e0, .int 0, .int mc]))] ++ (ws)) H := by rw [hH]; exact hP
  have hS : va_S A s.heap H [] := by rw [hH]; exact hS
  rw [← hH]
  refine lv_iload_n hx hb d_L_add_faf_0 rfl (lv_at hl 3 rfl) ?_
  refine lv_aload_n hx hb d_L_add_faf_1 rfl (lv_at hl 2 rfl) ?_
  refine va_tlen (v := 0) hx hb hT hS (by decide) d_L_add_faf_2 ?_
  refine lv_icmp_ne hx hb d_L_add_faf_3 (tgt := 11) rfl (fun h9 => absurd (by decide) h9) (fun _ => ?_)
  refine lv_aload_n hx hb d_L_add_faf_6 rfl (lv_at hl 0 rfl) ?_
  refine jkR (wr := []) (rnVy (As := []) (rest := []) hx hb hml hown hE hK hZ hT hM hS (hN _ _ hS) hP hD (v_Lgrow_0 l D dA H.size e0 mi ws a mc) (q0 := 0) rfl rfl w773 w772 w774 w775 w680 rfl rfl ⟨⟨by decide, by decide⟩, rfl⟩ ⟨(Nat.le_of_ble_eq_true rfl), (Nat.le_of_ble_eq_true rfl)⟩ rfl hl.1 rfl (Nat.le_of_ble_eq_true rfl) d_L_add_faf_7 ⟨(show 0 + 1 ≤ 1 by omega), (show 0 + 10 ≤ 10 by omega)⟩) hP hD hS hA (fun u1 b H locs hp9 hP hD hS => ?_)
  have hP : va_P D vwCl ([(b, .inl (dA 7, 10, .inr (.inr (.inr (.inr (fun _ => none))))))] ++ ([(a, .inr (6, [.ref b, .int 0, .int mc]))] ++ (ws))) H := hP
  have hD : va_D A ([(b, .inl (dA 7, 10, .inr (.inr (.inr (.inr (fun _ => none))))))] ++ ([(a, .inr (6, [.ref b, .int 0, .int mc]))] ++ (ws))) := hD
  refine lv_astore_n hx hb d_L_add_faf_10 rfl hl (by decide) rfl (fun ls hl => ?_)
  have hl : lv_has ls 4 [(2, .ref b), (0, .ref a), (1, .ref v), (3, .int 0)] := hl
  refine lv_aload_n hx hb d_L_add_faf_11 rfl (lv_at hl 0 rfl) ?_
  refine lv_iload_n hx hb d_L_add_faf_12 rfl (lv_at hl 3 rfl) ?_
  refine lv_aload_n hx hb d_L_add_faf_13 rfl (lv_at hl 2 rfl) ?_
  obtain ⟨qp2, ep3⟩ := List.getElem?_of_mem (show ((v, .inr (8, fs)) : Nat × va_E) ∈ [(b, .inl (dA 7, 10, .inr (.inr (.inr (.inr (fun _ => none))))))] ++ ([(a, .inr (6, [.ref b, .int 0, .int mc]))] ++ (ws)) from (List.mem_append_right _ (List.mem_append_right _ mo)))
  refine nqstO (E := "java/lang/Object") (r := ("SeriesVault$Table", TT, 7)) (f := (fun _ => none)) (n := 10) hx hb hK hP hD hS (0) 7 (qp2) 8 rfl rfl (show va_Nw (.castable "SeriesVault$Table" "java/lang/Object") s from hE.1 _ w776) ep3 rfl (0) (by omega) (by decide) d_L_add_faf_14 (fun H locs hP hD hS => ?_)
  have hP : va_P D vwCl ([(b, .inl (dA 7, 10, .inr (.inr (.inr (.inr (va_up (fun _ => none) 0 (some v)))))))] ++ ([(a, .inr (6, [.ref b, .int 0, .int mc]))] ++ (ws))) H := hP
  have hD : va_D A ([(b, .inl (dA 7, 10, .inr (.inr (.inr (.inr (va_up (fun _ => none) 0 (some v)))))))] ++ ([(a, .inr (6, [.ref b, .int 0, .int mc]))] ++ (ws))) := hD
  refine lv_aload_n hx hb d_L_add_faf_15 rfl (lv_at hl 1 rfl) ?_
  refine lv_iload_n hx hb d_L_add_faf_16 rfl (lv_at hl 3 rfl) ?_
  refine lv_iconst (v := 1) hx hb d_L_add_faf_17 (by decide) ?_
  refine lv_iadd hx hb d_L_add_faf_18 (tpi (y := 1) (by decide) ?_)
  refine tpi (y := 1) (by decide) ?_
  refine pF (v := .int 1) hx hb hown hE hK hP hD hS 1 rfl rfl layL tyL tokL nmL 1 (by decide) w657 rfl rfl rfl (Nat.le_of_ble_eq_true rfl) d_L_add_faf_19 (fun H locs hP hD hS => ?_)
  have hP : va_P D vwCl ([(b, .inl (dA 7, 10, .inr (.inr (.inr (.inr (va_up (fun _ => none) 0 (some v)))))))] ++ ([(a, .inr (6, [.ref b, .int 1, .int mc]))] ++ (ws))) H := hP
  have hD : va_D A ([(b, .inl (dA 7, 10, .inr (.inr (.inr (.inr (va_up (fun _ => none) 0 (some v)))))))] ++ ([(a, .inr (6, [.ref b, .int 1, .int mc]))] ++ (ws))) := hD
  exact rfV hx hb hr hlk hS b trivial hP hD (show 0 + 1 ≤ 1 by omega) (show 0 + 10 ≤ 10 by omega) d_L_add_faf_22
set_option maxHeartbeats 4000000 in
set_option maxRecDepth 100000 in
theorem v_Ladd_0T (l : Launch) (D : va_G) (dA : Nat → ClassId) (sz : Nat) (e0 mi : Nat) (ws : va_W) (a : Nat) (mc : Int32) (v : Nat) (fs : List Value) (mo : (v, .inr (8, fs)) ∈ ws) : Met l ⟨"java/util/ArrayList", "add", "(Ljava/lang/Object;)Z"⟩ [Cond.code ⟨"java/util/ArrayList", "add", "(Ljava/lang/Object;)Z"⟩ prog_37_method_25_code 2 (some FieldType.boolean)] { frames := 4, cells := 1, slots := 10, locals := 80 } (pCy D dA e0 mi [.ref a, .ref v] ([(a, .inr (6, [.ref e0, .int 0, .int mc]))] ++ (ws)) sz) (va_Qi (fun (r9 : Int32) (u9 : Nat) => r9 = 1) (fun (u9 : Nat) t9 => bW D (va_A ([(a, .inr (6, [.ref e0, .int 0, .int mc]))] ++ (ws)) sz) ([(u9, .inl (dA 7, 10, .inr (.inr (.inr (.inr (va_up (fun _ => none) 0 (some v)))))))] ++ ([(a, .inr (6, [.ref u9, .int 1, .int (mc + 1)]))] ++ (ws))) t9) (va_A ([(a, .inr (6, [.ref e0, .int 0, .int mc]))] ++ (ws)) sz)) 1 10 (va_A ([(a, .inr (6, [.ref e0, .int 0, .int mc]))] ++ (ws)) sz) := by
  refine mkY (y := ⟨"java/util/ArrayList", "add", "(Ljava/lang/Object;)Z"⟩) (cc := prog_37_method_25_code) (maxL := 2) (av := [.ref a, .ref v]) (ws := [(a, .inr (6, [.ref e0, .int 0, .int mc]))] ++ (ws)) (sz := sz) (Qc := fun A => va_Qi (fun (r9 : Int32) (u9 : Nat) => r9 = 1) (fun (u9 : Nat) t9 => bW D A ([(u9, .inl (dA 7, 10, .inr (.inr (.inr (.inr (va_up (fun _ => none) 0 (some v)))))))] ++ ([(a, .inr (6, [.ref u9, .int 1, .int (mc + 1)]))] ++ (ws))) t9) A) (by decide) (Nat.le_of_ble_eq_true rfl) ?_
  intro A p e s m below meth c ls hsz hZ hT hM hB
  obtain ⟨hx, hb, hr, hml, hown, hin, hlk, hE, hK, hP, hD, hS, hA, hN, hl⟩ := hB
  have hown : s.vm.findClass "java/util/ArrayList" = some m.cls := hown
  have hl : lv_has ls 2 [(0, .ref a), (1, .ref v)] := hl
  obtain ⟨H, hH⟩ : ∃ z, z = s.heap := ⟨_, rfl⟩
  have hP : va_P D vwCl ([(a, .inr (6, [.ref e0, .int 0, .int mc]))] ++ (ws)) H := by rw [hH]; exact hP
  have hS : va_S A s.heap H [] := by rw [hH]; exact hS
  rw [← hH]
  refine lv_aload_n hx hb d_L_add_9ae_0 rfl (lv_at hl 0 rfl) ?_
  refine lv_dup hx hb d_L_add_9ae_1 rfl ?_
  refine gFU (v := .int mc) hx hb hown hE hK hP 0 rfl rfl layL 2 (by decide) w654 w655 rfl d_L_add_9ae_2 ?_
  refine lv_iconst (v := 1) hx hb d_L_add_9ae_5 (by decide) ?_
  refine lv_iadd hx hb d_L_add_9ae_6 ?_
  refine pFU (v := .int (mc + 1)) hx hb hown hE hK hP hD hS 0 rfl rfl layL tyL tokL nmL 2 (by decide) w654 w655 rfl rfl rfl (Nat.le_of_ble_eq_true rfl) d_L_add_9ae_7 (fun H locs hP hD hS => ?_)
  have hP : va_P D vwCl ([(a, .inr (6, [.ref e0, .int 0, .int (mc + 1)]))] ++ (ws)) H := hP
  have hD : va_D A ([(a, .inr (6, [.ref e0, .int 0, .int (mc + 1)]))] ++ (ws)) := hD
  refine lv_aload_n hx hb d_L_add_9ae_10 rfl (lv_at hl 0 rfl) ?_
  refine lv_aload_n hx hb d_L_add_9ae_11 rfl (lv_at hl 1 rfl) ?_
  refine lv_aload_n hx hb d_L_add_9ae_12 rfl (lv_at hl 0 rfl) ?_
  refine gF (v := .ref e0) hx hb hown hE hK hP 0 rfl rfl layL 0 (by decide) w656 rfl d_L_add_9ae_13 ?_
  refine lv_aload_n hx hb d_L_add_9ae_16 rfl (lv_at hl 0 rfl) ?_
  refine gF (v := .int 0) hx hb hown hE hK hP 0 rfl rfl layL 1 (by decide) w657 rfl d_L_add_9ae_17 ?_
  refine jkV (wr := []) (rnVy (As := [.ref v, .ref e0, .int 0]) (rest := []) hx hb hml hown hE hK hZ hT hM hS (hN _ _ hS) hP hD (v_Ladd3_0T l D dA H.size e0 mi ws a (mc + 1) v fs mo) (q0 := 0) rfl rfl w778 w777 w779 w780 w680 rfl rfl ⟨⟨by decide, by decide⟩, rfl⟩ ⟨(Nat.le_of_ble_eq_true rfl), (Nat.le_of_ble_eq_true rfl)⟩ rfl hl.1 rfl (Nat.le_of_ble_eq_true rfl) d_L_add_9ae_20 ⟨(show 0 + 1 ≤ 1 by omega), (show 0 + 10 ≤ 10 by omega)⟩) hP hD hS hA (fun u2 H locs hp9 hP hD hS => ?_)
  obtain ⟨b, h9u⟩ : ∃ z9, z9 = u2 := ⟨_, rfl⟩
  subst h9u
  have hP : va_P D vwCl ([(b, .inl (dA 7, 10, .inr (.inr (.inr (.inr (va_up (fun _ => none) 0 (some v)))))))] ++ ([(a, .inr (6, [.ref b, .int 1, .int (mc + 1)]))] ++ (ws))) H := hP
  have hD : va_D A ([(b, .inl (dA 7, 10, .inr (.inr (.inr (.inr (va_up (fun _ => none) 0 (some v)))))))] ++ ([(a, .inr (6, [.ref b, .int 1, .int (mc + 1)]))] ++ (ws))) := hD
  refine lv_iconst (v := 1) hx hb d_L_add_9ae_23 (by decide) ?_
  exact rfZ hx hb hr (bI_nar true) hlk hS b rfl hP hD (show 0 + 1 ≤ 1 by omega) (show 0 + 10 ≤ 10 by omega) d_L_add_9ae_24
set_option maxHeartbeats 4000000 in
set_option maxRecDepth 100000 in
theorem v_ocopy3_T (l : Launch) (D : va_G) (dA : Nat → ClassId) (sz : Nat) (e0 mi : Nat) (ws : va_W) (arr : Nat) (k : Nat) (f : Nat → Option Nat) (n : Nat) (m1 : (arr, .inl (dA 7, k, .inr (.inr (.inr (.inr f))))) ∈ ws) (hel : ∀ i : Nat, i < k → ∀ y : Nat, f i = some y → ∃ vs : List Value, (y, .inr (8, vs)) ∈ ws) (h1 : k ≤ n) (h2 : n ≤ 131072) : Met l ⟨"java/util/Arrays", "copyOf", "([Ljava/lang/Object;ILjava/lang/Class;)[Ljava/lang/Object;"⟩ [Cond.code ⟨"java/util/Arrays", "copyOf", "([Ljava/lang/Object;ILjava/lang/Class;)[Ljava/lang/Object;"⟩ prog_38_method_120_code 4 (some (FieldType.array (FieldType.object "java/lang/Object")))] { frames := 1, cells := 1, slots := n, locals := 40 } (pCy D dA e0 mi [.ref arr, .int (nI n), .ref mi] (ws) sz) (va_Qr (fun (_ : (Nat → Option Nat)) => True) (fun (u9 : (Nat → Option Nat)) (r9 : Nat) t9 => (u9 = cpF f k) ∧ bW D (va_A (ws) sz) ([(r9, .inl (dA 7, n, .inr (.inr (.inr (.inr u9)))))] ++ (ws)) t9) (va_A (ws) sz)) 1 n (va_A (ws) sz) := by
  refine mkY (y := ⟨"java/util/Arrays", "copyOf", "([Ljava/lang/Object;ILjava/lang/Class;)[Ljava/lang/Object;"⟩) (cc := prog_38_method_120_code) (maxL := 4) (av := [.ref arr, .int (nI n), .ref mi]) (ws := ws) (sz := sz) (Qc := fun A => va_Qr (fun (_ : (Nat → Option Nat)) => True) (fun (u9 : (Nat → Option Nat)) (r9 : Nat) t9 => (u9 = cpF f k) ∧ bW D A ([(r9, .inl (dA 7, n, .inr (.inr (.inr (.inr u9)))))] ++ (ws)) t9) A) (by decide) (Nat.le_of_ble_eq_true rfl) ?_
  intro A p e s m below meth c ls hsz hZ hT hM hB
  obtain ⟨hx, hb, hr, hml, hown, hin, hlk, hE, hK, hP, hD, hS, hA, hN, hl⟩ := hB
  have hown : s.vm.findClass "java/util/Arrays" = some m.cls := hown
  have hl : lv_has ls 4 [(0, .ref arr), (1, .int (nI n)), (2, .ref mi)] := hl
  obtain ⟨H, hH⟩ : ∃ z, z = s.heap := ⟨_, rfl⟩
  have hP : va_P D vwCl (ws) H := by rw [hH]; exact hP
  have hS : va_S A s.heap H [] := by rw [hH]; exact hS
  rw [← hH]
  refine lv_aload_n hx hb d_Arrays_copyOf_918_0 rfl (lv_at hl 2 rfl) ?_
  refine va_ldcM hx hb hown (hE.t w1460 rfl) hM d_Arrays_copyOf_918_1 ?_
  refine lv_acmp_ne (rx := some mi) (ry := some mi) hx hb d_Arrays_copyOf_918_3 (tgt := 13) rfl (fun h9 => absurd rfl h9) (fun _ => ?_)
  refine lv_iload_n hx hb d_Arrays_copyOf_918_6 rfl (lv_at hl 1 rfl) ?_
  refine nnQ (N' := n) hx hb hown hE w1461 w767 hK hP hD hS hA 7 rfl (by omega) (show n * 4 ≤ 536870912 by omega) (show 0 + 1 ≤ 1 by omega) (show 0 + n ≤ n by omega) d_Arrays_copyOf_918_7 (fun r9 H hP hD hS => ?_)
  have hP : va_P D vwCl ([(r9, .inl (dA 7, n, .inr (.inr (.inr (.inr (fun _ => none))))))] ++ (ws)) H := hP
  have hD : va_D A ([(r9, .inl (dA 7, n, .inr (.inr (.inr (.inr (fun _ => none))))))] ++ (ws)) := hD
  refine lv_goto hx hb d_Arrays_copyOf_918_10 (tgt := 24) rfl ?_
  refine lv_astore_n hx hb d_Arrays_copyOf_918_24 rfl hl (by decide) rfl (fun ls hl => ?_)
  have hl : lv_has ls 4 [(3, .ref r9), (0, .ref arr), (1, .int (nI n)), (2, .ref mi)] := hl
  refine lv_aload_n hx hb d_Arrays_copyOf_918_25 rfl (lv_at hl 1 rfl) ?_
  refine lv_iconst (v := 0) hx hb d_Arrays_copyOf_918_26 (by decide) ?_
  refine lv_aload_n hx hb d_Arrays_copyOf_918_27 rfl (lv_at hl 0 rfl) ?_
  refine lv_iconst (v := 0) hx hb d_Arrays_copyOf_918_28 (by decide) ?_
  refine lv_aload_n hx hb d_Arrays_copyOf_918_29 rfl (lv_at hl 1 rfl) ?_
  obtain ⟨qp1, ep2⟩ := List.getElem?_of_mem (show ((arr, .inl (dA 7, k, .inr (.inr (.inr (.inr f))))) : Nat × va_E) ∈ [(r9, .inl (dA 7, n, .inr (.inr (.inr (.inr (fun _ => none))))))] ++ (ws) from (List.mem_append_right _ m1))
  refine va_alen (v := nI k) hx hb hK hP (qp1) 7 ep2 rfl rfl d_Arrays_copyOf_918_30 ?_
  refine lv_iload_n hx hb d_Arrays_copyOf_918_31 rfl (lv_at hl 2 rfl) ?_
  refine va_mmin hx hb (hml.trans hl.1.symm) hown (hE.t w1109 rfl) (hE.t w548 rfl) (hE.t w549 rfl) (hE.t w550 rfl) (Nat.le_of_ble_eq_true rfl) (Nat.le_of_ble_eq_true rfl) (show 0 + 1 ≤ 1 by omega) (show 0 + n ≤ n by omega) d_Arrays_copyOf_918_32 (tpi (y := nI (min k n)) (nI_min (a := k) (b := n) (by omega) (by omega)) ?_)
  obtain ⟨qp3, ep4⟩ := List.getElem?_of_mem (show ((arr, .inl (dA 7, k, .inr (.inr (.inr (.inr f))))) : Nat × va_E) ∈ [(r9, .inl (dA 7, n, .inr (.inr (.inr (.inr (fun _ => none))))))] ++ (ws) from (List.mem_append_right _ m1))
  refine ncpyO (E := "java/lang/Object") (r := ("SeriesVault$Table", TT, 7)) (f := f) (g := (fun _ => none)) (n0 := k) (n1 := n) hx hb (hml.trans hl.1.symm) hown (hE.t w1110 rfl) (hE.t w720 rfl) (hE.t w721 rfl) (hE.t w722 rfl) hK hP hD hS (qp3) (0) 7 8 (show va_Nw (.castable "SeriesVault$Table" "java/lang/Object") s from hE.1 _ w776) ep4 rfl rfl rfl (0) (0) (min k n) (by omega) (by omega) (by omega) (by omega) (by omega) (fun i hi y hy => by obtain ⟨vs, hv⟩ := hel i (by omega) y (by rw [Nat.zero_add] at hy; exact hy); exact ⟨vs, (List.mem_append_right _ hv)⟩) (Nat.le_of_ble_eq_true rfl) (Nat.le_of_ble_eq_true rfl) d_Arrays_copyOf_918_35 (fun H locs hP hD hS => ?_)
  have hP : va_P D vwCl ([(r9, .inl (dA 7, n, .inr (.inr (.inr (.inr (va_cpy f (fun _ => none) 0 0 (min k n)))))))] ++ (ws)) H := hP
  have hD : va_D A ([(r9, .inl (dA 7, n, .inr (.inr (.inr (.inr (va_cpy f (fun _ => none) 0 0 (min k n)))))))] ++ (ws)) := hD
  refine lv_aload_n hx hb d_Arrays_copyOf_918_38 rfl (lv_at hl 0 rfl) ?_
  exact rkR hx hb hr (Or.inr ⟨_, rfl⟩) hlk hS (va_cpy f (fun _ => none) 0 0 (min k n)) (cpF_e h1) hP hD (show 0 + 1 ≤ 1 by omega) (show 0 + n ≤ n by omega) d_Arrays_copyOf_918_39
set_option maxHeartbeats 4000000 in
set_option maxRecDepth 100000 in
theorem v_ocopy_T (l : Launch) (D : va_G) (dA : Nat → ClassId) (sz : Nat) (e0 mi : Nat) (ws : va_W) (arr : Nat) (k : Nat) (f : Nat → Option Nat) (n : Nat) (m1 : (arr, .inl (dA 7, k, .inr (.inr (.inr (.inr f))))) ∈ ws) (hel : ∀ i : Nat, i < k → ∀ y : Nat, f i = some y → ∃ vs : List Value, (y, .inr (8, vs)) ∈ ws) (h1 : k ≤ n) (h2 : n ≤ 131072) : Met l ⟨"java/util/Arrays", "copyOf", "([Ljava/lang/Object;I)[Ljava/lang/Object;"⟩ [Cond.code ⟨"java/util/Arrays", "copyOf", "([Ljava/lang/Object;I)[Ljava/lang/Object;"⟩ prog_38_method_119_code 2 (some (FieldType.array (FieldType.object "java/lang/Object")))] { frames := 2, cells := 1, slots := n, locals := 63 } (pCy D dA e0 mi [.ref arr, .int (nI n)] (ws) sz) (va_Qr (fun (_ : (Nat → Option Nat)) => True) (fun (u9 : (Nat → Option Nat)) (r9 : Nat) t9 => (u9 = cpF f k) ∧ bW D (va_A (ws) sz) ([(r9, .inl (dA 7, n, .inr (.inr (.inr (.inr u9)))))] ++ (ws)) t9) (va_A (ws) sz)) 1 n (va_A (ws) sz) := by
  refine mkY (y := ⟨"java/util/Arrays", "copyOf", "([Ljava/lang/Object;I)[Ljava/lang/Object;"⟩) (cc := prog_38_method_119_code) (maxL := 2) (av := [.ref arr, .int (nI n)]) (ws := ws) (sz := sz) (Qc := fun A => va_Qr (fun (_ : (Nat → Option Nat)) => True) (fun (u9 : (Nat → Option Nat)) (r9 : Nat) t9 => (u9 = cpF f k) ∧ bW D A ([(r9, .inl (dA 7, n, .inr (.inr (.inr (.inr u9)))))] ++ (ws)) t9) A) (by decide) (Nat.le_of_ble_eq_true rfl) ?_
  intro A p e s m below meth c ls hsz hZ hT hM hB
  obtain ⟨hx, hb, hr, hml, hown, hin, hlk, hE, hK, hP, hD, hS, hA, hN, hl⟩ := hB
  have hown : s.vm.findClass "java/util/Arrays" = some m.cls := hown
  have hl : lv_has ls 2 [(0, .ref arr), (1, .int (nI n))] := hl
  obtain ⟨H, hH⟩ : ∃ z, z = s.heap := ⟨_, rfl⟩
  have hP : va_P D vwCl (ws) H := by rw [hH]; exact hP
  have hS : va_S A s.heap H [] := by rw [hH]; exact hS
  rw [← hH]
  refine lv_aload_n hx hb d_Arrays_copyOf_5ca_0 rfl (lv_at hl 0 rfl) ?_
  refine lv_iload_n hx hb d_Arrays_copyOf_5ca_1 rfl (lv_at hl 1 rfl) ?_
  refine lv_aload_n hx hb d_Arrays_copyOf_5ca_2 rfl (lv_at hl 0 rfl) ?_
  obtain ⟨qp1, ep2⟩ := List.getElem?_of_mem (show ((arr, .inl (dA 7, k, .inr (.inr (.inr (.inr f))))) : Nat × va_E) ∈ ws from m1)
  refine ngetC hx hb (hml.trans hl.1.symm) hown hE w1462 w1463 w1464 w1465 w1466 hM hK hP (qp1) ep2 (Nat.le_of_ble_eq_true rfl) (Nat.le_of_ble_eq_true rfl) d_Arrays_copyOf_5ca_3 ?_
  refine jkR (wr := []) (rnSy (As := [.ref arr, .int (nI n), .ref mi]) (rest := []) hx hb hml hown hE hK hZ hT hM hS (hN _ _ hS) hP hD (v_ocopy3_T l D dA H.size e0 mi ws arr k f n m1 hel (show k ≤ n from by omega) (show n ≤ 131072 from by omega)) w1468 w1467 w1469 w712 rfl rfl ⟨⟨by decide, by decide⟩, rfl⟩ ⟨(Nat.le_of_ble_eq_true rfl), (Nat.le_of_ble_eq_true rfl)⟩ rfl hl.1 rfl (Nat.le_of_ble_eq_true rfl) d_Arrays_copyOf_5ca_6 ⟨(show 0 + 1 ≤ 1 by omega), (show 0 + n ≤ n by omega)⟩) hP hD hS hA (fun u3 r9 H locs hp9 hP hD hS => ?_)
  obtain ⟨gx, h9u⟩ : ∃ z9, z9 = u3 := ⟨_, rfl⟩
  subst h9u
  have hP : va_P D vwCl ([(r9, .inl (dA 7, n, .inr (.inr (.inr (.inr gx)))))] ++ (ws)) H := hP
  have hD : va_D A ([(r9, .inl (dA 7, n, .inr (.inr (.inr (.inr gx)))))] ++ (ws)) := hD
  have f_e_4 := hp9
  exact rkR hx hb hr (Or.inr ⟨_, rfl⟩) hlk hS gx f_e_4 hP hD (show 0 + 1 ≤ 1 by omega) (show 0 + n ≤ n by omega) d_Arrays_copyOf_5ca_9
set_option maxHeartbeats 4000000 in
set_option maxRecDepth 100000 in
theorem v_Lgrow1_T (l : Launch) (D : va_G) (dA : Nat → ClassId) (sz : Nat) (e0 mi : Nat) (ws : va_W) (la : Nat → Nat) (g : LI) (mn : Nat) (hel : ∀ i : Nat, i < g.eN → ∀ y : Nat, g.el i = some y → ∃ vs : List Value, (y, .inr (8, vs)) ∈ ws) (h1 : 0 < g.eN) (h2 : g.eN ≤ 65536) (h3 : g.sz = g.eN) (h4 : mn = g.eN + 1) : Met l ⟨"java/util/ArrayList", "grow", "(I)[Ljava/lang/Object;"⟩ [Cond.code ⟨"java/util/ArrayList", "grow", "(I)[Ljava/lang/Object;"⟩ prog_37_method_6_code 4 (some (FieldType.array (FieldType.object "java/lang/Object")))] { frames := 3, cells := 1, slots := g.eN + max 1 (g.eN / 2), locals := 84 } (pCy D dA e0 mi [.ref (la 0), .int (nI mn)] (LiW dA la g ++ (ws)) sz) (va_Qr (fun (_ : Unit) => True) (fun (u9 : Unit) (r9 : Nat) t9 => (True) ∧ bW D (va_A (LiW dA la g ++ (ws)) sz) (LiW dA la (LI.s_el (LI.s_eN (LI.s_eA g r9) (g.eN + max 1 (g.eN / 2))) (cpF g.el g.eN)) ++ (ws)) t9) (va_A (LiW dA la g ++ (ws)) sz)) 1 (g.eN + max 1 (g.eN / 2)) (va_A (LiW dA la g ++ (ws)) sz) := by
  refine mkY (y := ⟨"java/util/ArrayList", "grow", "(I)[Ljava/lang/Object;"⟩) (cc := prog_37_method_6_code) (maxL := 4) (av := [.ref (la 0), .int (nI mn)]) (ws := LiW dA la g ++ (ws)) (sz := sz) (Qc := fun A => va_Qr (fun (_ : Unit) => True) (fun (u9 : Unit) (r9 : Nat) t9 => (True) ∧ bW D A (LiW dA la (LI.s_el (LI.s_eN (LI.s_eA g r9) (g.eN + max 1 (g.eN / 2))) (cpF g.el g.eN)) ++ (ws)) t9) A) (by decide) (Nat.le_of_ble_eq_true rfl) ?_
  intro A p e s m below meth c ls hsz hZ hT hM hB
  obtain ⟨hx, hb, hr, hml, hown, hin, hlk, hE, hK, hP, hD, hS, hA, hN, hl⟩ := hB
  have hown : s.vm.findClass "java/util/ArrayList" = some m.cls := hown
  have hl : lv_has ls 4 [(0, .ref (la 0)), (1, .int (nI mn))] := hl
  obtain ⟨H, hH⟩ : ∃ z, z = s.heap := ⟨_, rfl⟩
  have hP : va_P D vwCl (LiW dA la g ++ (ws)) H := by rw [hH]; exact hP
  have hS : va_S A s.heap H [] := by rw [hH]; exact hS
  rw [← hH]
  refine lv_aload_n hx hb d_L_grow_6cd_0 rfl (lv_at hl 0 rfl) ?_
  refine gF (v := .ref g.eA) hx hb hown hE hK hP 0 rfl rfl layL 0 (by decide) w656 rfl d_L_grow_6cd_1 ?_
  refine va_alen (v := nI g.eN) hx hb hK hP (1) 7 rfl rfl rfl d_L_grow_6cd_4 ?_
  refine lv_istore_n hx hb d_L_grow_6cd_5 rfl hl (by decide) rfl (fun ls hl => ?_)
  have hl : lv_has ls 4 [(2, .int (nI g.eN)), (0, .ref (la 0)), (1, .int (nI mn))] := hl
  refine lv_iload_n hx hb d_L_grow_6cd_6 rfl (lv_at hl 0 rfl) ?_
  refine lv_if_gt hx hb d_L_grow_6cd_7 (tgt := 20) rfl (fun _ => ?_) (fun h9 => absurd ((nI_ltI (a := 0) (b := g.eN) (by omega) (by omega)).mpr h1) h9)
  refine lv_iload_n hx hb d_L_grow_6cd_20 rfl (lv_at hl 0 rfl) ?_
  refine lv_iload_n hx hb d_L_grow_6cd_21 rfl (lv_at hl 2 rfl) ?_
  refine lv_iload_n hx hb d_L_grow_6cd_22 rfl (lv_at hl 0 rfl) ?_
  refine lv_isub hx hb d_L_grow_6cd_23 (tpi (y := nI (mn - g.eN)) (pk_sub (a := mn) (b := g.eN) (by omega)) ?_)
  refine lv_iload_n hx hb d_L_grow_6cd_24 rfl (lv_at hl 0 rfl) ?_
  refine lv_iconst (v := 1) hx hb d_L_grow_6cd_25 (by decide) ?_
  refine lv_ishr hx hb d_L_grow_6cd_26 (tpi (y := nI (g.eN / 2)) (sar_nI (a := g.eN) (by omega)) ?_)
  have e5 : mn - g.eN = 1 := by omega
  have e5 : mn - g.eN = 1 := by omega
  have hPc := hP.sub (ws' := []) [] rfl
  have hDc := hD.sub (ws' := []) [] (by decide) rfl
  refine jpI (rnS (As := [.int (nI g.eN), .int (nI (mn - g.eN)), .int (nI (g.eN / 2))]) (rest := []) hx hb hml hown hE hK (hN _ _ hS) hPc hDc (v_newLength l D dA H.size g.eN (mn - g.eN) (g.eN / 2) (show 1 ≤ (mn - g.eN) from by omega) (show g.eN ≤ 65536 from by omega) (show (mn - g.eN) ≤ 65536 from by omega) (show (g.eN / 2) ≤ 65536 from by omega)) w1472 w1470 w1473 w1471 rfl rfl ⟨⟨by decide, by decide⟩, rfl⟩ ⟨(Nat.le_of_ble_eq_true rfl), (Nat.le_of_ble_eq_true rfl)⟩ rfl hl.1 rfl (Nat.le_of_ble_eq_true rfl) d_L_grow_6cd_27 ⟨(show 0 + 0 ≤ 1 by omega), (show 0 + 0 ≤ g.eN + max 1 (g.eN / 2) by omega)⟩) hP hD hS hA (fun r1 u9 H locs hp9 hP hD hS => ?_)
  have hP : va_P D vwCl (LiW dA la g ++ (ws)) H := hP
  have hD : va_D A (LiW dA la g ++ (ws)) := hD
  replace hp9 : nI (g.eN + max (mn - g.eN) (g.eN / 2)) = r1 := Eq.symm hp9
  subst hp9
  refine lv_istore_n hx hb d_L_grow_6cd_30 rfl hl (by decide) rfl (fun ls hl => ?_)
  have hl : lv_has ls 4 [(3, .int (nI (g.eN + max (mn - g.eN) (g.eN / 2)))), (2, .int (nI g.eN)), (0, .ref (la 0)), (1, .int (nI mn))] := hl
  refine lv_aload_n hx hb d_L_grow_6cd_31 rfl (lv_at hl 2 rfl) ?_
  refine lv_aload_n hx hb d_L_grow_6cd_32 rfl (lv_at hl 2 rfl) ?_
  refine gF (v := .ref g.eA) hx hb hown hE hK hP 0 rfl rfl layL 0 (by decide) w656 rfl d_L_grow_6cd_33 ?_
  refine lv_iload_n hx hb d_L_grow_6cd_36 rfl (lv_at hl 0 rfl) ?_
  refine jkR (wr := []) (rnSy (As := [.ref g.eA, .int (nI (g.eN + max (mn - g.eN) (g.eN / 2)))]) (rest := [.ref (la 0)]) hx hb hml hown hE hK hZ hT hM hS (hN _ _ hS) hP hD (v_ocopy_T l D dA H.size e0 mi (LiW dA la g ++ (ws)) g.eA g.eN g.el (g.eN + max (mn - g.eN) (g.eN / 2)) (List.mem_of_getElem? (i := 1) rfl) (fun i hi y hy => by obtain ⟨vs, hv⟩ := hel i hi y hy; exact ⟨vs, (fun _ hm => (List.mem_append_right _ hm)) _ hv⟩) (show g.eN ≤ (g.eN + max (mn - g.eN) (g.eN / 2)) from by omega) (show (g.eN + max (mn - g.eN) (g.eN / 2)) ≤ 131072 from by omega)) w1475 w1474 w1476 w712 rfl rfl ⟨⟨by decide, by decide⟩, rfl⟩ ⟨(Nat.le_of_ble_eq_true rfl), (Nat.le_of_ble_eq_true rfl)⟩ rfl hl.1 rfl (Nat.le_of_ble_eq_true rfl) d_L_grow_6cd_37 ⟨(show 0 + 0 + 1 ≤ 1 by omega), (show 0 + 0 + (g.eN + max (mn - g.eN) (g.eN / 2)) ≤ g.eN + max 1 (g.eN / 2) by omega)⟩) hP hD hS hA (fun u3 r9 H locs hp9 hP hD hS => ?_)
  obtain ⟨gx4, h9u⟩ : ∃ z9, z9 = u3 := ⟨_, rfl⟩
  subst h9u
  have hP : va_P D vwCl ([(r9, .inl (dA 7, g.eN + max (mn - g.eN) (g.eN / 2), .inr (.inr (.inr (.inr gx4)))))] ++ (LiW dA la g ++ (ws))) H := hP
  have hD : va_D A ([(r9, .inl (dA 7, g.eN + max (mn - g.eN) (g.eN / 2), .inr (.inr (.inr (.inr gx4)))))] ++ (LiW dA la g ++ (ws))) := hD
  have f_e_5 := hp9
  refine lv_dup_x1 hx hb d_L_grow_6cd_40 rfl rfl ?_
  refine pF (v := .ref r9) hx hb hown hE hK hP hD hS 1 rfl rfl layL tyL tokL nmL 0 (by decide) w656 rfl rfl rfl (Nat.le_of_ble_eq_true rfl) d_L_grow_6cd_41 (fun H locs hP hD hS => ?_)
  have hP : va_P D vwCl ([(r9, .inl (dA 7, g.eN + max (mn - g.eN) (g.eN / 2), .inr (.inr (.inr (.inr gx4)))))] ++ (LiWf dA la g (LI.s_eA g r9) ++ (ws))) H := hP
  have hD : va_D A ([(r9, .inl (dA 7, g.eN + max (mn - g.eN) (g.eN / 2), .inr (.inr (.inr (.inr gx4)))))] ++ (LiWf dA la g (LI.s_eA g r9) ++ (ws))) := hD
  have hP := swP 1 hP
  have hD := swD 1 hD
  have hP : va_P D vwCl (LiW dA la (LI.s_el (LI.s_eN (LI.s_eA g r9) (g.eN + max (mn - g.eN) (g.eN / 2))) gx4) ++ (ws)) H := hP
  have hD : va_D A (LiW dA la (LI.s_el (LI.s_eN (LI.s_eA g r9) (g.eN + max (mn - g.eN) (g.eN / 2))) gx4) ++ (ws)) := hD
  have e9 : (LI.s_el (LI.s_eN (LI.s_eA g r9) (g.eN + max (mn - g.eN) (g.eN / 2))) gx4 : LI) = LI.s_el (LI.s_eN (LI.s_eA g r9) (g.eN + max 1 (g.eN / 2))) (cpF g.el g.eN) := by rw [show (g.eN + max 1 (g.eN / 2)) = (g.eN + max (mn - g.eN) (g.eN / 2)) from by simp [*], show (cpF g.el g.eN) = gx4 from by simp [*]] <;> rfl
  rw [e9] at hP hD
  exact rkR hx hb hr (Or.inr ⟨_, rfl⟩) hlk hS () trivial hP hD (show 0 + 0 + 1 ≤ 1 by omega) (show 0 + 0 + (g.eN + max (mn - g.eN) (g.eN / 2)) ≤ g.eN + max 1 (g.eN / 2) by omega) d_L_grow_6cd_44
set_option maxHeartbeats 4000000 in
set_option maxRecDepth 100000 in
theorem v_Lgrow_T (l : Launch) (D : va_G) (dA : Nat → ClassId) (sz : Nat) (e0 mi : Nat) (ws : va_W) (la : Nat → Nat) (g : LI) (hel : ∀ i : Nat, i < g.eN → ∀ y : Nat, g.el i = some y → ∃ vs : List Value, (y, .inr (8, vs)) ∈ ws) (h1 : 0 < g.eN) (h2 : g.eN ≤ 65536) (h3 : g.sz = g.eN) : Met l ⟨"java/util/ArrayList", "grow", "()[Ljava/lang/Object;"⟩ [Cond.code ⟨"java/util/ArrayList", "grow", "()[Ljava/lang/Object;"⟩ prog_37_method_7_code 1 (some (FieldType.array (FieldType.object "java/lang/Object")))] { frames := 4, cells := 1, slots := g.eN + max 1 (g.eN / 2), locals := 107 } (pCy D dA e0 mi [.ref (la 0)] (LiW dA la g ++ (ws)) sz) (va_Qr (fun (_ : Unit) => True) (fun (u9 : Unit) (r9 : Nat) t9 => (True) ∧ bW D (va_A (LiW dA la g ++ (ws)) sz) (LiW dA la (LI.s_el (LI.s_eN (LI.s_eA g r9) (g.eN + max 1 (g.eN / 2))) (cpF g.el g.eN)) ++ (ws)) t9) (va_A (LiW dA la g ++ (ws)) sz)) 1 (g.eN + max 1 (g.eN / 2)) (va_A (LiW dA la g ++ (ws)) sz) := by
  refine mkY (y := ⟨"java/util/ArrayList", "grow", "()[Ljava/lang/Object;"⟩) (cc := prog_37_method_7_code) (maxL := 1) (av := [.ref (la 0)]) (ws := LiW dA la g ++ (ws)) (sz := sz) (Qc := fun A => va_Qr (fun (_ : Unit) => True) (fun (u9 : Unit) (r9 : Nat) t9 => (True) ∧ bW D A (LiW dA la (LI.s_el (LI.s_eN (LI.s_eA g r9) (g.eN + max 1 (g.eN / 2))) (cpF g.el g.eN)) ++ (ws)) t9) A) (by decide) (Nat.le_of_ble_eq_true rfl) ?_
  intro A p e s m below meth c ls hsz hZ hT hM hB
  obtain ⟨hx, hb, hr, hml, hown, hin, hlk, hE, hK, hP, hD, hS, hA, hN, hl⟩ := hB
  have hown : s.vm.findClass "java/util/ArrayList" = some m.cls := hown
  have hl : lv_has ls 1 [(0, .ref (la 0))] := hl
  obtain ⟨H, hH⟩ : ∃ z, z = s.heap := ⟨_, rfl⟩
  have hP : va_P D vwCl (LiW dA la g ++ (ws)) H := by rw [hH]; exact hP
  have hS : va_S A s.heap H [] := by rw [hH]; exact hS
  rw [← hH]
  refine lv_aload_n hx hb d_L_grow_d81_0 rfl (lv_at hl 0 rfl) ?_
  refine lv_aload_n hx hb d_L_grow_d81_1 rfl (lv_at hl 0 rfl) ?_
  refine gF (v := .int (nI g.sz)) hx hb hown hE hK hP 0 rfl rfl layL 1 (by decide) w657 rfl d_L_grow_d81_2 ?_
  refine lv_iconst (v := 1) hx hb d_L_grow_d81_5 (by decide) ?_
  refine lv_iadd hx hb d_L_grow_d81_6 (tpi (y := nI (g.sz + 1)) (nI_add (g.sz) (1)) ?_)
  refine jkR (wr := []) (rnVy (As := [.int (nI (g.sz + 1))]) (rest := []) hx hb hml hown hE hK hZ hT hM hS (hN _ _ hS) hP hD (v_Lgrow1_T l D dA H.size e0 mi ws la g (g.sz + 1) hel (show 0 < g.eN from by omega) (show g.eN ≤ 65536 from by omega) (show g.sz = g.eN from by omega) (show (g.sz + 1) = g.eN + 1 from by omega)) (q0 := 0) rfl rfl w769 w768 w770 w771 w680 rfl rfl ⟨⟨by decide, by decide⟩, rfl⟩ ⟨(Nat.le_of_ble_eq_true rfl), (Nat.le_of_ble_eq_true rfl)⟩ rfl hl.1 rfl (Nat.le_of_ble_eq_true rfl) d_L_grow_d81_7 ⟨(show 0 + 1 ≤ 1 by omega), (show 0 + (g.eN + max 1 (g.eN / 2)) ≤ g.eN + max 1 (g.eN / 2) by omega)⟩) hP hD hS hA (fun u1 r9 H locs hp9 hP hD hS => ?_)
  have hP : va_P D vwCl (LiW dA la (LI.s_el (LI.s_eN (LI.s_eA g r9) (g.eN + max 1 (g.eN / 2))) (cpF g.el g.eN)) ++ (ws)) H := hP
  have hD : va_D A (LiW dA la (LI.s_el (LI.s_eN (LI.s_eA g r9) (g.eN + max 1 (g.eN / 2))) (cpF g.el g.eN)) ++ (ws)) := hD
  exact rkR hx hb hr (Or.inr ⟨_, rfl⟩) hlk hS () trivial hP hD (show 0 + 1 ≤ 1 by omega) (show 0 + (g.eN + max 1 (g.eN / 2)) ≤ g.eN + max 1 (g.eN / 2) by omega) d_L_grow_d81_10
set_option maxHeartbeats 4000000 in
set_option maxRecDepth 100000 in
theorem v_Ladd3_gT (l : Launch) (D : va_G) (dA : Nat → ClassId) (sz : Nat) (e0 mi : Nat) (ws : va_W) (la : Nat → Nat) (g : LI) (v : Nat) (fs : List Value) (hel : ∀ i : Nat, i < g.eN → ∀ y : Nat, g.el i = some y → ∃ vs : List Value, (y, .inr (8, vs)) ∈ ws) (h1 : 0 < g.eN) (h2 : g.eN ≤ 65536) (h3 : g.sz = g.eN) (mo : (v, .inr (8, fs)) ∈ ws) : Met l ⟨"java/util/ArrayList", "add", "(Ljava/lang/Object;[Ljava/lang/Object;I)V"⟩ [Cond.code ⟨"java/util/ArrayList", "add", "(Ljava/lang/Object;[Ljava/lang/Object;I)V"⟩ prog_37_method_24_code 4 none] { frames := 5, cells := 1, slots := g.eN + max 1 (g.eN / 2), locals := 127 } (pCy D dA e0 mi [.ref (la 0), .ref v, .ref g.eA, .int (nI g.sz)] (LiW dA la g ++ (ws)) sz) (va_Qv (fun (u9 : Nat) => True) (fun (u9 : Nat) t9 => bW D (va_A (LiW dA la g ++ (ws)) sz) (LiW dA la (LI.s_el (LI.s_eN (LI.s_eA (LI.s_sz g (g.sz + 1)) u9) (g.eN + max 1 (g.eN / 2))) (va_up (cpF g.el g.eN) g.sz (some v))) ++ (ws)) t9) (va_A (LiW dA la g ++ (ws)) sz)) 1 (g.eN + max 1 (g.eN / 2)) (va_A (LiW dA la g ++ (ws)) sz) := by
  refine mkY (y := ⟨"java/util/ArrayList", "add", "(Ljava/lang/Object;[Ljava/lang/Object;I)V"⟩) (cc := prog_37_method_24_code) (maxL := 4) (av := [.ref (la 0), .ref v, .ref g.eA, .int (nI g.sz)]) (ws := LiW dA la g ++ (ws)) (sz := sz) (Qc := fun A => va_Qv (fun (u9 : Nat) => True) (fun (u9 : Nat) t9 => bW D A (LiW dA la (LI.s_el (LI.s_eN (LI.s_eA (LI.s_sz g (g.sz + 1)) u9) (g.eN + max 1 (g.eN / 2))) (va_up (cpF g.el g.eN) g.sz (some v))) ++ (ws)) t9) A) (by decide) (Nat.le_of_ble_eq_true rfl) ?_
  intro A p e s m below meth c ls hsz hZ hT hM hB
  obtain ⟨hx, hb, hr, hml, hown, hin, hlk, hE, hK, hP, hD, hS, hA, hN, hl⟩ := hB
  have hown : s.vm.findClass "java/util/ArrayList" = some m.cls := hown
  have hl : lv_has ls 4 [(0, .ref (la 0)), (1, .ref v), (2, .ref g.eA), (3, .int (nI g.sz))] := hl
  obtain ⟨H, hH⟩ : ∃ z, z = s.heap := ⟨_, rfl⟩
  have hP : va_P D vwCl (LiW dA la g ++ (ws)) H := by rw [hH]; exact hP
  have hS : va_S A s.heap H [] := by rw [hH]; exact hS
  rw [← hH]
  refine lv_iload_n hx hb d_L_add_faf_0 rfl (lv_at hl 3 rfl) ?_
  refine lv_aload_n hx hb d_L_add_faf_1 rfl (lv_at hl 2 rfl) ?_
  refine va_alen (v := nI g.eN) hx hb hK hP (1) 7 rfl rfl rfl d_L_add_faf_2 ?_
  refine lv_icmp_ne hx hb d_L_add_faf_3 (tgt := 11) rfl (fun h9 => absurd ((nI_eq (a := g.sz) (b := g.eN) (by omega) (by omega)).mpr h3) h9) (fun _ => ?_)
  refine lv_aload_n hx hb d_L_add_faf_6 rfl (lv_at hl 0 rfl) ?_
  refine jkR (wr := []) (rnVy (As := []) (rest := []) hx hb hml hown hE hK hZ hT hM hS (hN _ _ hS) hP hD (v_Lgrow_T l D dA H.size e0 mi ws la g hel (show 0 < g.eN from by omega) (show g.eN ≤ 65536 from by omega) (show g.sz = g.eN from by omega)) (q0 := 0) rfl rfl w773 w772 w774 w775 w680 rfl rfl ⟨⟨by decide, by decide⟩, rfl⟩ ⟨(Nat.le_of_ble_eq_true rfl), (Nat.le_of_ble_eq_true rfl)⟩ rfl hl.1 rfl (Nat.le_of_ble_eq_true rfl) d_L_add_faf_7 ⟨(show 0 + 1 ≤ 1 by omega), (show 0 + (g.eN + max 1 (g.eN / 2)) ≤ g.eN + max 1 (g.eN / 2) by omega)⟩) hP hD hS hA (fun u1 b H locs hp9 hP hD hS => ?_)
  have hP : va_P D vwCl (LiW dA la (LI.s_el (LI.s_eN (LI.s_eA g b) (g.eN + max 1 (g.eN / 2))) (cpF g.el g.eN)) ++ (ws)) H := hP
  have hD : va_D A (LiW dA la (LI.s_el (LI.s_eN (LI.s_eA g b) (g.eN + max 1 (g.eN / 2))) (cpF g.el g.eN)) ++ (ws)) := hD
  refine lv_astore_n hx hb d_L_add_faf_10 rfl hl (by decide) rfl (fun ls hl => ?_)
  have hl : lv_has ls 4 [(2, .ref b), (0, .ref (la 0)), (1, .ref v), (3, .int (nI g.sz))] := hl
  refine lv_aload_n hx hb d_L_add_faf_11 rfl (lv_at hl 0 rfl) ?_
  refine lv_iload_n hx hb d_L_add_faf_12 rfl (lv_at hl 3 rfl) ?_
  refine lv_aload_n hx hb d_L_add_faf_13 rfl (lv_at hl 2 rfl) ?_
  obtain ⟨qp2, ep3⟩ := List.getElem?_of_mem (show ((v, .inr (8, fs)) : Nat × va_E) ∈ LiW dA la (LI.s_el (LI.s_eN (LI.s_eA g b) (g.eN + max 1 (g.eN / 2))) (cpF g.el g.eN)) ++ (ws) from (List.mem_append_right _ mo))
  refine nqstO (E := "java/lang/Object") (r := ("SeriesVault$Table", TT, 7)) (f := (cpF g.el g.eN)) (n := g.eN + max 1 (g.eN / 2)) hx hb hK hP hD hS (1) 7 (qp2) 8 rfl rfl (show va_Nw (.castable "SeriesVault$Table" "java/lang/Object") s from hE.1 _ w776) ep3 rfl (g.sz) (by omega) (by omega) d_L_add_faf_14 (fun H locs hP hD hS => ?_)
  have hP : va_P D vwCl (LiW dA la (LI.s_el (LI.s_eN (LI.s_eA g b) (g.eN + max 1 (g.eN / 2))) (va_up (cpF g.el g.eN) g.sz (some v))) ++ (ws)) H := hP
  have hD : va_D A (LiW dA la (LI.s_el (LI.s_eN (LI.s_eA g b) (g.eN + max 1 (g.eN / 2))) (va_up (cpF g.el g.eN) g.sz (some v))) ++ (ws)) := hD
  refine lv_aload_n hx hb d_L_add_faf_15 rfl (lv_at hl 1 rfl) ?_
  refine lv_iload_n hx hb d_L_add_faf_16 rfl (lv_at hl 3 rfl) ?_
  refine lv_iconst (v := 1) hx hb d_L_add_faf_17 (by decide) ?_
  refine lv_iadd hx hb d_L_add_faf_18 (tpi (y := nI (g.sz + 1)) (nI_add (g.sz) (1)) ?_)
  refine pF (v := .int (nI (g.sz + 1))) hx hb hown hE hK hP hD hS 0 rfl rfl layL tyL tokL nmL 1 (by decide) w657 rfl rfl rfl (Nat.le_of_ble_eq_true rfl) d_L_add_faf_19 (fun H locs hP hD hS => ?_)
  have hP : va_P D vwCl (LiW dA la (LI.s_el (LI.s_eN (LI.s_eA (LI.s_sz g (g.sz + 1)) b) (g.eN + max 1 (g.eN / 2))) (va_up (cpF g.el g.eN) g.sz (some v))) ++ (ws)) H := hP
  have hD : va_D A (LiW dA la (LI.s_el (LI.s_eN (LI.s_eA (LI.s_sz g (g.sz + 1)) b) (g.eN + max 1 (g.eN / 2))) (va_up (cpF g.el g.eN) g.sz (some v))) ++ (ws)) := hD
  exact rfV hx hb hr hlk hS b trivial hP hD (show 0 + 1 ≤ 1 by omega) (show 0 + (g.eN + max 1 (g.eN / 2)) ≤ g.eN + max 1 (g.eN / 2) by omega) d_L_add_faf_22
set_option maxHeartbeats 4000000 in
set_option maxRecDepth 100000 in
theorem v_Ladd_gT (l : Launch) (D : va_G) (dA : Nat → ClassId) (sz : Nat) (e0 mi : Nat) (ws : va_W) (la : Nat → Nat) (g : LI) (v : Nat) (fs : List Value) (hel : ∀ i : Nat, i < g.eN → ∀ y : Nat, g.el i = some y → ∃ vs : List Value, (y, .inr (8, vs)) ∈ ws) (h1 : 0 < g.eN) (h2 : g.eN ≤ 65536) (h3 : g.sz = g.eN) (mo : (v, .inr (8, fs)) ∈ ws) : Met l ⟨"java/util/ArrayList", "add", "(Ljava/lang/Object;)Z"⟩ [Cond.code ⟨"java/util/ArrayList", "add", "(Ljava/lang/Object;)Z"⟩ prog_37_method_25_code 2 (some FieldType.boolean)] { frames := 6, cells := 1, slots := g.eN + max 1 (g.eN / 2), locals := 150 } (pCy D dA e0 mi [.ref (la 0), .ref v] (LiW dA la g ++ (ws)) sz) (va_Qi (fun (r9 : Int32) (u9 : Nat) => r9 = 1) (fun (u9 : Nat) t9 => bW D (va_A (LiW dA la g ++ (ws)) sz) (LiW dA la (LI.s_el (LI.s_eN (LI.s_eA (LI.s_mc (LI.s_sz g (g.sz + 1)) (g.mc + 1)) u9) (g.eN + max 1 (g.eN / 2))) (va_up (cpF g.el g.eN) g.sz (some v))) ++ (ws)) t9) (va_A (LiW dA la g ++ (ws)) sz)) 1 (g.eN + max 1 (g.eN / 2)) (va_A (LiW dA la g ++ (ws)) sz) := by
  refine mkY (y := ⟨"java/util/ArrayList", "add", "(Ljava/lang/Object;)Z"⟩) (cc := prog_37_method_25_code) (maxL := 2) (av := [.ref (la 0), .ref v]) (ws := LiW dA la g ++ (ws)) (sz := sz) (Qc := fun A => va_Qi (fun (r9 : Int32) (u9 : Nat) => r9 = 1) (fun (u9 : Nat) t9 => bW D A (LiW dA la (LI.s_el (LI.s_eN (LI.s_eA (LI.s_mc (LI.s_sz g (g.sz + 1)) (g.mc + 1)) u9) (g.eN + max 1 (g.eN / 2))) (va_up (cpF g.el g.eN) g.sz (some v))) ++ (ws)) t9) A) (by decide) (Nat.le_of_ble_eq_true rfl) ?_
  intro A p e s m below meth c ls hsz hZ hT hM hB
  obtain ⟨hx, hb, hr, hml, hown, hin, hlk, hE, hK, hP, hD, hS, hA, hN, hl⟩ := hB
  have hown : s.vm.findClass "java/util/ArrayList" = some m.cls := hown
  have hl : lv_has ls 2 [(0, .ref (la 0)), (1, .ref v)] := hl
  obtain ⟨H, hH⟩ : ∃ z, z = s.heap := ⟨_, rfl⟩
  have hP : va_P D vwCl (LiW dA la g ++ (ws)) H := by rw [hH]; exact hP
  have hS : va_S A s.heap H [] := by rw [hH]; exact hS
  rw [← hH]
  refine lv_aload_n hx hb d_L_add_9ae_0 rfl (lv_at hl 0 rfl) ?_
  refine lv_dup hx hb d_L_add_9ae_1 rfl ?_
  refine gFU (v := .int g.mc) hx hb hown hE hK hP 0 rfl rfl layL 2 (by decide) w654 w655 rfl d_L_add_9ae_2 ?_
  refine lv_iconst (v := 1) hx hb d_L_add_9ae_5 (by decide) ?_
  refine lv_iadd hx hb d_L_add_9ae_6 ?_
  refine pFU (v := .int (g.mc + 1)) hx hb hown hE hK hP hD hS 0 rfl rfl layL tyL tokL nmL 2 (by decide) w654 w655 rfl rfl rfl (Nat.le_of_ble_eq_true rfl) d_L_add_9ae_7 (fun H locs hP hD hS => ?_)
  have hP : va_P D vwCl (LiW dA la (LI.s_mc g (g.mc + 1)) ++ (ws)) H := hP
  have hD : va_D A (LiW dA la (LI.s_mc g (g.mc + 1)) ++ (ws)) := hD
  refine lv_aload_n hx hb d_L_add_9ae_10 rfl (lv_at hl 0 rfl) ?_
  refine lv_aload_n hx hb d_L_add_9ae_11 rfl (lv_at hl 1 rfl) ?_
  refine lv_aload_n hx hb d_L_add_9ae_12 rfl (lv_at hl 0 rfl) ?_
  refine gF (v := .ref g.eA) hx hb hown hE hK hP 0 rfl rfl layL 0 (by decide) w656 rfl d_L_add_9ae_13 ?_
  refine lv_aload_n hx hb d_L_add_9ae_16 rfl (lv_at hl 0 rfl) ?_
  refine gF (v := .int (nI g.sz)) hx hb hown hE hK hP 0 rfl rfl layL 1 (by decide) w657 rfl d_L_add_9ae_17 ?_
  refine jkV (wr := []) (rnVy (As := [.ref v, .ref g.eA, .int (nI g.sz)]) (rest := []) hx hb hml hown hE hK hZ hT hM hS (hN _ _ hS) hP hD (v_Ladd3_gT l D dA H.size e0 mi ws la (LI.s_mc g (g.mc + 1)) v fs hel (show 0 < g.eN from by omega) (show g.eN ≤ 65536 from by omega) (show g.sz = g.eN from by omega) mo) (q0 := 0) rfl rfl w778 w777 w779 w780 w680 rfl rfl ⟨⟨by decide, by decide⟩, rfl⟩ ⟨(Nat.le_of_ble_eq_true rfl), (Nat.le_of_ble_eq_true rfl)⟩ rfl hl.1 rfl (Nat.le_of_ble_eq_true rfl) d_L_add_9ae_20 ⟨(show 0 + 1 ≤ 1 by omega), (show 0 + (g.eN + max 1 (g.eN / 2)) ≤ g.eN + max 1 (g.eN / 2) by omega)⟩) hP hD hS hA (fun u2 H locs hp9 hP hD hS => ?_)
  obtain ⟨b, h9u⟩ : ∃ z9, z9 = u2 := ⟨_, rfl⟩
  subst h9u
  have hP : va_P D vwCl (LiW dA la (LI.s_el (LI.s_eN (LI.s_eA (LI.s_mc (LI.s_sz g (g.sz + 1)) (g.mc + 1)) b) (g.eN + max 1 (g.eN / 2))) (va_up (cpF g.el g.eN) g.sz (some v))) ++ (ws)) H := hP
  have hD : va_D A (LiW dA la (LI.s_el (LI.s_eN (LI.s_eA (LI.s_mc (LI.s_sz g (g.sz + 1)) (g.mc + 1)) b) (g.eN + max 1 (g.eN / 2))) (va_up (cpF g.el g.eN) g.sz (some v))) ++ (ws)) := hD
  refine lv_iconst (v := 1) hx hb d_L_add_9ae_23 (by decide) ?_
  exact rfZ hx hb hr (bI_nar true) hlk hS b rfl hP hD (show 0 + 1 ≤ 1 by omega) (show 0 + (g.eN + max 1 (g.eN / 2)) ≤ g.eN + max 1 (g.eN / 2) by omega) d_L_add_9ae_24
end
section
/-! Steps. -/
def isKd (z : Int32) : Prop := z = 61 ∨ z = 260 ∨ z = 261 ∨ z = 262
def hoB (z : Int32) (L M : List Int32) : Bool := if z = 61 then sameW L M else if z = 260 then !sameW L M else if z = 261 then begW L M else !begW L M
def tkF (KD : Nat → Int32) (MN MT : Nat → List Int32) (S : List LB) (i : Nat) : Bool := hoB (KD i) (valS S (MN i)) (MT i)
def isLst (dA : Nat → ClassId) (ws : va_W) (a n : Nat) (WL : Nat → List Int32) : Prop := ∃ (eA : Nat) (mc : Int32), (a, .inr (6, [.ref eA, .int (nI n), .int mc])) ∈ ws ∧ n ≤ 65536 ∧ (0 < n → ∃ (cap : Nat) (el : Nat → Option Nat), (eA, .inl (dA 7, cap, .inr (.inr (.inr (.inr el))))) ∈ ws ∧ n ≤ cap ∧ cap ≤ 131072 ∧ ∀ i, i < n → ∃ p : Nat, el i = some p ∧ isWo dA ws p (WL i) ∧ (WL i).length ≤ 65536)
theorem isLst_m {dA : Nat → ClassId} {ws ws' : va_W} {a n : Nat} {WL : Nat → List Int32} (hs : ∀ c, c ∈ ws → c ∈ ws') (h : isLst dA ws a n WL) : isLst dA ws' a n WL := by
  obtain ⟨eA, mc, h1, h2, h3⟩ := h
  refine ⟨eA, mc, hs _ h1, h2, fun hn => ?_⟩
  obtain ⟨cap, el, g1, g2, g3, g4⟩ := h3 hn
  refine ⟨cap, el, hs _ g1, g2, g3, fun i hi => ?_⟩
  obtain ⟨p, e1, e2, e3⟩ := g4 i hi
  exact ⟨p, e1, isWo_m hs e2, e3⟩
/-- a step: kind, place, number, names, matches -/
def isStp (dA : Nat → ClassId) (ws : va_W) (a : Nat) (kd : Int32) (pc : Nat) (nu : Int64) (nn : Nat) (NL : Nat → List Int32) (n : Nat) (KD : Nat → Int32) (MN MT : Nat → List Int32) : Prop := ∃ (na ln lt mk cap kN : Nat) (fn : Nat → Option Nat) (fk : Nat → Int32), (a, .inr (13, [.int kd, .int (nI pc), .long nu, .ref na, .int (nI nn), .ref ln, .ref lt, .ref mk])) ∈ ws ∧ (na, .inl (dA 6, cap, .inr (.inr (.inr (.inr fn))))) ∈ ws ∧ nn ≤ cap ∧ cap ≤ 6 ∧ nmOk dA ws fn nn NL ∧ isLst dA ws ln n MN ∧ isLst dA ws lt n MT ∧ (mk, .inl (dA 1, kN, .inl fk)) ∈ ws ∧ n ≤ kN ∧ kN ≤ 262144 ∧ ∀ i, i < n → fk i = KD i ∧ isKd (KD i)
theorem isStp_m {dA : Nat → ClassId} {ws ws' : va_W} {a : Nat} {kd : Int32} {pc : Nat} {nu : Int64} {nn : Nat} {NL : Nat → List Int32} {n : Nat} {KD : Nat → Int32} {MN MT : Nat → List Int32} (hs : ∀ c, c ∈ ws → c ∈ ws') (h : isStp dA ws a kd pc nu nn NL n KD MN MT) : isStp dA ws' a kd pc nu nn NL n KD MN MT := by
  obtain ⟨na, ln, lt, mk, cap, kN, fn, fk, h1, h2, h3, h4, h5, h6, h7, h8, h9, h10, h11⟩ := h
  exact ⟨na, ln, lt, mk, cap, kN, fn, fk, hs _ h1, hs _ h2, h3, h4, nmOk_m hs h5, isLst_m hs h6, isLst_m hs h7, hs _ h8, h9, h10, h11⟩
/-- a new table -/
def adT4 (a b c d : Nat) : Nat → Nat
  | 0 => a
  | 1 => b
  | 2 => c
  | _ => d
def tb0 (q : Nat) : TB := (fun _ => none, 0, 0, 0, fun _ => none, fun _ => 0, q, 64, fun _ => 0)
set_option maxHeartbeats 4000000 in
set_option maxRecDepth 100000 in
theorem v_Tinit (l : Launch) (D : va_G) (dA : Nat → ClassId) (sz : Nat) (ws : va_W) (a : Nat) : Met l ⟨"SeriesVault$Table", "<init>", "()V"⟩ [Cond.code ⟨"SeriesVault$Table", "<init>", "()V"⟩ prog_11_method_1_code 1 none] { frames := 1, cells := 4, slots := 582, locals := 12 } (pC D dA [.ref a] ([(a, .inr (8, [.null, .int 0, .int 0, .int 0, .null, .null, .null]))] ++ (ws)) sz) (va_Qv (fun (u9 : (Nat → Nat) × TB) => u9.1 0 = a ∧ u9.2 = tb0 u9.2.cA) (fun (u9 : (Nat → Nat) × TB) t9 => bW D (va_A ([(a, .inr (8, [.null, .int 0, .int 0, .int 0, .null, .null, .null]))] ++ (ws)) sz) (TbW dA u9.1 u9.2 ++ (ws)) t9) (va_A ([(a, .inr (8, [.null, .int 0, .int 0, .int 0, .null, .null, .null]))] ++ (ws)) sz)) 4 582 (va_A ([(a, .inr (8, [.null, .int 0, .int 0, .int 0, .null, .null, .null]))] ++ (ws)) sz) := by
  refine mkC (y := ⟨"SeriesVault$Table", "<init>", "()V"⟩) (cc := prog_11_method_1_code) (maxL := 1) (av := [.ref a]) (ws := [(a, .inr (8, [.null, .int 0, .int 0, .int 0, .null, .null, .null]))] ++ (ws)) (sz := sz) (Qc := fun A => va_Qv (fun (u9 : (Nat → Nat) × TB) => u9.1 0 = a ∧ u9.2 = tb0 u9.2.cA) (fun (u9 : (Nat → Nat) × TB) t9 => bW D A (TbW dA u9.1 u9.2 ++ (ws)) t9) A) (by decide) (Nat.le_of_ble_eq_true rfl) ?_
  intro A p e s m below meth c ls hsz hB
  obtain ⟨hx, hb, hr, hml, hown, hin, hlk, hE, hK, hP, hD, hS, hA, hN, hl⟩ := hB
  have hown : s.vm.findClass "SeriesVault$Table" = some m.cls := hown
  have hl : lv_has ls 1 [(0, .ref a)] := hl
  obtain ⟨H, hH⟩ : ∃ z, z = s.heap := ⟨_, rfl⟩
  have hP : va_P D vwCl ([(a, .inr (8, [.null, .int 0, .int 0, .int 0, .null, .null, .null]))] ++ (ws)) H := by rw [hH]; exact hP
  have hS : va_S A s.heap H [] := by rw [hH]; exact hS
  rw [← hH]
  refine lv_aload_n hx hb d_T_init_0 rfl (lv_at hl 0 rfl) ?_
  refine oI hx hb hown hE w781 w182 w183 (hl.1.trans hml.symm) d_T_init_1 (Nat.le_of_ble_eq_true rfl) (Nat.le_of_ble_eq_true rfl) ?_
  refine lv_aload_n hx hb d_T_init_4 rfl (lv_at hl 0 rfl) ?_
  refine lv_bipush (v := 6) hx hb d_T_init_5 (by decide) ?_
  refine nnQ (N' := 6) hx hb hown hE w782 w783 hK hP hD hS hA 6 rfl (by omega) (show 6 * 4 ≤ 536870912 by omega) (show 0 + 1 ≤ 4 by omega) (show 0 + 6 ≤ 582 by omega) d_T_init_7 (fun q1 H hP hD hS => ?_)
  have hP : va_P D vwCl ([(q1, .inl (dA 6, 6, .inr (.inr (.inr (.inr (fun _ => none))))))] ++ ([(a, .inr (8, [.null, .int 0, .int 0, .int 0, .null, .null, .null]))] ++ (ws))) H := hP
  have hD : va_D A ([(q1, .inl (dA 6, 6, .inr (.inr (.inr (.inr (fun _ => none))))))] ++ ([(a, .inr (8, [.null, .int 0, .int 0, .int 0, .null, .null, .null]))] ++ (ws))) := hD
  refine pFF (v := .ref q1) hx hb hown hE hK hP hD hS 1 rfl rfl layT tyT tokT nmT 0 (by decide) w784 rfl hin rfl rfl rfl (Nat.le_of_ble_eq_true rfl) d_T_init_10 (fun H locs hP hD hS => ?_)
  have hP : va_P D vwCl ([(q1, .inl (dA 6, 6, .inr (.inr (.inr (.inr (fun _ => none))))))] ++ ([(a, .inr (8, [.ref q1, .int 0, .int 0, .int 0, .null, .null, .null]))] ++ (ws))) H := hP
  have hD : va_D A ([(q1, .inl (dA 6, 6, .inr (.inr (.inr (.inr (fun _ => none))))))] ++ ([(a, .inr (8, [.ref q1, .int 0, .int 0, .int 0, .null, .null, .null]))] ++ (ws))) := hD
  refine lv_aload_n hx hb d_T_init_13 rfl (lv_at hl 0 rfl) ?_
  refine lv_sipush (v := 256) hx hb d_T_init_14 (by decide) ?_
  refine nnQ (N' := 256) hx hb hown hE w785 w786 hK hP hD hS hA 5 rfl (by omega) (show 256 * 4 ≤ 536870912 by omega) (show (0 + 1) + 1 ≤ 4 by omega) (show (0 + 6) + 256 ≤ 582 by omega) d_T_init_17 (fun q2 H hP hD hS => ?_)
  have hP : va_P D vwCl ([(q2, .inl (dA 5, 256, .inr (.inr (.inr (.inr (fun _ => none))))))] ++ ([(q1, .inl (dA 6, 6, .inr (.inr (.inr (.inr (fun _ => none))))))] ++ ([(a, .inr (8, [.ref q1, .int 0, .int 0, .int 0, .null, .null, .null]))] ++ (ws)))) H := hP
  have hD : va_D A ([(q2, .inl (dA 5, 256, .inr (.inr (.inr (.inr (fun _ => none))))))] ++ ([(q1, .inl (dA 6, 6, .inr (.inr (.inr (.inr (fun _ => none))))))] ++ ([(a, .inr (8, [.ref q1, .int 0, .int 0, .int 0, .null, .null, .null]))] ++ (ws)))) := hD
  refine pFF (v := .ref q2) hx hb hown hE hK hP hD hS 2 rfl rfl layT tyT tokT nmT 4 (by decide) w787 rfl hin rfl rfl rfl (Nat.le_of_ble_eq_true rfl) d_T_init_20 (fun H locs hP hD hS => ?_)
  have hP : va_P D vwCl ([(q2, .inl (dA 5, 256, .inr (.inr (.inr (.inr (fun _ => none))))))] ++ ([(q1, .inl (dA 6, 6, .inr (.inr (.inr (.inr (fun _ => none))))))] ++ ([(a, .inr (8, [.ref q1, .int 0, .int 0, .int 0, .ref q2, .null, .null]))] ++ (ws)))) H := hP
  have hD : va_D A ([(q2, .inl (dA 5, 256, .inr (.inr (.inr (.inr (fun _ => none))))))] ++ ([(q1, .inl (dA 6, 6, .inr (.inr (.inr (.inr (fun _ => none))))))] ++ ([(a, .inr (8, [.ref q1, .int 0, .int 0, .int 0, .ref q2, .null, .null]))] ++ (ws)))) := hD
  refine lv_aload_n hx hb d_T_init_23 rfl (lv_at hl 0 rfl) ?_
  refine lv_sipush (v := 256) hx hb d_T_init_24 (by decide) ?_
  refine nnA (atype := .long) (ty := .long) (N' := 256) (a0 := (256, .inr (.inl (fun _ => 0)))) hx hb hE rfl w186 hK hP hD hS hA 2 rfl (fun _ => rfl) (by omega) (show 256 * 8 ≤ 536870912 by omega) (show (0 + 1 + 1) + 1 ≤ 4 by omega) (show (0 + 6 + 256) + 256 ≤ 582 by omega) d_T_init_27 (fun q3 H hP hD hS => ?_)
  have hP : va_P D vwCl ([(q3, .inl (dA 2, 256, .inr (.inl (fun _ => 0))))] ++ ([(q2, .inl (dA 5, 256, .inr (.inr (.inr (.inr (fun _ => none))))))] ++ ([(q1, .inl (dA 6, 6, .inr (.inr (.inr (.inr (fun _ => none))))))] ++ ([(a, .inr (8, [.ref q1, .int 0, .int 0, .int 0, .ref q2, .null, .null]))] ++ (ws))))) H := hP
  have hD : va_D A ([(q3, .inl (dA 2, 256, .inr (.inl (fun _ => 0))))] ++ ([(q2, .inl (dA 5, 256, .inr (.inr (.inr (.inr (fun _ => none))))))] ++ ([(q1, .inl (dA 6, 6, .inr (.inr (.inr (.inr (fun _ => none))))))] ++ ([(a, .inr (8, [.ref q1, .int 0, .int 0, .int 0, .ref q2, .null, .null]))] ++ (ws))))) := hD
  refine pFF (v := .ref q3) hx hb hown hE hK hP hD hS 3 rfl rfl layT tyT tokT nmT 5 (by decide) w788 rfl hin rfl rfl rfl (Nat.le_of_ble_eq_true rfl) d_T_init_29 (fun H locs hP hD hS => ?_)
  have hP : va_P D vwCl ([(q3, .inl (dA 2, 256, .inr (.inl (fun _ => 0))))] ++ ([(q2, .inl (dA 5, 256, .inr (.inr (.inr (.inr (fun _ => none))))))] ++ ([(q1, .inl (dA 6, 6, .inr (.inr (.inr (.inr (fun _ => none))))))] ++ ([(a, .inr (8, [.ref q1, .int 0, .int 0, .int 0, .ref q2, .ref q3, .null]))] ++ (ws))))) H := hP
  have hD : va_D A ([(q3, .inl (dA 2, 256, .inr (.inl (fun _ => 0))))] ++ ([(q2, .inl (dA 5, 256, .inr (.inr (.inr (.inr (fun _ => none))))))] ++ ([(q1, .inl (dA 6, 6, .inr (.inr (.inr (.inr (fun _ => none))))))] ++ ([(a, .inr (8, [.ref q1, .int 0, .int 0, .int 0, .ref q2, .ref q3, .null]))] ++ (ws))))) := hD
  refine lv_aload_n hx hb d_T_init_32 rfl (lv_at hl 0 rfl) ?_
  refine lv_bipush (v := 64) hx hb d_T_init_33 (by decide) ?_
  refine nnA (atype := .long) (ty := .long) (N' := 64) (a0 := (64, .inr (.inl (fun _ => 0)))) hx hb hE rfl w186 hK hP hD hS hA 2 rfl (fun _ => rfl) (by omega) (show 64 * 8 ≤ 536870912 by omega) (show (0 + 1 + 1 + 1) + 1 ≤ 4 by omega) (show (0 + 6 + 256 + 256) + 64 ≤ 582 by omega) d_T_init_35 (fun q4 H hP hD hS => ?_)
  have hP : va_P D vwCl ([(q4, .inl (dA 2, 64, .inr (.inl (fun _ => 0))))] ++ ([(q3, .inl (dA 2, 256, .inr (.inl (fun _ => 0))))] ++ ([(q2, .inl (dA 5, 256, .inr (.inr (.inr (.inr (fun _ => none))))))] ++ ([(q1, .inl (dA 6, 6, .inr (.inr (.inr (.inr (fun _ => none))))))] ++ ([(a, .inr (8, [.ref q1, .int 0, .int 0, .int 0, .ref q2, .ref q3, .null]))] ++ (ws)))))) H := hP
  have hD : va_D A ([(q4, .inl (dA 2, 64, .inr (.inl (fun _ => 0))))] ++ ([(q3, .inl (dA 2, 256, .inr (.inl (fun _ => 0))))] ++ ([(q2, .inl (dA 5, 256, .inr (.inr (.inr (.inr (fun _ => none))))))] ++ ([(q1, .inl (dA 6, 6, .inr (.inr (.inr (.inr (fun _ => none))))))] ++ ([(a, .inr (8, [.ref q1, .int 0, .int 0, .int 0, .ref q2, .ref q3, .null]))] ++ (ws)))))) := hD
  refine pF (v := .ref q4) hx hb hown hE hK hP hD hS 4 rfl rfl layT tyT tokT nmT 6 (by decide) w789 rfl rfl rfl (Nat.le_of_ble_eq_true rfl) d_T_init_37 (fun H locs hP hD hS => ?_)
  have hP : va_P D vwCl ([(q4, .inl (dA 2, 64, .inr (.inl (fun _ => 0))))] ++ ([(q3, .inl (dA 2, 256, .inr (.inl (fun _ => 0))))] ++ ([(q2, .inl (dA 5, 256, .inr (.inr (.inr (.inr (fun _ => none))))))] ++ ([(q1, .inl (dA 6, 6, .inr (.inr (.inr (.inr (fun _ => none))))))] ++ ([(a, .inr (8, [.ref q1, .int 0, .int 0, .int 0, .ref q2, .ref q3, .ref q4]))] ++ (ws)))))) H := hP
  have hD : va_D A ([(q4, .inl (dA 2, 64, .inr (.inl (fun _ => 0))))] ++ ([(q3, .inl (dA 2, 256, .inr (.inl (fun _ => 0))))] ++ ([(q2, .inl (dA 5, 256, .inr (.inr (.inr (.inr (fun _ => none))))))] ++ ([(q1, .inl (dA 6, 6, .inr (.inr (.inr (.inr (fun _ => none))))))] ++ ([(a, .inr (8, [.ref q1, .int 0, .int 0, .int 0, .ref q2, .ref q3, .ref q4]))] ++ (ws)))))) := hD
  have hP := pmP (show List.Perm (α := Nat × va_E) ([(q4, .inl (dA 2, 64, .inr (.inl (fun _ => 0))))] ++ ([(q3, .inl (dA 2, 256, .inr (.inl (fun _ => 0))))] ++ ([(q2, .inl (dA 5, 256, .inr (.inr (.inr (.inr (fun _ => none))))))] ++ ([(q1, .inl (dA 6, 6, .inr (.inr (.inr (.inr (fun _ => none))))))] ++ ([(a, .inr (8, [.ref q1, .int 0, .int 0, .int 0, .ref q2, .ref q3, .ref q4]))] ++ (ws)))))) ([(a, .inr (8, [.ref q1, .int 0, .int 0, .int 0, .ref q2, .ref q3, .ref q4]))] ++ ([(q4, .inl (dA 2, 64, .inr (.inl (fun _ => 0))))] ++ ([(q3, .inl (dA 2, 256, .inr (.inl (fun _ => 0))))] ++ ([(q2, .inl (dA 5, 256, .inr (.inr (.inr (.inr (fun _ => none))))))] ++ ([(q1, .inl (dA 6, 6, .inr (.inr (.inr (.inr (fun _ => none))))))] ++ (ws)))))) from (List.Perm.append_left ([(q4, .inl (dA 2, 64, .inr (.inl (fun _ => 0))))]) ((List.Perm.append_left ([(q3, .inl (dA 2, 256, .inr (.inl (fun _ => 0))))]) ((List.Perm.append_left ([(q2, .inl (dA 5, 256, .inr (.inr (.inr (.inr (fun _ => none))))))]) (List.perm_append_comm_assoc ([(q1, .inl (dA 6, 6, .inr (.inr (.inr (.inr (fun _ => none))))))]) ([(a, .inr (8, [.ref q1, .int 0, .int 0, .int 0, .ref q2, .ref q3, .ref q4]))]) (ws))).trans (List.perm_append_comm_assoc ([(q2, .inl (dA 5, 256, .inr (.inr (.inr (.inr (fun _ => none))))))]) ([(a, .inr (8, [.ref q1, .int 0, .int 0, .int 0, .ref q2, .ref q3, .ref q4]))]) ([(q1, .inl (dA 6, 6, .inr (.inr (.inr (.inr (fun _ => none))))))] ++ (ws))))).trans (List.perm_append_comm_assoc ([(q3, .inl (dA 2, 256, .inr (.inl (fun _ => 0))))]) ([(a, .inr (8, [.ref q1, .int 0, .int 0, .int 0, .ref q2, .ref q3, .ref q4]))]) ([(q2, .inl (dA 5, 256, .inr (.inr (.inr (.inr (fun _ => none))))))] ++ ([(q1, .inl (dA 6, 6, .inr (.inr (.inr (.inr (fun _ => none))))))] ++ (ws)))))).trans (List.perm_append_comm_assoc ([(q4, .inl (dA 2, 64, .inr (.inl (fun _ => 0))))]) ([(a, .inr (8, [.ref q1, .int 0, .int 0, .int 0, .ref q2, .ref q3, .ref q4]))]) ([(q3, .inl (dA 2, 256, .inr (.inl (fun _ => 0))))] ++ ([(q2, .inl (dA 5, 256, .inr (.inr (.inr (.inr (fun _ => none))))))] ++ ([(q1, .inl (dA 6, 6, .inr (.inr (.inr (.inr (fun _ => none))))))] ++ (ws)))))) hP
  have hD := pmD (show List.Perm (α := Nat × va_E) ([(q4, .inl (dA 2, 64, .inr (.inl (fun _ => 0))))] ++ ([(q3, .inl (dA 2, 256, .inr (.inl (fun _ => 0))))] ++ ([(q2, .inl (dA 5, 256, .inr (.inr (.inr (.inr (fun _ => none))))))] ++ ([(q1, .inl (dA 6, 6, .inr (.inr (.inr (.inr (fun _ => none))))))] ++ ([(a, .inr (8, [.ref q1, .int 0, .int 0, .int 0, .ref q2, .ref q3, .ref q4]))] ++ (ws)))))) ([(a, .inr (8, [.ref q1, .int 0, .int 0, .int 0, .ref q2, .ref q3, .ref q4]))] ++ ([(q4, .inl (dA 2, 64, .inr (.inl (fun _ => 0))))] ++ ([(q3, .inl (dA 2, 256, .inr (.inl (fun _ => 0))))] ++ ([(q2, .inl (dA 5, 256, .inr (.inr (.inr (.inr (fun _ => none))))))] ++ ([(q1, .inl (dA 6, 6, .inr (.inr (.inr (.inr (fun _ => none))))))] ++ (ws)))))) from (List.Perm.append_left ([(q4, .inl (dA 2, 64, .inr (.inl (fun _ => 0))))]) ((List.Perm.append_left ([(q3, .inl (dA 2, 256, .inr (.inl (fun _ => 0))))]) ((List.Perm.append_left ([(q2, .inl (dA 5, 256, .inr (.inr (.inr (.inr (fun _ => none))))))]) (List.perm_append_comm_assoc ([(q1, .inl (dA 6, 6, .inr (.inr (.inr (.inr (fun _ => none))))))]) ([(a, .inr (8, [.ref q1, .int 0, .int 0, .int 0, .ref q2, .ref q3, .ref q4]))]) (ws))).trans (List.perm_append_comm_assoc ([(q2, .inl (dA 5, 256, .inr (.inr (.inr (.inr (fun _ => none))))))]) ([(a, .inr (8, [.ref q1, .int 0, .int 0, .int 0, .ref q2, .ref q3, .ref q4]))]) ([(q1, .inl (dA 6, 6, .inr (.inr (.inr (.inr (fun _ => none))))))] ++ (ws))))).trans (List.perm_append_comm_assoc ([(q3, .inl (dA 2, 256, .inr (.inl (fun _ => 0))))]) ([(a, .inr (8, [.ref q1, .int 0, .int 0, .int 0, .ref q2, .ref q3, .ref q4]))]) ([(q2, .inl (dA 5, 256, .inr (.inr (.inr (.inr (fun _ => none))))))] ++ ([(q1, .inl (dA 6, 6, .inr (.inr (.inr (.inr (fun _ => none))))))] ++ (ws)))))).trans (List.perm_append_comm_assoc ([(q4, .inl (dA 2, 64, .inr (.inl (fun _ => 0))))]) ([(a, .inr (8, [.ref q1, .int 0, .int 0, .int 0, .ref q2, .ref q3, .ref q4]))]) ([(q3, .inl (dA 2, 256, .inr (.inl (fun _ => 0))))] ++ ([(q2, .inl (dA 5, 256, .inr (.inr (.inr (.inr (fun _ => none))))))] ++ ([(q1, .inl (dA 6, 6, .inr (.inr (.inr (.inr (fun _ => none))))))] ++ (ws)))))) hD
  have hP := pmP (show List.Perm (α := Nat × va_E) ([(a, .inr (8, [.ref q1, .int 0, .int 0, .int 0, .ref q2, .ref q3, .ref q4]))] ++ ([(q4, .inl (dA 2, 64, .inr (.inl (fun _ => 0))))] ++ ([(q3, .inl (dA 2, 256, .inr (.inl (fun _ => 0))))] ++ ([(q2, .inl (dA 5, 256, .inr (.inr (.inr (.inr (fun _ => none))))))] ++ ([(q1, .inl (dA 6, 6, .inr (.inr (.inr (.inr (fun _ => none))))))] ++ (ws)))))) ([(a, .inr (8, [.ref q1, .int 0, .int 0, .int 0, .ref q2, .ref q3, .ref q4]))] ++ ([(q1, .inl (dA 6, 6, .inr (.inr (.inr (.inr (fun _ => none))))))] ++ ([(q4, .inl (dA 2, 64, .inr (.inl (fun _ => 0))))] ++ ([(q3, .inl (dA 2, 256, .inr (.inl (fun _ => 0))))] ++ ([(q2, .inl (dA 5, 256, .inr (.inr (.inr (.inr (fun _ => none))))))] ++ (ws)))))) from List.Perm.append_left ([(a, .inr (8, [.ref q1, .int 0, .int 0, .int 0, .ref q2, .ref q3, .ref q4]))]) ((List.Perm.append_left ([(q4, .inl (dA 2, 64, .inr (.inl (fun _ => 0))))]) ((List.Perm.append_left ([(q3, .inl (dA 2, 256, .inr (.inl (fun _ => 0))))]) (List.perm_append_comm_assoc ([(q2, .inl (dA 5, 256, .inr (.inr (.inr (.inr (fun _ => none))))))]) ([(q1, .inl (dA 6, 6, .inr (.inr (.inr (.inr (fun _ => none))))))]) (ws))).trans (List.perm_append_comm_assoc ([(q3, .inl (dA 2, 256, .inr (.inl (fun _ => 0))))]) ([(q1, .inl (dA 6, 6, .inr (.inr (.inr (.inr (fun _ => none))))))]) ([(q2, .inl (dA 5, 256, .inr (.inr (.inr (.inr (fun _ => none))))))] ++ (ws))))).trans (List.perm_append_comm_assoc ([(q4, .inl (dA 2, 64, .inr (.inl (fun _ => 0))))]) ([(q1, .inl (dA 6, 6, .inr (.inr (.inr (.inr (fun _ => none))))))]) ([(q3, .inl (dA 2, 256, .inr (.inl (fun _ => 0))))] ++ ([(q2, .inl (dA 5, 256, .inr (.inr (.inr (.inr (fun _ => none))))))] ++ (ws)))))) hP
  have hD := pmD (show List.Perm (α := Nat × va_E) ([(a, .inr (8, [.ref q1, .int 0, .int 0, .int 0, .ref q2, .ref q3, .ref q4]))] ++ ([(q4, .inl (dA 2, 64, .inr (.inl (fun _ => 0))))] ++ ([(q3, .inl (dA 2, 256, .inr (.inl (fun _ => 0))))] ++ ([(q2, .inl (dA 5, 256, .inr (.inr (.inr (.inr (fun _ => none))))))] ++ ([(q1, .inl (dA 6, 6, .inr (.inr (.inr (.inr (fun _ => none))))))] ++ (ws)))))) ([(a, .inr (8, [.ref q1, .int 0, .int 0, .int 0, .ref q2, .ref q3, .ref q4]))] ++ ([(q1, .inl (dA 6, 6, .inr (.inr (.inr (.inr (fun _ => none))))))] ++ ([(q4, .inl (dA 2, 64, .inr (.inl (fun _ => 0))))] ++ ([(q3, .inl (dA 2, 256, .inr (.inl (fun _ => 0))))] ++ ([(q2, .inl (dA 5, 256, .inr (.inr (.inr (.inr (fun _ => none))))))] ++ (ws)))))) from List.Perm.append_left ([(a, .inr (8, [.ref q1, .int 0, .int 0, .int 0, .ref q2, .ref q3, .ref q4]))]) ((List.Perm.append_left ([(q4, .inl (dA 2, 64, .inr (.inl (fun _ => 0))))]) ((List.Perm.append_left ([(q3, .inl (dA 2, 256, .inr (.inl (fun _ => 0))))]) (List.perm_append_comm_assoc ([(q2, .inl (dA 5, 256, .inr (.inr (.inr (.inr (fun _ => none))))))]) ([(q1, .inl (dA 6, 6, .inr (.inr (.inr (.inr (fun _ => none))))))]) (ws))).trans (List.perm_append_comm_assoc ([(q3, .inl (dA 2, 256, .inr (.inl (fun _ => 0))))]) ([(q1, .inl (dA 6, 6, .inr (.inr (.inr (.inr (fun _ => none))))))]) ([(q2, .inl (dA 5, 256, .inr (.inr (.inr (.inr (fun _ => none))))))] ++ (ws))))).trans (List.perm_append_comm_assoc ([(q4, .inl (dA 2, 64, .inr (.inl (fun _ => 0))))]) ([(q1, .inl (dA 6, 6, .inr (.inr (.inr (.inr (fun _ => none))))))]) ([(q3, .inl (dA 2, 256, .inr (.inl (fun _ => 0))))] ++ ([(q2, .inl (dA 5, 256, .inr (.inr (.inr (.inr (fun _ => none))))))] ++ (ws)))))) hD
  have hP := pmP (show List.Perm (α := Nat × va_E) ([(a, .inr (8, [.ref q1, .int 0, .int 0, .int 0, .ref q2, .ref q3, .ref q4]))] ++ ([(q1, .inl (dA 6, 6, .inr (.inr (.inr (.inr (fun _ => none))))))] ++ ([(q4, .inl (dA 2, 64, .inr (.inl (fun _ => 0))))] ++ ([(q3, .inl (dA 2, 256, .inr (.inl (fun _ => 0))))] ++ ([(q2, .inl (dA 5, 256, .inr (.inr (.inr (.inr (fun _ => none))))))] ++ (ws)))))) ([(a, .inr (8, [.ref q1, .int 0, .int 0, .int 0, .ref q2, .ref q3, .ref q4]))] ++ ([(q1, .inl (dA 6, 6, .inr (.inr (.inr (.inr (fun _ => none))))))] ++ ([(q2, .inl (dA 5, 256, .inr (.inr (.inr (.inr (fun _ => none))))))] ++ ([(q4, .inl (dA 2, 64, .inr (.inl (fun _ => 0))))] ++ ([(q3, .inl (dA 2, 256, .inr (.inl (fun _ => 0))))] ++ (ws)))))) from List.Perm.append_left ([(a, .inr (8, [.ref q1, .int 0, .int 0, .int 0, .ref q2, .ref q3, .ref q4]))]) (List.Perm.append_left ([(q1, .inl (dA 6, 6, .inr (.inr (.inr (.inr (fun _ => none))))))]) ((List.Perm.append_left ([(q4, .inl (dA 2, 64, .inr (.inl (fun _ => 0))))]) (List.perm_append_comm_assoc ([(q3, .inl (dA 2, 256, .inr (.inl (fun _ => 0))))]) ([(q2, .inl (dA 5, 256, .inr (.inr (.inr (.inr (fun _ => none))))))]) (ws))).trans (List.perm_append_comm_assoc ([(q4, .inl (dA 2, 64, .inr (.inl (fun _ => 0))))]) ([(q2, .inl (dA 5, 256, .inr (.inr (.inr (.inr (fun _ => none))))))]) ([(q3, .inl (dA 2, 256, .inr (.inl (fun _ => 0))))] ++ (ws)))))) hP
  have hD := pmD (show List.Perm (α := Nat × va_E) ([(a, .inr (8, [.ref q1, .int 0, .int 0, .int 0, .ref q2, .ref q3, .ref q4]))] ++ ([(q1, .inl (dA 6, 6, .inr (.inr (.inr (.inr (fun _ => none))))))] ++ ([(q4, .inl (dA 2, 64, .inr (.inl (fun _ => 0))))] ++ ([(q3, .inl (dA 2, 256, .inr (.inl (fun _ => 0))))] ++ ([(q2, .inl (dA 5, 256, .inr (.inr (.inr (.inr (fun _ => none))))))] ++ (ws)))))) ([(a, .inr (8, [.ref q1, .int 0, .int 0, .int 0, .ref q2, .ref q3, .ref q4]))] ++ ([(q1, .inl (dA 6, 6, .inr (.inr (.inr (.inr (fun _ => none))))))] ++ ([(q2, .inl (dA 5, 256, .inr (.inr (.inr (.inr (fun _ => none))))))] ++ ([(q4, .inl (dA 2, 64, .inr (.inl (fun _ => 0))))] ++ ([(q3, .inl (dA 2, 256, .inr (.inl (fun _ => 0))))] ++ (ws)))))) from List.Perm.append_left ([(a, .inr (8, [.ref q1, .int 0, .int 0, .int 0, .ref q2, .ref q3, .ref q4]))]) (List.Perm.append_left ([(q1, .inl (dA 6, 6, .inr (.inr (.inr (.inr (fun _ => none))))))]) ((List.Perm.append_left ([(q4, .inl (dA 2, 64, .inr (.inl (fun _ => 0))))]) (List.perm_append_comm_assoc ([(q3, .inl (dA 2, 256, .inr (.inl (fun _ => 0))))]) ([(q2, .inl (dA 5, 256, .inr (.inr (.inr (.inr (fun _ => none))))))]) (ws))).trans (List.perm_append_comm_assoc ([(q4, .inl (dA 2, 64, .inr (.inl (fun _ => 0))))]) ([(q2, .inl (dA 5, 256, .inr (.inr (.inr (.inr (fun _ => none))))))]) ([(q3, .inl (dA 2, 256, .inr (.inl (fun _ => 0))))] ++ (ws)))))) hD
  have hP := pmP (show List.Perm (α := Nat × va_E) ([(a, .inr (8, [.ref q1, .int 0, .int 0, .int 0, .ref q2, .ref q3, .ref q4]))] ++ ([(q1, .inl (dA 6, 6, .inr (.inr (.inr (.inr (fun _ => none))))))] ++ ([(q2, .inl (dA 5, 256, .inr (.inr (.inr (.inr (fun _ => none))))))] ++ ([(q4, .inl (dA 2, 64, .inr (.inl (fun _ => 0))))] ++ ([(q3, .inl (dA 2, 256, .inr (.inl (fun _ => 0))))] ++ (ws)))))) ([(a, .inr (8, [.ref q1, .int 0, .int 0, .int 0, .ref q2, .ref q3, .ref q4]))] ++ ([(q1, .inl (dA 6, 6, .inr (.inr (.inr (.inr (fun _ => none))))))] ++ ([(q2, .inl (dA 5, 256, .inr (.inr (.inr (.inr (fun _ => none))))))] ++ ([(q3, .inl (dA 2, 256, .inr (.inl (fun _ => 0))))] ++ ([(q4, .inl (dA 2, 64, .inr (.inl (fun _ => 0))))] ++ (ws)))))) from List.Perm.append_left ([(a, .inr (8, [.ref q1, .int 0, .int 0, .int 0, .ref q2, .ref q3, .ref q4]))]) (List.Perm.append_left ([(q1, .inl (dA 6, 6, .inr (.inr (.inr (.inr (fun _ => none))))))]) (List.Perm.append_left ([(q2, .inl (dA 5, 256, .inr (.inr (.inr (.inr (fun _ => none))))))]) (List.perm_append_comm_assoc ([(q4, .inl (dA 2, 64, .inr (.inl (fun _ => 0))))]) ([(q3, .inl (dA 2, 256, .inr (.inl (fun _ => 0))))]) (ws))))) hP
  have hD := pmD (show List.Perm (α := Nat × va_E) ([(a, .inr (8, [.ref q1, .int 0, .int 0, .int 0, .ref q2, .ref q3, .ref q4]))] ++ ([(q1, .inl (dA 6, 6, .inr (.inr (.inr (.inr (fun _ => none))))))] ++ ([(q2, .inl (dA 5, 256, .inr (.inr (.inr (.inr (fun _ => none))))))] ++ ([(q4, .inl (dA 2, 64, .inr (.inl (fun _ => 0))))] ++ ([(q3, .inl (dA 2, 256, .inr (.inl (fun _ => 0))))] ++ (ws)))))) ([(a, .inr (8, [.ref q1, .int 0, .int 0, .int 0, .ref q2, .ref q3, .ref q4]))] ++ ([(q1, .inl (dA 6, 6, .inr (.inr (.inr (.inr (fun _ => none))))))] ++ ([(q2, .inl (dA 5, 256, .inr (.inr (.inr (.inr (fun _ => none))))))] ++ ([(q3, .inl (dA 2, 256, .inr (.inl (fun _ => 0))))] ++ ([(q4, .inl (dA 2, 64, .inr (.inl (fun _ => 0))))] ++ (ws)))))) from List.Perm.append_left ([(a, .inr (8, [.ref q1, .int 0, .int 0, .int 0, .ref q2, .ref q3, .ref q4]))]) (List.Perm.append_left ([(q1, .inl (dA 6, 6, .inr (.inr (.inr (.inr (fun _ => none))))))]) (List.Perm.append_left ([(q2, .inl (dA 5, 256, .inr (.inr (.inr (.inr (fun _ => none))))))]) (List.perm_append_comm_assoc ([(q4, .inl (dA 2, 64, .inr (.inl (fun _ => 0))))]) ([(q3, .inl (dA 2, 256, .inr (.inl (fun _ => 0))))]) (ws))))) hD
  obtain ⟨tq, htq⟩ : ∃ z, z = adT4 a q1 q2 q3 := ⟨_, rfl⟩
  have hP : va_P D vwCl (TbW dA tq (tb0 q4) ++ (ws)) H := by rw [htq]; exact hP
  have hD : va_D A (TbW dA tq (tb0 q4) ++ (ws)) := by rw [htq]; exact hD
  exact rfV hx hb hr hlk hS (⟨tq, tb0 q4⟩) ⟨by rw [htq]; rfl, rfl⟩ hP hD (show 0 + 1 + 1 + 1 + 1 ≤ 4 by omega) (show 0 + 6 + 256 + 256 + 64 ≤ 582 by omega) d_T_init_40
set_option maxHeartbeats 4000000 in
set_option maxRecDepth 100000 in
theorem v_LsizeM (l : Launch) (D : va_G) (dA : Nat → ClassId) (sz : Nat) (ws : va_W) (a : Nat) (n : Nat) (WL : Nat → List Int32) (hls : isLst dA ws a n WL) : Met l ⟨"java/util/ArrayList", "size", "()I"⟩ [Cond.code ⟨"java/util/ArrayList", "size", "()I"⟩ prog_37_method_8_code 1 (some FieldType.int)] { frames := 1, cells := 0, slots := 0, locals := 0 } (pC D dA [.ref a] (ws) sz) (va_Qi (fun (r9 : Int32) (u9 : Unit) => r9 = nI n) (fun (u9 : Unit) t9 => bW D (va_A (ws) sz) (ws) t9) (va_A (ws) sz)) 0 0 (va_A (ws) sz) := by
  refine mkC (y := ⟨"java/util/ArrayList", "size", "()I"⟩) (cc := prog_37_method_8_code) (maxL := 1) (av := [.ref a]) (ws := ws) (sz := sz) (Qc := fun A => va_Qi (fun (r9 : Int32) (u9 : Unit) => r9 = nI n) (fun (u9 : Unit) t9 => bW D A (ws) t9) A) (by decide) (Nat.le_of_ble_eq_true rfl) ?_
  intro A p e s m below meth c ls hsz hB
  obtain ⟨hx, hb, hr, hml, hown, hin, hlk, hE, hK, hP, hD, hS, hA, hN, hl⟩ := hB
  have hown : s.vm.findClass "java/util/ArrayList" = some m.cls := hown
  have hl : lv_has ls 1 [(0, .ref a)] := hl
  obtain ⟨H, hH⟩ : ∃ z, z = s.heap := ⟨_, rfl⟩
  have hP : va_P D vwCl (ws) H := by rw [hH]; exact hP
  have hS : va_S A s.heap H [] := by rw [hH]; exact hS
  rw [← hH]
  have hlc := hls
  obtain ⟨eA, mc, m1, hn1, hlr⟩ := hlc
  refine lv_aload_n hx hb d_L_size_0 rfl (lv_at hl 0 rfl) ?_
  obtain ⟨qp1, ep2⟩ := List.getElem?_of_mem (show ((a, .inr (6, [.ref eA, .int (nI n), .int mc])) : Nat × va_E) ∈ ws from m1)
  refine gF (v := .int (nI n)) hx hb hown hE hK hP qp1 ep2 rfl layL 1 (by decide) w657 rfl d_L_size_1 ?_
  exact rfI hx hb hr hlk hS () rfl hP hD (Nat.le_of_ble_eq_true rfl) (Nat.le_of_ble_eq_true rfl) d_L_size_4
set_option maxHeartbeats 4000000 in
set_option maxRecDepth 100000 in
theorem v_LelementM (l : Launch) (D : va_G) (dA : Nat → ClassId) (sz : Nat) (ws : va_W) (a : Nat) (n : Nat) (WL : Nat → List Int32) (i : Nat) (hls : isLst dA ws a n WL) (h1 : i < n) : Met l ⟨"java/util/ArrayList", "elementData", "(I)Ljava/lang/Object;"⟩ [Cond.code ⟨"java/util/ArrayList", "elementData", "(I)Ljava/lang/Object;"⟩ prog_37_method_18_code 2 (some (FieldType.object "java/lang/Object"))] { frames := 1, cells := 0, slots := 0, locals := 0 } (pC D dA [.ref a, .int (nI i)] (ws) sz) (va_Qr (fun (_ : Unit) => True) (fun (u9 : Unit) (r9 : Nat) t9 => (isWo dA ws r9 (WL i) ∧ (WL i).length ≤ 65536) ∧ bW D (va_A (ws) sz) (ws) t9) (va_A (ws) sz)) 0 0 (va_A (ws) sz) := by
  refine mkC (y := ⟨"java/util/ArrayList", "elementData", "(I)Ljava/lang/Object;"⟩) (cc := prog_37_method_18_code) (maxL := 2) (av := [.ref a, .int (nI i)]) (ws := ws) (sz := sz) (Qc := fun A => va_Qr (fun (_ : Unit) => True) (fun (u9 : Unit) (r9 : Nat) t9 => (isWo dA ws r9 (WL i) ∧ (WL i).length ≤ 65536) ∧ bW D A (ws) t9) A) (by decide) (Nat.le_of_ble_eq_true rfl) ?_
  intro A p e s m below meth c ls hsz hB
  obtain ⟨hx, hb, hr, hml, hown, hin, hlk, hE, hK, hP, hD, hS, hA, hN, hl⟩ := hB
  have hown : s.vm.findClass "java/util/ArrayList" = some m.cls := hown
  have hl : lv_has ls 2 [(0, .ref a), (1, .int (nI i))] := hl
  obtain ⟨H, hH⟩ : ∃ z, z = s.heap := ⟨_, rfl⟩
  have hP : va_P D vwCl (ws) H := by rw [hH]; exact hP
  have hS : va_S A s.heap H [] := by rw [hH]; exact hS
  rw [← hH]
  have hlc := hls
  obtain ⟨eA, mc, m1, hn1, hlr⟩ := hlc
  obtain ⟨cap, el, m2, hc1, hc2, hle⟩ := hlr (by omega)
  obtain ⟨v1, ev1, wv1, lv1⟩ := hle i h1
  refine lv_aload_n hx hb d_L_elementData_0 rfl (lv_at hl 0 rfl) ?_
  obtain ⟨qp1, ep2⟩ := List.getElem?_of_mem (show ((a, .inr (6, [.ref eA, .int (nI n), .int mc])) : Nat × va_E) ∈ ws from m1)
  refine gF (v := .ref eA) hx hb hown hE hK hP qp1 ep2 rfl layL 0 (by decide) w656 rfl d_L_elementData_1 ?_
  refine lv_iload_n hx hb d_L_elementData_4 rfl (lv_at hl 1 rfl) ?_
  obtain ⟨qp3, ep4⟩ := List.getElem?_of_mem (show ((eA, .inl (dA 7, cap, .inr (.inr (.inr (.inr el))))) : Nat × va_E) ∈ ws from m2)
  refine nqld (f := el) (n := cap) hx hb hK hP (qp3) 7 ep4 rfl (i) (by omega) (by omega) ev1 d_L_elementData_5 ?_
  exact rkR hx hb hr (Or.inl ⟨_, rfl⟩) hlk hS () ⟨wv1, lv1⟩ hP hD (Nat.le_of_ble_eq_true rfl) (Nat.le_of_ble_eq_true rfl) d_L_elementData_6
set_option maxHeartbeats 4000000 in
set_option maxRecDepth 100000 in
theorem v_LgetM (l : Launch) (D : va_G) (dA : Nat → ClassId) (sz : Nat) (ws : va_W) (a : Nat) (n : Nat) (WL : Nat → List Int32) (i : Nat) (hls : isLst dA ws a n WL) (h1 : i < n) : Met l ⟨"java/util/ArrayList", "get", "(I)Ljava/lang/Object;"⟩ [Cond.code ⟨"java/util/ArrayList", "get", "(I)Ljava/lang/Object;"⟩ prog_37_method_20_code 2 (some (FieldType.object "java/lang/Object"))] { frames := 3, cells := 0, slots := 0, locals := 43 } (pC D dA [.ref a, .int (nI i)] (ws) sz) (va_Qr (fun (_ : Unit) => True) (fun (u9 : Unit) (r9 : Nat) t9 => (isWo dA ws r9 (WL i) ∧ (WL i).length ≤ 65536) ∧ bW D (va_A (ws) sz) (ws) t9) (va_A (ws) sz)) 0 0 (va_A (ws) sz) := by
  refine mkC (y := ⟨"java/util/ArrayList", "get", "(I)Ljava/lang/Object;"⟩) (cc := prog_37_method_20_code) (maxL := 2) (av := [.ref a, .int (nI i)]) (ws := ws) (sz := sz) (Qc := fun A => va_Qr (fun (_ : Unit) => True) (fun (u9 : Unit) (r9 : Nat) t9 => (isWo dA ws r9 (WL i) ∧ (WL i).length ≤ 65536) ∧ bW D A (ws) t9) A) (by decide) (Nat.le_of_ble_eq_true rfl) ?_
  intro A p e s m below meth c ls hsz hB
  obtain ⟨hx, hb, hr, hml, hown, hin, hlk, hE, hK, hP, hD, hS, hA, hN, hl⟩ := hB
  have hown : s.vm.findClass "java/util/ArrayList" = some m.cls := hown
  have hl : lv_has ls 2 [(0, .ref a), (1, .int (nI i))] := hl
  obtain ⟨H, hH⟩ : ∃ z, z = s.heap := ⟨_, rfl⟩
  have hP : va_P D vwCl (ws) H := by rw [hH]; exact hP
  have hS : va_S A s.heap H [] := by rw [hH]; exact hS
  rw [← hH]
  have hlc := hls
  obtain ⟨eA, mc, m1, hn1, hlr⟩ := hlc
  refine lv_iload_n hx hb d_L_get_0 rfl (lv_at hl 1 rfl) ?_
  refine lv_aload_n hx hb d_L_get_1 rfl (lv_at hl 0 rfl) ?_
  obtain ⟨qp1, ep2⟩ := List.getElem?_of_mem (show ((a, .inr (6, [.ref eA, .int (nI n), .int mc])) : Nat × va_E) ∈ ws from m1)
  refine gF (v := .int (nI n)) hx hb hown hE hK hP qp1 ep2 rfl layL 1 (by decide) w657 rfl d_L_get_2 ?_
  have hPc := hP.sub (ws' := []) [] rfl
  have hDc := hD.sub (ws' := []) [] (by decide) rfl
  refine jpI (rnS (As := [.int (nI i), .int (nI n)]) (rest := []) hx hb hml hown hE hK (hN _ _ hS) hPc hDc (v_objIndex l D dA H.size i n (show i < n from by omega) (show n ≤ 65536 from by omega)) w1450 w1448 w1451 w1449 rfl rfl ⟨⟨by decide, by decide⟩, rfl⟩ ⟨(Nat.le_of_ble_eq_true rfl), (Nat.le_of_ble_eq_true rfl)⟩ rfl hl.1 rfl (Nat.le_of_ble_eq_true rfl) d_L_get_5 ⟨(Nat.le_of_ble_eq_true rfl), (Nat.le_of_ble_eq_true rfl)⟩) hP hD hS hA (fun r3 u9 H locs hp9 hP hD hS => ?_)
  have hP : va_P D vwCl (ws) H := hP
  have hD : va_D A (ws) := hD
  replace hp9 : nI i = r3 := Eq.symm hp9
  subst hp9
  refine lv_pop hx hb d_L_get_8 rfl ?_
  refine lv_aload_n hx hb d_L_get_9 rfl (lv_at hl 0 rfl) ?_
  refine lv_iload_n hx hb d_L_get_10 rfl (lv_at hl 1 rfl) ?_
  obtain ⟨qp5, ep6⟩ := List.getElem?_of_mem (show ((a, .inr (6, [.ref eA, .int (nI n), .int mc])) : Nat × va_E) ∈ ws from m1)
  refine jkR (wr := []) (rnV (As := [.int (nI i)]) (rest := []) hx hb hml hown hE hK (hN _ _ hS) hP hD (v_LelementM l D dA H.size ws a n WL i hls (show i < n from by omega)) (q0 := qp5) ep6 rfl w1453 w1452 w1454 w1455 w680 rfl rfl ⟨⟨by decide, by decide⟩, rfl⟩ ⟨(Nat.le_of_ble_eq_true rfl), (Nat.le_of_ble_eq_true rfl)⟩ rfl hl.1 rfl (Nat.le_of_ble_eq_true rfl) d_L_get_11 ⟨(Nat.le_of_ble_eq_true rfl), (Nat.le_of_ble_eq_true rfl)⟩) hP hD hS hA (fun u8 r7 H locs hp9 hP hD hS => ?_)
  have hP : va_P D vwCl (ws) H := hP
  have hD : va_D A (ws) := hD
  obtain ⟨f_w_9, f_lw_10⟩ := hp9
  exact rkR hx hb hr (Or.inl ⟨_, rfl⟩) hlk hS () ⟨f_w_9, f_lw_10⟩ hP hD (Nat.le_of_ble_eq_true rfl) (Nat.le_of_ble_eq_true rfl) d_L_get_14
theorem d_E_holds_0 : decode prog_10_method_6_code 0 = .ok (.iload_n 0, 1) := by decide +kernel
theorem d_E_holds_1 : decode prog_10_method_6_code 1 = .ok (.lookupswitch 61 #[(61, 35), (260, 41), (261, 55)], 35) := by decide +kernel
theorem d_E_holds_36 : decode prog_10_method_6_code 36 = .ok (.aload_n 1, 1) := by decide +kernel
theorem d_E_holds_37 : decode prog_10_method_6_code 37 = .ok (.aload_n 2, 1) := by decide +kernel
theorem d_E_holds_38 : decode prog_10_method_6_code 38 = .ok (.invokevirtual 47, 3) := by decide +kernel
theorem d_E_holds_41 : decode prog_10_method_6_code 41 = .ok (.ireturn, 1) := by decide +kernel
theorem w1477 : Cond.methodLink "SeriesVault$Step" 47 ⟨"SeriesVault$Word", "same", "(LSeriesVault$Word;)Z"⟩ ∈ aW := aw_of (tb_7 (List.mem_of_getElem? (i := 101) rfl)) rfl
set_option maxHeartbeats 4000000 in
set_option maxRecDepth 100000 in
theorem v_Eholds_61 (l : Launch) (D : va_G) (dA : Nat → ClassId) (sz : Nat) (ws : va_W) (wa : Nat) (wb : Nat) (L : List Int32) (M : List Int32) (hwwa : isWo dA ws wa L) (hlwa : L.length ≤ 65536) (hwwb : isWo dA ws wb M) (hlwb : M.length ≤ 65536) : Met l ⟨"SeriesVault$Step", "holds", "(ILSeriesVault$Word;LSeriesVault$Word;)Z"⟩ [Cond.code ⟨"SeriesVault$Step", "holds", "(ILSeriesVault$Word;LSeriesVault$Word;)Z"⟩ prog_10_method_6_code 3 (some FieldType.boolean)] { frames := 2, cells := 0, slots := 0, locals := 22 } (pC D dA [.int 61, .ref wa, .ref wb] (ws) sz) (va_Qi (fun (r9 : Int32) (u9 : Unit) => r9 = bI (hoB 61 L M)) (fun (u9 : Unit) t9 => bW D (va_A (ws) sz) (ws) t9) (va_A (ws) sz)) 0 0 (va_A (ws) sz) := by
  refine mkC (y := ⟨"SeriesVault$Step", "holds", "(ILSeriesVault$Word;LSeriesVault$Word;)Z"⟩) (cc := prog_10_method_6_code) (maxL := 3) (av := [.int 61, .ref wa, .ref wb]) (ws := ws) (sz := sz) (Qc := fun A => va_Qi (fun (r9 : Int32) (u9 : Unit) => r9 = bI (hoB 61 L M)) (fun (u9 : Unit) t9 => bW D A (ws) t9) A) (by decide) (Nat.le_of_ble_eq_true rfl) ?_
  intro A p e s m below meth c ls hsz hB
  obtain ⟨hx, hb, hr, hml, hown, hin, hlk, hE, hK, hP, hD, hS, hA, hN, hl⟩ := hB
  have hown : s.vm.findClass "SeriesVault$Step" = some m.cls := hown
  have hl : lv_has ls 3 [(0, .int 61), (1, .ref wa), (2, .ref wb)] := hl
  obtain ⟨H, hH⟩ : ∃ z, z = s.heap := ⟨_, rfl⟩
  have hP : va_P D vwCl (ws) H := by rw [hH]; exact hP
  have hS : va_S A s.heap H [] := by rw [hH]; exact hS
  rw [← hH]
  have hca := hwwa
  have hcb := hwwb
  obtain ⟨b_wa, f_wa, m1wa, m2wa, -⟩ := hca
  obtain ⟨b_wb, f_wb, m1wb, m2wb, -⟩ := hcb
  refine lv_iload_n hx hb d_E_holds_0 rfl (lv_at hl 0 rfl) ?_
  refine lv_lookup (x := 61) (off := 35) (tgt := 36) hx hb d_E_holds_1 (by decide) (by decide) rfl ?_
  refine lv_aload_n hx hb d_E_holds_36 rfl (lv_at hl 1 rfl) ?_
  refine lv_aload_n hx hb d_E_holds_37 rfl (lv_at hl 2 rfl) ?_
  obtain ⟨qp1, ep2⟩ := List.getElem?_of_mem (show ((wa, .inr (10, [.ref b_wa])) : Nat × va_E) ∈ ws from m1wa)
  refine jkI (wr := []) (rnV (As := [.ref wb]) (rest := []) hx hb hml hown hE hK (hN _ _ hS) hP hD (v_Wsame l D dA H.size ws wa L wb M hwwa hlwa hwwb hlwb) (q0 := qp1) ep2 rfl w1282 w1477 w1283 w1284 w1281 rfl rfl ⟨⟨by decide, by decide⟩, rfl⟩ ⟨(Nat.le_of_ble_eq_true rfl), (Nat.le_of_ble_eq_true rfl)⟩ rfl hl.1 rfl (Nat.le_of_ble_eq_true rfl) d_E_holds_38 ⟨(Nat.le_of_ble_eq_true rfl), (Nat.le_of_ble_eq_true rfl)⟩) hP hD hS hA (fun r3 u4 H locs hp9 hP hD hS => ?_)
  have hP : va_P D vwCl (ws) H := hP
  have hD : va_D A (ws) := hD
  replace hp9 : bI (sameW L M) = r3 := Eq.symm hp9
  subst hp9
  exact rfZ hx hb hr (bI_nar (sameW L M)) hlk hS () rfl hP hD (Nat.le_of_ble_eq_true rfl) (Nat.le_of_ble_eq_true rfl) d_E_holds_41
theorem d_E_holds_42 : decode prog_10_method_6_code 42 = .ok (.aload_n 1, 1) := by decide +kernel
theorem d_E_holds_43 : decode prog_10_method_6_code 43 = .ok (.aload_n 2, 1) := by decide +kernel
theorem d_E_holds_44 : decode prog_10_method_6_code 44 = .ok (.invokevirtual 47, 3) := by decide +kernel
theorem d_E_holds_47 : decode prog_10_method_6_code 47 = .ok (.ifCond .ne 7, 3) := by decide +kernel
theorem d_E_holds_54 : decode prog_10_method_6_code 54 = .ok (.iconst 0, 1) := by decide +kernel
theorem d_E_holds_55 : decode prog_10_method_6_code 55 = .ok (.ireturn, 1) := by decide +kernel
theorem d_E_holds_50 : decode prog_10_method_6_code 50 = .ok (.iconst 1, 1) := by decide +kernel
theorem d_E_holds_51 : decode prog_10_method_6_code 51 = .ok (.goto 4, 3) := by decide +kernel
set_option maxHeartbeats 4000000 in
set_option maxRecDepth 100000 in
theorem v_Eholds_260 (l : Launch) (D : va_G) (dA : Nat → ClassId) (sz : Nat) (ws : va_W) (wa : Nat) (wb : Nat) (L : List Int32) (M : List Int32) (hwwa : isWo dA ws wa L) (hlwa : L.length ≤ 65536) (hwwb : isWo dA ws wb M) (hlwb : M.length ≤ 65536) : Met l ⟨"SeriesVault$Step", "holds", "(ILSeriesVault$Word;LSeriesVault$Word;)Z"⟩ [Cond.code ⟨"SeriesVault$Step", "holds", "(ILSeriesVault$Word;LSeriesVault$Word;)Z"⟩ prog_10_method_6_code 3 (some FieldType.boolean)] { frames := 2, cells := 0, slots := 0, locals := 22 } (pC D dA [.int 260, .ref wa, .ref wb] (ws) sz) (va_Qi (fun (r9 : Int32) (u9 : Unit) => r9 = bI (hoB 260 L M)) (fun (u9 : Unit) t9 => bW D (va_A (ws) sz) (ws) t9) (va_A (ws) sz)) 0 0 (va_A (ws) sz) := by
  refine mkC (y := ⟨"SeriesVault$Step", "holds", "(ILSeriesVault$Word;LSeriesVault$Word;)Z"⟩) (cc := prog_10_method_6_code) (maxL := 3) (av := [.int 260, .ref wa, .ref wb]) (ws := ws) (sz := sz) (Qc := fun A => va_Qi (fun (r9 : Int32) (u9 : Unit) => r9 = bI (hoB 260 L M)) (fun (u9 : Unit) t9 => bW D A (ws) t9) A) (by decide) (Nat.le_of_ble_eq_true rfl) ?_
  intro A p e s m below meth c ls hsz hB
  obtain ⟨hx, hb, hr, hml, hown, hin, hlk, hE, hK, hP, hD, hS, hA, hN, hl⟩ := hB
  have hown : s.vm.findClass "SeriesVault$Step" = some m.cls := hown
  have hl : lv_has ls 3 [(0, .int 260), (1, .ref wa), (2, .ref wb)] := hl
  obtain ⟨H, hH⟩ : ∃ z, z = s.heap := ⟨_, rfl⟩
  have hP : va_P D vwCl (ws) H := by rw [hH]; exact hP
  have hS : va_S A s.heap H [] := by rw [hH]; exact hS
  rw [← hH]
  have hca := hwwa
  have hcb := hwwb
  obtain ⟨b_wa, f_wa, m1wa, m2wa, -⟩ := hca
  obtain ⟨b_wb, f_wb, m1wb, m2wb, -⟩ := hcb
  refine lv_iload_n hx hb d_E_holds_0 rfl (lv_at hl 0 rfl) ?_
  refine lv_lookup (x := 260) (off := 41) (tgt := 42) hx hb d_E_holds_1 (by decide) (by decide) rfl ?_
  refine lv_aload_n hx hb d_E_holds_42 rfl (lv_at hl 1 rfl) ?_
  refine lv_aload_n hx hb d_E_holds_43 rfl (lv_at hl 2 rfl) ?_
  obtain ⟨qp1, ep2⟩ := List.getElem?_of_mem (show ((wa, .inr (10, [.ref b_wa])) : Nat × va_E) ∈ ws from m1wa)
  refine jkI (wr := []) (rnV (As := [.ref wb]) (rest := []) hx hb hml hown hE hK (hN _ _ hS) hP hD (v_Wsame l D dA H.size ws wa L wb M hwwa hlwa hwwb hlwb) (q0 := qp1) ep2 rfl w1282 w1477 w1283 w1284 w1281 rfl rfl ⟨⟨by decide, by decide⟩, rfl⟩ ⟨(Nat.le_of_ble_eq_true rfl), (Nat.le_of_ble_eq_true rfl)⟩ rfl hl.1 rfl (Nat.le_of_ble_eq_true rfl) d_E_holds_44 ⟨(Nat.le_of_ble_eq_true rfl), (Nat.le_of_ble_eq_true rfl)⟩) hP hD hS hA (fun r3 u4 H locs hp9 hP hD hS => ?_)
  have hP : va_P D vwCl (ws) H := hP
  have hD : va_D A (ws) := hD
  replace hp9 : bI (sameW L M) = r3 := Eq.symm hp9
  subst hp9
  refine lv_if_ne hx hb d_E_holds_47 (tgt := 54) rfl (fun g5 => ?_) (fun g5 => ?_)
  · have g5 := bI_n0 g5
    refine lv_iconst (v := 0) hx hb d_E_holds_54 (by decide) ?_
    exact rfZ hx hb hr (bI_nar false) hlk hS () (by show _ = bI (!_); rw [g5]; rfl) hP hD (Nat.le_of_ble_eq_true rfl) (Nat.le_of_ble_eq_true rfl) d_E_holds_55
  · have g5 := bI_0 g5
    refine lv_iconst (v := 1) hx hb d_E_holds_50 (by decide) ?_
    refine lv_goto hx hb d_E_holds_51 (tgt := 55) rfl ?_
    exact rfZ hx hb hr (bI_nar true) hlk hS () (by show _ = bI (!_); rw [g5]; rfl) hP hD (Nat.le_of_ble_eq_true rfl) (Nat.le_of_ble_eq_true rfl) d_E_holds_55
theorem d_E_holds_56 : decode prog_10_method_6_code 56 = .ok (.aload_n 1, 1) := by decide +kernel
theorem d_E_holds_57 : decode prog_10_method_6_code 57 = .ok (.aload_n 2, 1) := by decide +kernel
theorem d_E_holds_58 : decode prog_10_method_6_code 58 = .ok (.invokevirtual 79, 3) := by decide +kernel
theorem d_E_holds_61 : decode prog_10_method_6_code 61 = .ok (.ireturn, 1) := by decide +kernel
theorem w1478 : Cond.methodLink "SeriesVault$Step" 79 ⟨"SeriesVault$Word", "beginsWith", "(LSeriesVault$Word;)Z"⟩ ∈ aW := aw_of (tb_7 (List.mem_of_getElem? (i := 205) rfl)) rfl
theorem w1479 : Cond.code ⟨"SeriesVault$Word", "beginsWith", "(LSeriesVault$Word;)Z"⟩ prog_12_method_5_code 3 (some FieldType.boolean) ∈ aW := aw_of (tb_7 (List.mem_of_getElem? (i := 208) rfl)) rfl
theorem w1480 : Cond.instanceMethod ⟨"SeriesVault$Word", "beginsWith", "(LSeriesVault$Word;)Z"⟩ ∈ aW := aw_of (tb_7 (List.mem_of_getElem? (i := 206) rfl)) rfl
theorem w1481 : Cond.selects "SeriesVault$Word" ⟨"SeriesVault$Word", "beginsWith", "(LSeriesVault$Word;)Z"⟩ ⟨"SeriesVault$Word", "beginsWith", "(LSeriesVault$Word;)Z"⟩ ∈ aW := aw_of (tb_7 (List.mem_of_getElem? (i := 207) rfl)) rfl
set_option maxHeartbeats 4000000 in
set_option maxRecDepth 100000 in
theorem v_Eholds_261 (l : Launch) (D : va_G) (dA : Nat → ClassId) (sz : Nat) (ws : va_W) (wa : Nat) (wb : Nat) (L : List Int32) (M : List Int32) (hwwa : isWo dA ws wa L) (hlwa : L.length ≤ 65536) (hwwb : isWo dA ws wb M) (hlwb : M.length ≤ 65536) : Met l ⟨"SeriesVault$Step", "holds", "(ILSeriesVault$Word;LSeriesVault$Word;)Z"⟩ [Cond.code ⟨"SeriesVault$Step", "holds", "(ILSeriesVault$Word;LSeriesVault$Word;)Z"⟩ prog_10_method_6_code 3 (some FieldType.boolean)] { frames := 2, cells := 0, slots := 0, locals := 22 } (pC D dA [.int 261, .ref wa, .ref wb] (ws) sz) (va_Qi (fun (r9 : Int32) (u9 : Unit) => r9 = bI (hoB 261 L M)) (fun (u9 : Unit) t9 => bW D (va_A (ws) sz) (ws) t9) (va_A (ws) sz)) 0 0 (va_A (ws) sz) := by
  refine mkC (y := ⟨"SeriesVault$Step", "holds", "(ILSeriesVault$Word;LSeriesVault$Word;)Z"⟩) (cc := prog_10_method_6_code) (maxL := 3) (av := [.int 261, .ref wa, .ref wb]) (ws := ws) (sz := sz) (Qc := fun A => va_Qi (fun (r9 : Int32) (u9 : Unit) => r9 = bI (hoB 261 L M)) (fun (u9 : Unit) t9 => bW D A (ws) t9) A) (by decide) (Nat.le_of_ble_eq_true rfl) ?_
  intro A p e s m below meth c ls hsz hB
  obtain ⟨hx, hb, hr, hml, hown, hin, hlk, hE, hK, hP, hD, hS, hA, hN, hl⟩ := hB
  have hown : s.vm.findClass "SeriesVault$Step" = some m.cls := hown
  have hl : lv_has ls 3 [(0, .int 261), (1, .ref wa), (2, .ref wb)] := hl
  obtain ⟨H, hH⟩ : ∃ z, z = s.heap := ⟨_, rfl⟩
  have hP : va_P D vwCl (ws) H := by rw [hH]; exact hP
  have hS : va_S A s.heap H [] := by rw [hH]; exact hS
  rw [← hH]
  have hca := hwwa
  have hcb := hwwb
  obtain ⟨b_wa, f_wa, m1wa, m2wa, -⟩ := hca
  obtain ⟨b_wb, f_wb, m1wb, m2wb, -⟩ := hcb
  refine lv_iload_n hx hb d_E_holds_0 rfl (lv_at hl 0 rfl) ?_
  refine lv_lookup (x := 261) (off := 55) (tgt := 56) hx hb d_E_holds_1 (by decide) (by decide) rfl ?_
  refine lv_aload_n hx hb d_E_holds_56 rfl (lv_at hl 1 rfl) ?_
  refine lv_aload_n hx hb d_E_holds_57 rfl (lv_at hl 2 rfl) ?_
  obtain ⟨qp1, ep2⟩ := List.getElem?_of_mem (show ((wa, .inr (10, [.ref b_wa])) : Nat × va_E) ∈ ws from m1wa)
  refine jkI (wr := []) (rnV (As := [.ref wb]) (rest := []) hx hb hml hown hE hK (hN _ _ hS) hP hD (v_Wbegs l D dA H.size ws wa L wb M hwwa hlwa hwwb hlwb) (q0 := qp1) ep2 rfl w1479 w1478 w1480 w1481 w1281 rfl rfl ⟨⟨by decide, by decide⟩, rfl⟩ ⟨(Nat.le_of_ble_eq_true rfl), (Nat.le_of_ble_eq_true rfl)⟩ rfl hl.1 rfl (Nat.le_of_ble_eq_true rfl) d_E_holds_58 ⟨(Nat.le_of_ble_eq_true rfl), (Nat.le_of_ble_eq_true rfl)⟩) hP hD hS hA (fun r3 u4 H locs hp9 hP hD hS => ?_)
  have hP : va_P D vwCl (ws) H := hP
  have hD : va_D A (ws) := hD
  replace hp9 : bI (begW L M) = r3 := Eq.symm hp9
  subst hp9
  exact rfZ hx hb hr (bI_nar (begW L M)) hlk hS () rfl hP hD (Nat.le_of_ble_eq_true rfl) (Nat.le_of_ble_eq_true rfl) d_E_holds_61
theorem d_E_holds_62 : decode prog_10_method_6_code 62 = .ok (.aload_n 1, 1) := by decide +kernel
theorem d_E_holds_63 : decode prog_10_method_6_code 63 = .ok (.aload_n 2, 1) := by decide +kernel
theorem d_E_holds_64 : decode prog_10_method_6_code 64 = .ok (.invokevirtual 79, 3) := by decide +kernel
theorem d_E_holds_67 : decode prog_10_method_6_code 67 = .ok (.ifCond .ne 7, 3) := by decide +kernel
theorem d_E_holds_74 : decode prog_10_method_6_code 74 = .ok (.iconst 0, 1) := by decide +kernel
theorem d_E_holds_75 : decode prog_10_method_6_code 75 = .ok (.ireturn, 1) := by decide +kernel
theorem d_E_holds_70 : decode prog_10_method_6_code 70 = .ok (.iconst 1, 1) := by decide +kernel
theorem d_E_holds_71 : decode prog_10_method_6_code 71 = .ok (.goto 4, 3) := by decide +kernel
set_option maxHeartbeats 4000000 in
set_option maxRecDepth 100000 in
theorem v_Eholds_262 (l : Launch) (D : va_G) (dA : Nat → ClassId) (sz : Nat) (ws : va_W) (wa : Nat) (wb : Nat) (L : List Int32) (M : List Int32) (hwwa : isWo dA ws wa L) (hlwa : L.length ≤ 65536) (hwwb : isWo dA ws wb M) (hlwb : M.length ≤ 65536) : Met l ⟨"SeriesVault$Step", "holds", "(ILSeriesVault$Word;LSeriesVault$Word;)Z"⟩ [Cond.code ⟨"SeriesVault$Step", "holds", "(ILSeriesVault$Word;LSeriesVault$Word;)Z"⟩ prog_10_method_6_code 3 (some FieldType.boolean)] { frames := 2, cells := 0, slots := 0, locals := 22 } (pC D dA [.int 262, .ref wa, .ref wb] (ws) sz) (va_Qi (fun (r9 : Int32) (u9 : Unit) => r9 = bI (hoB 262 L M)) (fun (u9 : Unit) t9 => bW D (va_A (ws) sz) (ws) t9) (va_A (ws) sz)) 0 0 (va_A (ws) sz) := by
  refine mkC (y := ⟨"SeriesVault$Step", "holds", "(ILSeriesVault$Word;LSeriesVault$Word;)Z"⟩) (cc := prog_10_method_6_code) (maxL := 3) (av := [.int 262, .ref wa, .ref wb]) (ws := ws) (sz := sz) (Qc := fun A => va_Qi (fun (r9 : Int32) (u9 : Unit) => r9 = bI (hoB 262 L M)) (fun (u9 : Unit) t9 => bW D A (ws) t9) A) (by decide) (Nat.le_of_ble_eq_true rfl) ?_
  intro A p e s m below meth c ls hsz hB
  obtain ⟨hx, hb, hr, hml, hown, hin, hlk, hE, hK, hP, hD, hS, hA, hN, hl⟩ := hB
  have hown : s.vm.findClass "SeriesVault$Step" = some m.cls := hown
  have hl : lv_has ls 3 [(0, .int 262), (1, .ref wa), (2, .ref wb)] := hl
  obtain ⟨H, hH⟩ : ∃ z, z = s.heap := ⟨_, rfl⟩
  have hP : va_P D vwCl (ws) H := by rw [hH]; exact hP
  have hS : va_S A s.heap H [] := by rw [hH]; exact hS
  rw [← hH]
  have hca := hwwa
  have hcb := hwwb
  obtain ⟨b_wa, f_wa, m1wa, m2wa, -⟩ := hca
  obtain ⟨b_wb, f_wb, m1wb, m2wb, -⟩ := hcb
  refine lv_iload_n hx hb d_E_holds_0 rfl (lv_at hl 0 rfl) ?_
  refine lv_lookup (x := 262) (off := 61) (tgt := 62) hx hb d_E_holds_1 (by decide) (by decide) rfl ?_
  refine lv_aload_n hx hb d_E_holds_62 rfl (lv_at hl 1 rfl) ?_
  refine lv_aload_n hx hb d_E_holds_63 rfl (lv_at hl 2 rfl) ?_
  obtain ⟨qp1, ep2⟩ := List.getElem?_of_mem (show ((wa, .inr (10, [.ref b_wa])) : Nat × va_E) ∈ ws from m1wa)
  refine jkI (wr := []) (rnV (As := [.ref wb]) (rest := []) hx hb hml hown hE hK (hN _ _ hS) hP hD (v_Wbegs l D dA H.size ws wa L wb M hwwa hlwa hwwb hlwb) (q0 := qp1) ep2 rfl w1479 w1478 w1480 w1481 w1281 rfl rfl ⟨⟨by decide, by decide⟩, rfl⟩ ⟨(Nat.le_of_ble_eq_true rfl), (Nat.le_of_ble_eq_true rfl)⟩ rfl hl.1 rfl (Nat.le_of_ble_eq_true rfl) d_E_holds_64 ⟨(Nat.le_of_ble_eq_true rfl), (Nat.le_of_ble_eq_true rfl)⟩) hP hD hS hA (fun r3 u4 H locs hp9 hP hD hS => ?_)
  have hP : va_P D vwCl (ws) H := hP
  have hD : va_D A (ws) := hD
  replace hp9 : bI (begW L M) = r3 := Eq.symm hp9
  subst hp9
  refine lv_if_ne hx hb d_E_holds_67 (tgt := 74) rfl (fun g5 => ?_) (fun g5 => ?_)
  · have g5 := bI_n0 g5
    refine lv_iconst (v := 0) hx hb d_E_holds_74 (by decide) ?_
    exact rfZ hx hb hr (bI_nar false) hlk hS () (by show _ = bI (!_); rw [g5]; rfl) hP hD (Nat.le_of_ble_eq_true rfl) (Nat.le_of_ble_eq_true rfl) d_E_holds_75
  · have g5 := bI_0 g5
    refine lv_iconst (v := 1) hx hb d_E_holds_70 (by decide) ?_
    refine lv_goto hx hb d_E_holds_71 (tgt := 75) rfl ?_
    exact rfZ hx hb hr (bI_nar true) hlk hS () (by show _ = bI (!_); rw [g5]; rfl) hP hD (Nat.le_of_ble_eq_true rfl) (Nat.le_of_ble_eq_true rfl) d_E_holds_75
theorem v_Eholds (l : Launch) (D : va_G) (dA : Nat → ClassId) (sz : Nat) (ws : va_W) (z : Int32) (wa : Nat) (wb : Nat) (L : List Int32) (M : List Int32) (hwwa : isWo dA ws wa L) (hlwa : L.length ≤ 65536) (hwwb : isWo dA ws wb M) (hlwb : M.length ≤ 65536) (hkd : isKd z) : Met l ⟨"SeriesVault$Step", "holds", "(ILSeriesVault$Word;LSeriesVault$Word;)Z"⟩ [Cond.code ⟨"SeriesVault$Step", "holds", "(ILSeriesVault$Word;LSeriesVault$Word;)Z"⟩ prog_10_method_6_code 3 (some FieldType.boolean)] { frames := 2, cells := 0, slots := 0, locals := 22 } (pC D dA [.int z, .ref wa, .ref wb] (ws) sz) (va_Qi (fun (r9 : Int32) (u9 : Unit) => r9 = bI (hoB z L M)) (fun (u9 : Unit) t9 => bW D (va_A (ws) sz) (ws) t9) (va_A (ws) sz)) 0 0 (va_A (ws) sz) := by
  rcases hkd with h | h | h | h <;> subst h
  · exact v_Eholds_61 l D dA sz ws wa wb L M hwwa hlwa hwwb hlwb
  · exact v_Eholds_260 l D dA sz ws wa wb L M hwwa hlwa hwwb hlwb
  · exact v_Eholds_261 l D dA sz ws wa wb L M hwwa hlwa hwwb hlwb
  · exact v_Eholds_262 l D dA sz ws wa wb L M hwwa hlwa hwwb hlwb
end
section
theorem up_lt {z f : Nat → Option Nat} {i : Nat} {o : Option Nat} (h : ∀ q, q < i → z q = f q) (e : f i = o) {q : Nat} (hq : q < i + 1) : va_up z i o q = f q := by
  unfold va_up
  by_cases e5 : q = i
  · rw [if_pos e5, e5, e]
  · rw [if_neg e5]; exact h q (by omega)
theorem d_E_takes_0 : decode prog_10_method_5_code 0 = .ok (.iconst 0, 1) := by decide +kernel
theorem d_E_takes_1 : decode prog_10_method_5_code 1 = .ok (.istore_n 2, 1) := by decide +kernel
theorem d_E_takes_2 : decode prog_10_method_5_code 2 = .ok (.iload_n 2, 1) := by decide +kernel
theorem d_E_takes_3 : decode prog_10_method_5_code 3 = .ok (.aload_n 0, 1) := by decide +kernel
theorem d_E_takes_4 : decode prog_10_method_5_code 4 = .ok (.getfield 33, 3) := by decide +kernel
theorem d_E_takes_7 : decode prog_10_method_5_code 7 = .ok (.invokevirtual 51, 3) := by decide +kernel
theorem d_E_takes_10 : decode prog_10_method_5_code 10 = .ok (.if_icmp .ge 49, 3) := by decide +kernel
theorem d_E_takes_59 : decode prog_10_method_5_code 59 = .ok (.iconst 1, 1) := by decide +kernel
theorem d_E_takes_60 : decode prog_10_method_5_code 60 = .ok (.ireturn, 1) := by decide +kernel
theorem d_E_takes_13 : decode prog_10_method_5_code 13 = .ok (.aload_n 0, 1) := by decide +kernel
theorem d_E_takes_14 : decode prog_10_method_5_code 14 = .ok (.getfield 40, 3) := by decide +kernel
theorem d_E_takes_17 : decode prog_10_method_5_code 17 = .ok (.iload_n 2, 1) := by decide +kernel
theorem d_E_takes_18 : decode prog_10_method_5_code 18 = .ok (.iaload, 1) := by decide +kernel
theorem d_E_takes_19 : decode prog_10_method_5_code 19 = .ok (.aload_n 1, 1) := by decide +kernel
theorem d_E_takes_20 : decode prog_10_method_5_code 20 = .ok (.aload_n 0, 1) := by decide +kernel
theorem d_E_takes_21 : decode prog_10_method_5_code 21 = .ok (.getfield 33, 3) := by decide +kernel
theorem d_E_takes_24 : decode prog_10_method_5_code 24 = .ok (.iload_n 2, 1) := by decide +kernel
theorem d_E_takes_25 : decode prog_10_method_5_code 25 = .ok (.invokevirtual 65, 3) := by decide +kernel
theorem d_E_takes_28 : decode prog_10_method_5_code 28 = .ok (.checkcast 24, 3) := by decide +kernel
theorem d_E_takes_31 : decode prog_10_method_5_code 31 = .ok (.invokevirtual 69, 3) := by decide +kernel
theorem d_E_takes_34 : decode prog_10_method_5_code 34 = .ok (.aload_n 0, 1) := by decide +kernel
theorem d_E_takes_35 : decode prog_10_method_5_code 35 = .ok (.getfield 37, 3) := by decide +kernel
theorem d_E_takes_38 : decode prog_10_method_5_code 38 = .ok (.iload_n 2, 1) := by decide +kernel
theorem d_E_takes_39 : decode prog_10_method_5_code 39 = .ok (.invokevirtual 65, 3) := by decide +kernel
theorem d_E_takes_42 : decode prog_10_method_5_code 42 = .ok (.checkcast 24, 3) := by decide +kernel
theorem d_E_takes_45 : decode prog_10_method_5_code 45 = .ok (.invokestatic 75, 3) := by decide +kernel
theorem d_E_takes_48 : decode prog_10_method_5_code 48 = .ok (.ifCond .ne 5, 3) := by decide +kernel
theorem d_E_takes_53 : decode prog_10_method_5_code 53 = .ok (.iinc 2 1, 3) := by decide +kernel
theorem d_E_takes_56 : decode prog_10_method_5_code 56 = .ok (.goto (-54), 3) := by decide +kernel
theorem d_E_takes_51 : decode prog_10_method_5_code 51 = .ok (.iconst 0, 1) := by decide +kernel
theorem d_E_takes_52 : decode prog_10_method_5_code 52 = .ok (.ireturn, 1) := by decide +kernel
theorem w1482 : Cond.fieldLink "SeriesVault$Step" 33 "SeriesVault$Step" "matchNames" "Ljava/util/ArrayList;" ∈ aW := aw_of (tb_7 (List.mem_of_getElem? (i := 20) rfl)) rfl
theorem w1483 : Cond.methodLink "SeriesVault$Step" 51 ⟨"java/util/ArrayList", "size", "()I"⟩ ∈ aW := aw_of (tb_7 (List.mem_of_getElem? (i := 117) rfl)) rfl
theorem w1484 : Cond.code ⟨"java/util/ArrayList", "size", "()I"⟩ prog_37_method_8_code 1 (some FieldType.int) ∈ aW := aw_of (tb_7 (List.mem_of_getElem? (i := 120) rfl)) rfl
theorem w1485 : Cond.instanceMethod ⟨"java/util/ArrayList", "size", "()I"⟩ ∈ aW := aw_of (tb_7 (List.mem_of_getElem? (i := 118) rfl)) rfl
theorem w1486 : Cond.selects "java/util/ArrayList" ⟨"java/util/ArrayList", "size", "()I"⟩ ⟨"java/util/ArrayList", "size", "()I"⟩ ∈ aW := aw_of (tb_7 (List.mem_of_getElem? (i := 119) rfl)) rfl
theorem w1487 : Cond.fieldLink "SeriesVault$Step" 40 "SeriesVault$Step" "matchKinds" "[I" ∈ aW := aw_of (tb_7 (List.mem_of_getElem? (i := 22) rfl)) rfl
theorem w1488 : Cond.methodLink "SeriesVault$Step" 65 ⟨"java/util/ArrayList", "get", "(I)Ljava/lang/Object;"⟩ ∈ aW := aw_of (tb_7 (List.mem_of_getElem? (i := 196) rfl)) rfl
theorem w1489 : Cond.code ⟨"java/util/ArrayList", "get", "(I)Ljava/lang/Object;"⟩ prog_37_method_20_code 2 (some (FieldType.object "java/lang/Object")) ∈ aW := aw_of (tb_3 (List.mem_of_getElem? (i := 35) rfl)) rfl
theorem w1490 : Cond.instanceMethod ⟨"java/util/ArrayList", "get", "(I)Ljava/lang/Object;"⟩ ∈ aW := aw_of (tb_3 (List.mem_of_getElem? (i := 33) rfl)) rfl
theorem w1491 : Cond.selects "java/util/ArrayList" ⟨"java/util/ArrayList", "get", "(I)Ljava/lang/Object;"⟩ ⟨"java/util/ArrayList", "get", "(I)Ljava/lang/Object;"⟩ ∈ aW := aw_of (tb_3 (List.mem_of_getElem? (i := 34) rfl)) rfl
theorem w1492 : Cond.classLink "SeriesVault$Step" 24 "SeriesVault$Word" ∈ aW := aw_of (tb_7 (List.mem_of_getElem? (i := 7) rfl)) rfl
theorem w1493 : Cond.methodLink "SeriesVault$Step" 69 ⟨"SeriesVault$Series", "valueOf", "(LSeriesVault$Word;)LSeriesVault$Word;"⟩ ∈ aW := aw_of (tb_7 (List.mem_of_getElem? (i := 197) rfl)) rfl
theorem w1494 : Cond.fieldLink "SeriesVault$Step" 37 "SeriesVault$Step" "matchTexts" "Ljava/util/ArrayList;" ∈ aW := aw_of (tb_7 (List.mem_of_getElem? (i := 21) rfl)) rfl
theorem w1495 : Cond.methodLink "SeriesVault$Step" 75 ⟨"SeriesVault$Step", "holds", "(ILSeriesVault$Word;LSeriesVault$Word;)Z"⟩ ∈ aW := aw_of (tb_7 (List.mem_of_getElem? (i := 202) rfl)) rfl
theorem w1496 : Cond.initialized "SeriesVault$Step" ∈ aW := aw_of (tb_1 (List.mem_of_getElem? (i := 35) rfl)) rfl
theorem w1497 : Cond.code ⟨"SeriesVault$Step", "holds", "(ILSeriesVault$Word;LSeriesVault$Word;)Z"⟩ prog_10_method_6_code 3 (some FieldType.boolean) ∈ aW := aw_of (tb_7 (List.mem_of_getElem? (i := 204) rfl)) rfl
theorem w1498 : Cond.static ⟨"SeriesVault$Step", "holds", "(ILSeriesVault$Word;LSeriesVault$Word;)Z"⟩ ∈ aW := aw_of (tb_7 (List.mem_of_getElem? (i := 203) rfl)) rfl
set_option maxHeartbeats 4000000 in
set_option maxRecDepth 100000 in
theorem v_Etakes (l : Launch) (D : va_G) (dA : Nat → ClassId) (sz : Nat) (ws : va_W) (sp : Nat) (kd : Int32) (pl : Nat) (nu : Int64) (nn : Nat) (NL : Nat → List Int32) (n : Nat) (KD : Nat → Int32) (MN : Nat → List Int32) (MT : Nat → List Int32) (a : Nat) (S : List LB) (hst : isStp dA ws sp kd pl nu nn NL n KD MN MT) (hsa : isSer dA ws a S) (hoa : serOk S) : Met l ⟨"SeriesVault$Step", "takes", "(LSeriesVault$Series;)Z"⟩ [Cond.code ⟨"SeriesVault$Step", "takes", "(LSeriesVault$Series;)Z"⟩ prog_10_method_5_code 3 (some FieldType.boolean)] { frames := 4, cells := 0, slots := 0, locals := 64 } (pC D dA [.ref sp, .ref a] (ws) sz) (va_Qi (fun (r9 : Int32) (u9 : Unit) => r9 = bI (allB n (tkF KD MN MT S))) (fun (u9 : Unit) t9 => bW D (va_A (ws) sz) (ws) t9) (va_A (ws) sz)) 0 0 (va_A (ws) sz) := by
  refine mkC (y := ⟨"SeriesVault$Step", "takes", "(LSeriesVault$Series;)Z"⟩) (cc := prog_10_method_5_code) (maxL := 3) (av := [.ref sp, .ref a]) (ws := ws) (sz := sz) (Qc := fun A => va_Qi (fun (r9 : Int32) (u9 : Unit) => r9 = bI (allB n (tkF KD MN MT S))) (fun (u9 : Unit) t9 => bW D A (ws) t9) A) (by decide) (Nat.le_of_ble_eq_true rfl) ?_
  intro A p e s m below meth c ls hsz hB
  obtain ⟨hx, hb, hr, hml, hown, hin, hlk, hE, hK, hP, hD, hS, hA, hN, hl⟩ := hB
  have hown : s.vm.findClass "SeriesVault$Step" = some m.cls := hown
  have hl : lv_has ls 3 [(0, .ref sp), (1, .ref a)] := hl
  obtain ⟨H, hH⟩ : ∃ z, z = s.heap := ⟨_, rfl⟩
  have hP : va_P D vwCl (ws) H := by rw [hH]; exact hP
  have hS : va_S A s.heap H [] := by rw [hH]; exact hS
  rw [← hH]
  have hsc := hst
  obtain ⟨na, ln, lt, mk, cap, kN, fn, fk, j1, j2, j3, j4, j5, j6, j7, j8, j9, j10, j11⟩ := hsc
  have j6c := j6
  obtain ⟨eA1, mc1, k1, hn1, -⟩ := j6c
  have j7c := j7
  obtain ⟨eA2, mc2, k2, hn2, -⟩ := j7c
  have hcx := hsa
  obtain ⟨nax, vax, nox, txx, fnx, fvx, n1x, -⟩ := hcx
  refine lv_iconst (v := 0) hx hb d_E_takes_0 (by decide) ?_
  refine lv_istore_n hx hb d_E_takes_1 rfl hl (by decide) rfl (fun ls hl => ?_)
  have hl : lv_has ls 3 [(2, .int 0), (0, .ref sp), (1, .ref a)] := hl
  have L2 : ∀ (k9 : Nat) (i : Nat) (i1 : i ≤ n) (i2 : allB i (tkF KD MN MT S) = true) (hk9 : n - i = k9), ∀ (H : Heap) (locs : List Loc) (ls : Array Slot) (hP : va_P D vwCl (ws) H) (hD : va_D A (ws)) (hS : va_S A s.heap H locs) (hl : lv_has ls 3 [(2, .int (nI i)), (0, .ref sp), (1, .ref a)]), W p l e ({ frames := 4, cells := 0, slots := 0, locals := 64 } : Room) s m ([.ref sp, .ref a] : List Value).toArray below meth c H locs 0 0 (MQ below (va_Qi (fun (r9 : Int32) (u9 : Unit) => r9 = bI (allB n (tkF KD MN MT S))) (fun (u9 : Unit) t9 => bW D A (ws) t9) A) ([.ref sp, .ref a] : List Value).toArray s 0 0 A) (F0 m 2 ls []) := by
    intro k9
    induction k9 using Nat.strongRecOn with
    | ind k9 ih2 =>
      intro i i1 i2 hk9 H locs ls hP hD hS hl
      refine lv_iload_n hx hb d_E_takes_2 rfl (lv_at hl 0 rfl) ?_
      refine lv_aload_n hx hb d_E_takes_3 rfl (lv_at hl 1 rfl) ?_
      obtain ⟨qp1, ep2⟩ := List.getElem?_of_mem (show ((sp, .inr (13, [.int kd, .int (nI pl), .long nu, .ref na, .int (nI nn), .ref ln, .ref lt, .ref mk])) : Nat × va_E) ∈ ws from j1)
      refine gF (v := .ref ln) hx hb hown hE hK hP qp1 ep2 rfl layE 5 (by decide) w1482 rfl d_E_takes_4 ?_
      obtain ⟨qp3, ep4⟩ := List.getElem?_of_mem (show ((ln, .inr (6, [.ref eA1, .int (nI n), .int mc1])) : Nat × va_E) ∈ ws from k1)
      refine jkI (wr := []) (rnV (As := []) (rest := [.int (nI i)]) hx hb hml hown hE hK (hN _ _ hS) hP hD (v_LsizeM l D dA H.size ws ln n MN j6) (q0 := qp3) ep4 rfl w1484 w1483 w1485 w1486 w680 rfl rfl ⟨⟨by decide, by decide⟩, rfl⟩ ⟨(Nat.le_of_ble_eq_true rfl), (Nat.le_of_ble_eq_true rfl)⟩ rfl hl.1 rfl (Nat.le_of_ble_eq_true rfl) d_E_takes_7 ⟨(Nat.le_of_ble_eq_true rfl), (Nat.le_of_ble_eq_true rfl)⟩) hP hD hS hA (fun r5 u6 H locs hp9 hP hD hS => ?_)
      have hP : va_P D vwCl (ws) H := hP
      have hD : va_D A (ws) := hD
      replace hp9 : nI n = r5 := Eq.symm hp9
      subst hp9
      refine lv_icmp_ge hx hb d_E_takes_10 (tgt := 59) rfl (fun g7 => ?_) (fun g7 => ?_)
      · have g7 := (nI_leI (a := n) (b := i) (by omega) (by omega)).mp g7
        refine lv_iconst (v := 1) hx hb d_E_takes_59 (by decide) ?_
        exact rfZ hx hb hr (bI_nar true) hlk hS () (by rw [← show i = n by omega, i2]; rfl) hP hD (Nat.le_of_ble_eq_true rfl) (Nat.le_of_ble_eq_true rfl) d_E_takes_60
      · have g7 := mt (nI_leI (a := n) (b := i) (by omega) (by omega)).mpr g7
        have vl1 := valS_le (M := MN i) hoa
        obtain ⟨hk1, hk2⟩ := j11 i (by omega)
        refine lv_aload_n hx hb d_E_takes_13 rfl (lv_at hl 1 rfl) ?_
        obtain ⟨qp8, ep9⟩ := List.getElem?_of_mem (show ((sp, .inr (13, [.int kd, .int (nI pl), .long nu, .ref na, .int (nI nn), .ref ln, .ref lt, .ref mk])) : Nat × va_E) ∈ ws from j1)
        refine gF (v := .ref mk) hx hb hown hE hK hP qp8 ep9 rfl layE 7 (by decide) w1487 rfl d_E_takes_14 ?_
        refine lv_iload_n hx hb d_E_takes_17 rfl (lv_at hl 0 rfl) ?_
        obtain ⟨qp10, ep11⟩ := List.getElem?_of_mem (show ((mk, .inl (dA 1, kN, .inl fk)) : Nat × va_E) ∈ ws from j8)
        refine nild (f := fk) (n := kN) hx hb hK hP (qp10) 1 ep11 rfl (i) (by omega) (by omega) d_E_takes_18 ?_
        refine tpi (y := (KD i)) hk1 ?_
        refine lv_aload_n hx hb d_E_takes_19 rfl (lv_at hl 2 rfl) ?_
        refine lv_aload_n hx hb d_E_takes_20 rfl (lv_at hl 1 rfl) ?_
        obtain ⟨qp12, ep13⟩ := List.getElem?_of_mem (show ((sp, .inr (13, [.int kd, .int (nI pl), .long nu, .ref na, .int (nI nn), .ref ln, .ref lt, .ref mk])) : Nat × va_E) ∈ ws from j1)
        refine gF (v := .ref ln) hx hb hown hE hK hP qp12 ep13 rfl layE 5 (by decide) w1482 rfl d_E_takes_21 ?_
        refine lv_iload_n hx hb d_E_takes_24 rfl (lv_at hl 0 rfl) ?_
        obtain ⟨qp14, ep15⟩ := List.getElem?_of_mem (show ((ln, .inr (6, [.ref eA1, .int (nI n), .int mc1])) : Nat × va_E) ∈ ws from k1)
        refine jkR (wr := []) (rnV (As := [.int (nI i)]) (rest := [.ref a, .int (KD i)]) hx hb hml hown hE hK (hN _ _ hS) hP hD (v_LgetM l D dA H.size ws ln n MN i j6 (show i < n from by omega)) (q0 := qp14) ep15 rfl w1489 w1488 w1490 w1491 w680 rfl rfl ⟨⟨by decide, by decide⟩, rfl⟩ ⟨(Nat.le_of_ble_eq_true rfl), (Nat.le_of_ble_eq_true rfl)⟩ rfl hl.1 rfl (Nat.le_of_ble_eq_true rfl) d_E_takes_25 ⟨(Nat.le_of_ble_eq_true rfl), (Nat.le_of_ble_eq_true rfl)⟩) hP hD hS hA (fun u16 v1 H locs hp9 hP hD hS => ?_)
        have hP : va_P D vwCl (ws) H := hP
        have hD : va_D A (ws) := hD
        obtain ⟨f_w_17, f_lw_18⟩ := hp9
        have wc_n := f_w_17
        obtain ⟨bv1, fv1, kv1, -⟩ := wc_n
        obtain ⟨qp19, ep20⟩ := List.getElem?_of_mem (show ((v1, .inr (10, [.ref bv1])) : Nat × va_E) ∈ ws from kv1)
        refine va_castE hx hb hown (hE.t w1492 rfl) (va_recv hK hP (ci := 10) (q0 := qp19) (q := ("SeriesVault$Word", TW, 1)) rfl ep20) d_E_takes_28 ?_
        obtain ⟨qp21, ep22⟩ := List.getElem?_of_mem (show ((a, .inr (11, [.ref nax, .ref vax, .ref nox, .ref txx])) : Nat × va_E) ∈ ws from n1x)
        refine jkR (wr := []) (rnV (As := [.ref v1]) (rest := [.int (KD i)]) hx hb hml hown hE hK (hN _ _ hS) hP hD (v_SvalueOf2 l D dA H.size ws ws a S v1 (MN i) (fun _ hm => hm) hsa hoa (isWo_m (fun _ hm => hm) f_w_17) f_lw_18) (q0 := qp21) ep22 rfl w1378 w1493 w1379 w1380 w1288 rfl rfl ⟨⟨by decide, by decide⟩, rfl⟩ ⟨(Nat.le_of_ble_eq_true rfl), (Nat.le_of_ble_eq_true rfl)⟩ rfl hl.1 rfl (Nat.le_of_ble_eq_true rfl) d_E_takes_31 ⟨(Nat.le_of_ble_eq_true rfl), (Nat.le_of_ble_eq_true rfl)⟩) hP hD hS hA (fun u23 v2 H locs hp9 hP hD hS => ?_)
        have hP : va_P D vwCl (ws) H := hP
        have hD : va_D A (ws) := hD
        have f_w_24 := hp9
        have wc_v := f_w_24
        obtain ⟨bv2, fv2, kv2, -⟩ := wc_v
        refine lv_aload_n hx hb d_E_takes_34 rfl (lv_at hl 1 rfl) ?_
        obtain ⟨qp25, ep26⟩ := List.getElem?_of_mem (show ((sp, .inr (13, [.int kd, .int (nI pl), .long nu, .ref na, .int (nI nn), .ref ln, .ref lt, .ref mk])) : Nat × va_E) ∈ ws from j1)
        refine gF (v := .ref lt) hx hb hown hE hK hP qp25 ep26 rfl layE 6 (by decide) w1494 rfl d_E_takes_35 ?_
        refine lv_iload_n hx hb d_E_takes_38 rfl (lv_at hl 0 rfl) ?_
        obtain ⟨qp27, ep28⟩ := List.getElem?_of_mem (show ((lt, .inr (6, [.ref eA2, .int (nI n), .int mc2])) : Nat × va_E) ∈ ws from k2)
        refine jkR (wr := []) (rnV (As := [.int (nI i)]) (rest := [.ref v2, .int (KD i)]) hx hb hml hown hE hK (hN _ _ hS) hP hD (v_LgetM l D dA H.size ws lt n MT i j7 (show i < n from by omega)) (q0 := qp27) ep28 rfl w1489 w1488 w1490 w1491 w680 rfl rfl ⟨⟨by decide, by decide⟩, rfl⟩ ⟨(Nat.le_of_ble_eq_true rfl), (Nat.le_of_ble_eq_true rfl)⟩ rfl hl.1 rfl (Nat.le_of_ble_eq_true rfl) d_E_takes_39 ⟨(Nat.le_of_ble_eq_true rfl), (Nat.le_of_ble_eq_true rfl)⟩) hP hD hS hA (fun u29 v3 H locs hp9 hP hD hS => ?_)
        have hP : va_P D vwCl (ws) H := hP
        have hD : va_D A (ws) := hD
        obtain ⟨f_w_30, f_lw_31⟩ := hp9
        have wc_t := f_w_30
        obtain ⟨bv3, fv3, kv3, -⟩ := wc_t
        obtain ⟨qp32, ep33⟩ := List.getElem?_of_mem (show ((v3, .inr (10, [.ref bv3])) : Nat × va_E) ∈ ws from kv3)
        refine va_castE hx hb hown (hE.t w1492 rfl) (va_recv hK hP (ci := 10) (q0 := qp32) (q := ("SeriesVault$Word", TW, 1)) rfl ep33) d_E_takes_42 ?_
        refine jkI (wr := []) (rnS (As := [.int (KD i), .ref v2, .ref v3]) (rest := []) hx hb hml hown hE hK (hN _ _ hS) hP hD (v_Eholds l D dA H.size ws (KD i) v2 v3 (valS S (MN i)) (MT i) f_w_24 (show (valS S (MN i)).length ≤ 65536 by omega) f_w_30 f_lw_31 hk2) w1497 w1495 w1498 w1496 rfl rfl ⟨⟨by decide, by decide⟩, rfl⟩ ⟨(Nat.le_of_ble_eq_true rfl), (Nat.le_of_ble_eq_true rfl)⟩ rfl hl.1 rfl (Nat.le_of_ble_eq_true rfl) d_E_takes_45 ⟨(Nat.le_of_ble_eq_true rfl), (Nat.le_of_ble_eq_true rfl)⟩) hP hD hS hA (fun r34 u35 H locs hp9 hP hD hS => ?_)
        have hP : va_P D vwCl (ws) H := hP
        have hD : va_D A (ws) := hD
        replace hp9 : bI (hoB (KD i) (valS S (MN i)) (MT i)) = r34 := Eq.symm hp9
        subst hp9
        refine lv_if_ne hx hb d_E_takes_48 (tgt := 53) rfl (fun g36 => ?_) (fun g36 => ?_)
        · have g36 := bI_n0 g36
          refine lv_iinc (k := 0) (v := nI (i + 1)) hx hb d_E_takes_53 hl rfl (iincN (i) 1 1 (by decide)) (by decide) rfl (fun ls hl => ?_)
          have hl : lv_has ls 3 [(2, .int (nI (i + 1))), (0, .ref sp), (1, .ref a)] := hl
          refine lv_goto hx hb d_E_takes_56 (tgt := 2) rfl ?_
          exact ih2 _ (by omega) (i + 1) (by omega) (by rw [allB_s, i2, Bool.true_and]; exact g36) rfl H _ ls hP hD hS (lv_sub hl [0, 1, 2] rfl)
        · have g36 := bI_0 g36
          refine lv_iconst (v := 0) hx hb d_E_takes_51 (by decide) ?_
          exact rfZ hx hb hr (bI_nar false) hlk hS () (by rw [allB_1 (f := tkF KD MN MT S) (k := i) (n := n) (by omega) g36]; rfl) hP hD (Nat.le_of_ble_eq_true rfl) (Nat.le_of_ble_eq_true rfl) d_E_takes_52
  exact L2 _ 0 (Nat.zero_le _) rfl rfl H _ ls hP hD hS (lv_sub hl [0, 1, 2] rfl)
theorem d_T_beginRows_0 : decode prog_11_method_3_code 0 = .ok (.aload_n 0, 1) := by decide +kernel
theorem d_T_beginRows_1 : decode prog_11_method_3_code 1 = .ok (.iload_n 2, 1) := by decide +kernel
theorem d_T_beginRows_2 : decode prog_11_method_3_code 2 = .ok (.putfield 30, 3) := by decide +kernel
theorem d_T_beginRows_5 : decode prog_11_method_3_code 5 = .ok (.aload_n 0, 1) := by decide +kernel
theorem d_T_beginRows_6 : decode prog_11_method_3_code 6 = .ok (.aload_n 1, 1) := by decide +kernel
theorem d_T_beginRows_7 : decode prog_11_method_3_code 7 = .ok (.getfield 47, 3) := by decide +kernel
theorem d_T_beginRows_10 : decode prog_11_method_3_code 10 = .ok (.putfield 34, 3) := by decide +kernel
theorem d_T_beginRows_13 : decode prog_11_method_3_code 13 = .ok (.iconst 0, 1) := by decide +kernel
theorem d_T_beginRows_14 : decode prog_11_method_3_code 14 = .ok (.istore_n 3, 1) := by decide +kernel
theorem d_T_beginRows_15 : decode prog_11_method_3_code 15 = .ok (.iload_n 3, 1) := by decide +kernel
theorem d_T_beginRows_16 : decode prog_11_method_3_code 16 = .ok (.aload_n 0, 1) := by decide +kernel
theorem d_T_beginRows_17 : decode prog_11_method_3_code 17 = .ok (.getfield 34, 3) := by decide +kernel
theorem d_T_beginRows_20 : decode prog_11_method_3_code 20 = .ok (.if_icmp .ge 21, 3) := by decide +kernel
theorem d_T_beginRows_41 : decode prog_11_method_3_code 41 = .ok (.aload_n 0, 1) := by decide +kernel
theorem d_T_beginRows_42 : decode prog_11_method_3_code 42 = .ok (.iconst 0, 1) := by decide +kernel
theorem d_T_beginRows_43 : decode prog_11_method_3_code 43 = .ok (.putfield 37, 3) := by decide +kernel
theorem d_T_beginRows_46 : decode prog_11_method_3_code 46 = .ok (.return_, 1) := by decide +kernel
theorem d_T_beginRows_23 : decode prog_11_method_3_code 23 = .ok (.aload_n 0, 1) := by decide +kernel
theorem d_T_beginRows_24 : decode prog_11_method_3_code 24 = .ok (.getfield 11, 3) := by decide +kernel
theorem d_T_beginRows_27 : decode prog_11_method_3_code 27 = .ok (.iload_n 3, 1) := by decide +kernel
theorem d_T_beginRows_28 : decode prog_11_method_3_code 28 = .ok (.aload_n 1, 1) := by decide +kernel
theorem d_T_beginRows_29 : decode prog_11_method_3_code 29 = .ok (.getfield 50, 3) := by decide +kernel
theorem d_T_beginRows_32 : decode prog_11_method_3_code 32 = .ok (.iload_n 3, 1) := by decide +kernel
theorem d_T_beginRows_33 : decode prog_11_method_3_code 33 = .ok (.aaload, 1) := by decide +kernel
theorem d_T_beginRows_34 : decode prog_11_method_3_code 34 = .ok (.aastore, 1) := by decide +kernel
theorem d_T_beginRows_35 : decode prog_11_method_3_code 35 = .ok (.iinc 3 1, 3) := by decide +kernel
theorem d_T_beginRows_38 : decode prog_11_method_3_code 38 = .ok (.goto (-23), 3) := by decide +kernel
theorem w1499 : Cond.fieldLinkNest "SeriesVault$Table" 47 "SeriesVault$Step" "nameCount" "I" "SeriesVault" ∈ aW := aw_of (tb_7 (List.mem_of_getElem? (i := 19) rfl)) rfl
theorem w1500 : Cond.fieldLinkNest "SeriesVault$Table" 50 "SeriesVault$Step" "names" "[LSeriesVault$Word;" "SeriesVault" ∈ aW := aw_of (tb_7 (List.mem_of_getElem? (i := 17) rfl)) rfl
set_option maxHeartbeats 4000000 in
set_option maxRecDepth 100000 in
theorem v_TbeginRows (l : Launch) (D : va_G) (dA : Nat → ClassId) (sz : Nat) (ws : va_W) (ta : Nat → Nat) (t : TB) (sp : Nat) (wn : Nat) (kd : Int32) (pl : Nat) (nu : Int64) (nn : Nat) (NL : Nat → List Int32) (n : Nat) (KD : Nat → Int32) (MN : Nat → List Int32) (MT : Nat → List Int32) (hst : isStp dA ws sp kd pl nu nn NL n KD MN MT) : Met l ⟨"SeriesVault$Table", "beginRows", "(LSeriesVault$Step;I)V"⟩ [Cond.code ⟨"SeriesVault$Table", "beginRows", "(LSeriesVault$Step;I)V"⟩ prog_11_method_3_code 4 none] { frames := 1, cells := 0, slots := 0, locals := 0 } (pC D dA [.ref (ta 0), .ref sp, .int (nI wn)] (TbW dA ta t ++ (ws)) sz) (va_Qv (fun (u9 : (Nat → Option Nat)) => nmOk dA ws u9 nn NL) (fun (u9 : (Nat → Option Nat)) t9 => bW D (va_A (TbW dA ta t ++ (ws)) sz) (TbW dA ta (TB.s_rc (TB.s_wi (TB.s_nc (TB.s_nm t u9) nn) wn) 0) ++ (ws)) t9) (va_A (TbW dA ta t ++ (ws)) sz)) 0 0 (va_A (TbW dA ta t ++ (ws)) sz) := by
  refine mkC (y := ⟨"SeriesVault$Table", "beginRows", "(LSeriesVault$Step;I)V"⟩) (cc := prog_11_method_3_code) (maxL := 4) (av := [.ref (ta 0), .ref sp, .int (nI wn)]) (ws := TbW dA ta t ++ (ws)) (sz := sz) (Qc := fun A => va_Qv (fun (u9 : (Nat → Option Nat)) => nmOk dA ws u9 nn NL) (fun (u9 : (Nat → Option Nat)) t9 => bW D A (TbW dA ta (TB.s_rc (TB.s_wi (TB.s_nc (TB.s_nm t u9) nn) wn) 0) ++ (ws)) t9) A) (by decide) (Nat.le_of_ble_eq_true rfl) ?_
  intro A p e s m below meth c ls hsz hB
  obtain ⟨hx, hb, hr, hml, hown, hin, hlk, hE, hK, hP, hD, hS, hA, hN, hl⟩ := hB
  have hown : s.vm.findClass "SeriesVault$Table" = some m.cls := hown
  have hl : lv_has ls 4 [(0, .ref (ta 0)), (1, .ref sp), (2, .int (nI wn))] := hl
  obtain ⟨H, hH⟩ : ∃ z, z = s.heap := ⟨_, rfl⟩
  have hP : va_P D vwCl (TbW dA ta t ++ (ws)) H := by rw [hH]; exact hP
  have hS : va_S A s.heap H [] := by rw [hH]; exact hS
  rw [← hH]
  have hsc := hst
  obtain ⟨na, ln, lt, mk, cap, kN, fn, fk, j1, j2, j3, j4, j5, j6, j7, j8, j9, j10, j11⟩ := hsc
  refine lv_aload_n hx hb d_T_beginRows_0 rfl (lv_at hl 0 rfl) ?_
  refine lv_iload_n hx hb d_T_beginRows_1 rfl (lv_at hl 2 rfl) ?_
  refine pF (v := .int (nI wn)) hx hb hown hE hK hP hD hS 0 rfl rfl layT tyT tokT nmT 2 (by decide) w1367 rfl rfl rfl (Nat.le_of_ble_eq_true rfl) d_T_beginRows_2 (fun H locs hP hD hS => ?_)
  have hP : va_P D vwCl (TbW dA ta (TB.s_wi t wn) ++ (ws)) H := hP
  have hD : va_D A (TbW dA ta (TB.s_wi t wn) ++ (ws)) := hD
  refine lv_aload_n hx hb d_T_beginRows_5 rfl (lv_at hl 0 rfl) ?_
  refine lv_aload_n hx hb d_T_beginRows_6 rfl (lv_at hl 1 rfl) ?_
  obtain ⟨qp1, ep2⟩ := List.getElem?_of_mem (show ((sp, .inr (13, [.int kd, .int (nI pl), .long nu, .ref na, .int (nI nn), .ref ln, .ref lt, .ref mk])) : Nat × va_E) ∈ TbW dA ta (TB.s_wi t wn) ++ (ws) from (List.mem_append_right _ j1))
  refine gFN (v := .int (nI nn)) hx hb hown hE hK hP qp1 ep2 rfl layE 4 (by decide) w1499 rfl d_T_beginRows_7 ?_
  refine pF (v := .int (nI nn)) hx hb hown hE hK hP hD hS 0 rfl rfl layT tyT tokT nmT 1 (by decide) w1376 rfl rfl rfl (Nat.le_of_ble_eq_true rfl) d_T_beginRows_10 (fun H locs hP hD hS => ?_)
  have hP : va_P D vwCl (TbW dA ta (TB.s_wi (TB.s_nc t nn) wn) ++ (ws)) H := hP
  have hD : va_D A (TbW dA ta (TB.s_wi (TB.s_nc t nn) wn) ++ (ws)) := hD
  refine lv_iconst (v := 0) hx hb d_T_beginRows_13 (by decide) ?_
  refine lv_istore_n hx hb d_T_beginRows_14 rfl hl (by decide) rfl (fun ls hl => ?_)
  have hl : lv_has ls 4 [(3, .int 0), (0, .ref (ta 0)), (1, .ref sp), (2, .int (nI wn))] := hl
  have L15 : ∀ (k9 : Nat) (i : Nat) (nx : Nat → Option Nat) (i1 : i ≤ nn) (i2 : ∀ q, q < i → nx q = fn q) (hk9 : nn - i = k9), ∀ (H : Heap) (locs : List Loc) (ls : Array Slot) (hP : va_P D vwCl (TbW dA ta (TB.s_wi (TB.s_nc (TB.s_nm t nx) nn) wn) ++ (ws)) H) (hD : va_D A (TbW dA ta (TB.s_wi (TB.s_nc (TB.s_nm t nx) nn) wn) ++ (ws))) (hS : va_S A s.heap H locs) (hl : lv_has ls 4 [(3, .int (nI i)), (0, .ref (ta 0)), (1, .ref sp), (2, .int (nI wn))]), W p l e ({ frames := 1, cells := 0, slots := 0, locals := 0 } : Room) s m ([.ref (ta 0), .ref sp, .int (nI wn)] : List Value).toArray below meth c H locs 0 0 (MQ below (va_Qv (fun (u9 : (Nat → Option Nat)) => nmOk dA ws u9 nn NL) (fun (u9 : (Nat → Option Nat)) t9 => bW D A (TbW dA ta (TB.s_rc (TB.s_wi (TB.s_nc (TB.s_nm t u9) nn) wn) 0) ++ (ws)) t9) A) ([.ref (ta 0), .ref sp, .int (nI wn)] : List Value).toArray s 0 0 A) (F0 m 15 ls []) := by
    intro k9
    induction k9 using Nat.strongRecOn with
    | ind k9 ih15 =>
      intro i nx i1 i2 hk9 H locs ls hP hD hS hl
      refine lv_iload_n hx hb d_T_beginRows_15 rfl (lv_at hl 0 rfl) ?_
      refine lv_aload_n hx hb d_T_beginRows_16 rfl (lv_at hl 1 rfl) ?_
      refine gF (v := .int (nI nn)) hx hb hown hE hK hP 0 rfl rfl layT 1 (by decide) w1376 rfl d_T_beginRows_17 ?_
      refine lv_icmp_ge hx hb d_T_beginRows_20 (tgt := 41) rfl (fun g3 => ?_) (fun g3 => ?_)
      · have g3 := (nI_leI (a := nn) (b := i) (by omega) (by omega)).mp g3
        refine lv_aload_n hx hb d_T_beginRows_41 rfl (lv_at hl 1 rfl) ?_
        refine lv_iconst (v := 0) hx hb d_T_beginRows_42 (by decide) ?_
        refine pF (v := .int (nI 0)) hx hb hown hE hK hP hD hS 0 rfl rfl layT tyT tokT nmT 3 (by decide) w1368 rfl rfl rfl (Nat.le_of_ble_eq_true rfl) d_T_beginRows_43 (fun H locs hP hD hS => ?_)
        have hP : va_P D vwCl (TbW dA ta (TB.s_rc (TB.s_wi (TB.s_nc (TB.s_nm t nx) nn) wn) 0) ++ (ws)) H := hP
        have hD : va_D A (TbW dA ta (TB.s_rc (TB.s_wi (TB.s_nc (TB.s_nm t nx) nn) wn) 0) ++ (ws)) := hD
        exact rfV hx hb hr hlk hS nx (fun q hq => by obtain ⟨p9, a1, a2, a3⟩ := j5 q hq; exact ⟨p9, by rw [i2 q (by omega)]; exact a1, a2, a3⟩) hP hD (Nat.le_of_ble_eq_true rfl) (Nat.le_of_ble_eq_true rfl) d_T_beginRows_46
      · have g3 := mt (nI_leI (a := nn) (b := i) (by omega) (by omega)).mpr g3
        refine lv_aload_n hx hb d_T_beginRows_23 rfl (lv_at hl 1 rfl) ?_
        obtain ⟨p1, ep1, wp1, lp1⟩ := j5 i (by omega)
        have wpc := wp1
        obtain ⟨bp1, fp1, kp1, -⟩ := wpc
        refine gF (v := .ref (ta 1)) hx hb hown hE hK hP 0 rfl rfl layT 0 (by decide) w784 rfl d_T_beginRows_24 ?_
        refine lv_iload_n hx hb d_T_beginRows_27 rfl (lv_at hl 0 rfl) ?_
        refine lv_aload_n hx hb d_T_beginRows_28 rfl (lv_at hl 2 rfl) ?_
        obtain ⟨qp4, ep5⟩ := List.getElem?_of_mem (show ((sp, .inr (13, [.int kd, .int (nI pl), .long nu, .ref na, .int (nI nn), .ref ln, .ref lt, .ref mk])) : Nat × va_E) ∈ TbW dA ta (TB.s_wi (TB.s_nc (TB.s_nm t nx) nn) wn) ++ (ws) from (List.mem_append_right _ j1))
        refine gFN (v := .ref na) hx hb hown hE hK hP qp4 ep5 rfl layE 3 (by decide) w1500 rfl d_T_beginRows_29 ?_
        refine lv_iload_n hx hb d_T_beginRows_32 rfl (lv_at hl 0 rfl) ?_
        obtain ⟨qp6, ep7⟩ := List.getElem?_of_mem (show ((na, .inl (dA 6, cap, .inr (.inr (.inr (.inr fn))))) : Nat × va_E) ∈ TbW dA ta (TB.s_wi (TB.s_nc (TB.s_nm t nx) nn) wn) ++ (ws) from (List.mem_append_right _ j2))
        refine nqld (f := fn) (n := cap) hx hb hK hP (qp6) 6 ep7 rfl (i) (by omega) (by omega) ep1 d_T_beginRows_33 ?_
        obtain ⟨qp8, ep9⟩ := List.getElem?_of_mem (show ((p1, .inr (10, [.ref bp1])) : Nat × va_E) ∈ TbW dA ta (TB.s_wi (TB.s_nc (TB.s_nm t nx) nn) wn) ++ (ws) from (List.mem_append_right _ kp1))
        refine nqst (r := ("SeriesVault$Word", TW, 1)) (f := nx) (n := 6) hx hb hK hP hD hS (1) 6 (qp8) 10 rfl rfl ep9 rfl (i) (by omega) (by decide) d_T_beginRows_34 (fun H locs hP hD hS => ?_)
        have hP : va_P D vwCl (TbW dA ta (TB.s_wi (TB.s_nc (TB.s_nm t (va_up nx i (some p1))) nn) wn) ++ (ws)) H := hP
        have hD : va_D A (TbW dA ta (TB.s_wi (TB.s_nc (TB.s_nm t (va_up nx i (some p1))) nn) wn) ++ (ws)) := hD
        refine lv_iinc (k := 0) (v := nI (i + 1)) hx hb d_T_beginRows_35 hl rfl (iincN (i) 1 1 (by decide)) (by decide) rfl (fun ls hl => ?_)
        have hl : lv_has ls 4 [(3, .int (nI (i + 1))), (0, .ref (ta 0)), (1, .ref sp), (2, .int (nI wn))] := hl
        refine lv_goto hx hb d_T_beginRows_38 (tgt := 15) rfl ?_
        exact ih15 _ (by omega) (i + 1) (va_up nx i (some p1)) (by omega) (fun q hq => up_lt i2 ep1 hq) rfl H _ ls hP hD hS (lv_sub hl [0, 1, 2, 3] rfl)
  exact L15 _ 0 t.nm (Nat.zero_le _) (fun q h => absurd h (Nat.not_lt_zero q)) rfl H _ ls hP hD hS (lv_sub hl [0, 1, 2, 3] rfl)
end
