set_option maxHeartbeats 4000000 in
set_option maxRecDepth 100000 in
theorem v_Ladd3_0W (l : Launch) (D : va_G) (dA : Nat → ClassId) (sz : Nat) (e0 mi : Nat) (ws : va_W) (a : Nat) (mc : Int32) (v : Nat) (fs : List Value) (mo : (v, .inr (10, fs)) ∈ ws) : Met l ⟨"java/util/ArrayList", "add", "(Ljava/lang/Object;[Ljava/lang/Object;I)V"⟩ [Cond.code ⟨"java/util/ArrayList", "add", "(Ljava/lang/Object;[Ljava/lang/Object;I)V"⟩ prog_37_method_24_code 4 none] { frames := 3, cells := 1, slots := 10, locals := 57 } (pCy D dA e0 mi [.ref a, .ref v, .ref e0, .int 0] ([(a, .inr (6, [.ref e0, .int 0, .int mc]))] ++ (ws)) sz) (va_Qv (fun (u9 : Nat) => True) (fun (u9 : Nat) t9 => bW D (va_A ([(a, .inr (6, [.ref e0, .int 0, .int mc]))] ++ (ws)) sz) ([(u9, .inl (dA 7, 10, .inr (.inr (.inr (.inr (va_up (fun _ => none) 0 (some v)))))))] ++ ([(a, .inr (6, [.ref u9, .int 1, .int mc]))] ++ (ws))) t9) (va_A ([(a, .inr (6, [.ref e0, .int 0, .int mc]))] ++ (ws)) sz)) 1 10 (va_A ([(a, .inr (6, [.ref e0, .int 0, .int mc]))] ++ (ws)) sz) := by
  refine mkY (y := ⟨"java/util/ArrayList", "add", "(Ljava/lang/Object;[Ljava/lang/Object;I)V"⟩) (cc := prog_37_method_24_code) (maxL := 4) (av := [.ref a, .ref v, .ref e0, .int 0]) (ws := [(a, .inr (6, [.ref e0, .int 0, .int mc]))] ++ (ws)) (sz := sz) (Qc := fun A => va_Qv (fun (u9 : Nat) => True) (fun (u9 : Nat) t9 => bW D A ([(u9, .inl (dA 7, 10, .inr (.inr (.inr (.inr (va_up (fun _ => none) 0 (some v)))))))] ++ ([(a, .inr (6, [.ref u9, .int 1, .int mc]))] ++ (ws))) t9) A) (by decide) (Nat.le_of_ble_eq_true rfl) ?_
  intro A p e s m below meth c ls hsz hZ hT hM hB
  obtain ⟨hx, hb, hr, hml, hown, hin, hlk, hE, hK, hP, hD, hS, hA, hN, hl⟩ := hB
  have hown : s.vm.findClass "java/util/ArrayList" = some m.cls := hown
  have hl : lv_has ls 4 [(0, .ref a), (1, .ref v), (2, .ref e0), (3, .int 0)] := hl
  obtain ⟨H, hH⟩ : ∃ z, z = s.heap := ⟨_, rfl⟩
  have hP : va_P D vwCl ([(a, .inr (6, [.ref e0, .int 0, .int mc]))] ++ (ws)) H := by rw [hH]; exact hP
  have hS : va_S A s.heap H [] := by rw [hH]; exact hS
  rw [← hH]
  refine lv_iload_n hx hb d_L_add_faf_0 rfl (lv_at hl 3 rfl) ?_
  refine lv_aload_n hx hb d_L_add_faf_1 rfl (lv_at hl 2 rfl) ?_
  refine va_tlen (v := 0) hx hb hT hS (by decide) d_L_add_faf_2 ?_
  refine lv_icmp_ne hx hb d_L_add_faf_3 (tgt := 11) rfl (fun h9 => absurd (by decide) h9) (fun _ => ?_)
  refine lv_aload_n hx hb d_L_add_faf_6 rfl (lv_at hl 0 rfl) ?_
  refine jkR (wr := []) (rnVy (As := []) (rest := []) hx hb hml hown hE hK hZ hT hM hS (hN _ _ hS) hP hD (v_Lgrow_0 l D dA H.size e0 mi ws a mc) (q0 := 0) rfl rfl w773 w772 w774 w775 w680 rfl rfl ⟨⟨by decide, by decide⟩, rfl⟩ ⟨(Nat.le_of_ble_eq_true rfl), (Nat.le_of_ble_eq_true rfl)⟩ rfl hl.1 rfl (Nat.le_of_ble_eq_true rfl) d_L_add_faf_7 ⟨(show 0 + 1 ≤ 1 by omega), (show 0 + 10 ≤ 10 by omega)⟩) hP hD hS hA (fun u1 b H locs hp9 hP hD hS => ?_)
  have hP : va_P D vwCl ([(b, .inl (dA 7, 10, .inr (.inr (.inr (.inr (fun _ => none))))))] ++ ([(a, .inr (6, [.ref b, .int 0, .int mc]))] ++ (ws))) H := hP
  have hD : va_D A ([(b, .inl (dA 7, 10, .inr (.inr (.inr (.inr (fun _ => none))))))] ++ ([(a, .inr (6, [.ref b, .int 0, .int mc]))] ++ (ws))) := hD
  refine lv_astore_n hx hb d_L_add_faf_10 rfl hl (by decide) rfl (fun ls hl => ?_)
  have hl : lv_has ls 4 [(2, .ref b), (0, .ref a), (1, .ref v), (3, .int 0)] := hl
  refine lv_aload_n hx hb d_L_add_faf_11 rfl (lv_at hl 0 rfl) ?_
  refine lv_iload_n hx hb d_L_add_faf_12 rfl (lv_at hl 3 rfl) ?_
  refine lv_aload_n hx hb d_L_add_faf_13 rfl (lv_at hl 2 rfl) ?_
  obtain ⟨qp2, ep3⟩ := List.getElem?_of_mem (show ((v, .inr (10, fs)) : Nat × va_E) ∈ [(b, .inl (dA 7, 10, .inr (.inr (.inr (.inr (fun _ => none))))))] ++ ([(a, .inr (6, [.ref b, .int 0, .int mc]))] ++ (ws)) from (List.mem_append_right _ (List.mem_append_right _ mo)))
  refine nqstO (E := "java/lang/Object") (r := ("SeriesVault$Word", TW, 1)) (f := (fun _ => none)) (n := 10) hx hb hK hP hD hS (0) 7 (qp2) 10 rfl rfl (show va_Nw (.castable "SeriesVault$Word" "java/lang/Object") s from hE.1 _ w1456) ep3 rfl (0) (by omega) (by decide) d_L_add_faf_14 (fun H locs hP hD hS => ?_)
  have hP : va_P D vwCl ([(b, .inl (dA 7, 10, .inr (.inr (.inr (.inr (va_up (fun _ => none) 0 (some v)))))))] ++ ([(a, .inr (6, [.ref b, .int 0, .int mc]))] ++ (ws))) H := hP
  have hD : va_D A ([(b, .inl (dA 7, 10, .inr (.inr (.inr (.inr (va_up (fun _ => none) 0 (some v)))))))] ++ ([(a, .inr (6, [.ref b, .int 0, .int mc]))] ++ (ws))) := hD
  refine lv_aload_n hx hb d_L_add_faf_15 rfl (lv_at hl 1 rfl) ?_
  refine lv_iload_n hx hb d_L_add_faf_16 rfl (lv_at hl 3 rfl) ?_
  refine lv_iconst (v := 1) hx hb d_L_add_faf_17 (by decide) ?_
  refine lv_iadd hx hb d_L_add_faf_18 (tpi (y := 1) (by decide) ?_)
  refine tpi (y := 1) (by decide) ?_
  refine pF (v := .int 1) hx hb hown hE hK hP hD hS 1 rfl rfl layL tyL tokL nmL 1 (by decide) w657 rfl rfl rfl (Nat.le_of_ble_eq_true rfl) d_L_add_faf_19 (fun H locs hP hD hS => ?_)
  have hP : va_P D vwCl ([(b, .inl (dA 7, 10, .inr (.inr (.inr (.inr (va_up (fun _ => none) 0 (some v)))))))] ++ ([(a, .inr (6, [.ref b, .int 1, .int mc]))] ++ (ws))) H := hP
  have hD : va_D A ([(b, .inl (dA 7, 10, .inr (.inr (.inr (.inr (va_up (fun _ => none) 0 (some v)))))))] ++ ([(a, .inr (6, [.ref b, .int 1, .int mc]))] ++ (ws))) := hD
  exact rfV hx hb hr hlk hS b trivial hP hD (show 0 + 1 ≤ 1 by omega) (show 0 + 10 ≤ 10 by omega) d_L_add_faf_22
set_option maxHeartbeats 4000000 in
set_option maxRecDepth 100000 in
theorem v_Ladd_0W (l : Launch) (D : va_G) (dA : Nat → ClassId) (sz : Nat) (e0 mi : Nat) (ws : va_W) (a : Nat) (mc : Int32) (v : Nat) (fs : List Value) (mo : (v, .inr (10, fs)) ∈ ws) : Met l ⟨"java/util/ArrayList", "add", "(Ljava/lang/Object;)Z"⟩ [Cond.code ⟨"java/util/ArrayList", "add", "(Ljava/lang/Object;)Z"⟩ prog_37_method_25_code 2 (some FieldType.boolean)] { frames := 4, cells := 1, slots := 10, locals := 80 } (pCy D dA e0 mi [.ref a, .ref v] ([(a, .inr (6, [.ref e0, .int 0, .int mc]))] ++ (ws)) sz) (va_Qi (fun (r9 : Int32) (u9 : Nat) => r9 = 1) (fun (u9 : Nat) t9 => bW D (va_A ([(a, .inr (6, [.ref e0, .int 0, .int mc]))] ++ (ws)) sz) ([(u9, .inl (dA 7, 10, .inr (.inr (.inr (.inr (va_up (fun _ => none) 0 (some v)))))))] ++ ([(a, .inr (6, [.ref u9, .int 1, .int (mc + 1)]))] ++ (ws))) t9) (va_A ([(a, .inr (6, [.ref e0, .int 0, .int mc]))] ++ (ws)) sz)) 1 10 (va_A ([(a, .inr (6, [.ref e0, .int 0, .int mc]))] ++ (ws)) sz) := by
  refine mkY (y := ⟨"java/util/ArrayList", "add", "(Ljava/lang/Object;)Z"⟩) (cc := prog_37_method_25_code) (maxL := 2) (av := [.ref a, .ref v]) (ws := [(a, .inr (6, [.ref e0, .int 0, .int mc]))] ++ (ws)) (sz := sz) (Qc := fun A => va_Qi (fun (r9 : Int32) (u9 : Nat) => r9 = 1) (fun (u9 : Nat) t9 => bW D A ([(u9, .inl (dA 7, 10, .inr (.inr (.inr (.inr (va_up (fun _ => none) 0 (some v)))))))] ++ ([(a, .inr (6, [.ref u9, .int 1, .int (mc + 1)]))] ++ (ws))) t9) A) (by decide) (Nat.le_of_ble_eq_true rfl) ?_
  intro A p e s m below meth c ls hsz hZ hT hM hB
  obtain ⟨hx, hb, hr, hml, hown, hin, hlk, hE, hK, hP, hD, hS, hA, hN, hl⟩ := hB
  have hown : s.vm.findClass "java/util/ArrayList" = some m.cls := hown
  have hl : lv_has ls 2 [(0, .ref a), (1, .ref v)] := hl
  obtain ⟨H, hH⟩ : ∃ z, z = s.heap := ⟨_, rfl⟩
  have hP : va_P D vwCl ([(a, .inr (6, [.ref e0, .int 0, .int mc]))] ++ (ws)) H := by rw [hH]; exact hP
  have hS : va_S A s.heap H [] := by rw [hH]; exact hS
  rw [← hH]
  refine lv_aload_n hx hb d_L_add_9ae_0 rfl (lv_at hl 0 rfl) ?_
  refine lv_dup hx hb d_L_add_9ae_1 rfl ?_
  refine gFU (v := .int mc) hx hb hown hE hK hP 0 rfl rfl layL 2 (by decide) w654 w655 rfl d_L_add_9ae_2 ?_
  refine lv_iconst (v := 1) hx hb d_L_add_9ae_5 (by decide) ?_
  refine lv_iadd hx hb d_L_add_9ae_6 ?_
  refine pFU (v := .int (mc + 1)) hx hb hown hE hK hP hD hS 0 rfl rfl layL tyL tokL nmL 2 (by decide) w654 w655 rfl rfl rfl (Nat.le_of_ble_eq_true rfl) d_L_add_9ae_7 (fun H locs hP hD hS => ?_)
  have hP : va_P D vwCl ([(a, .inr (6, [.ref e0, .int 0, .int (mc + 1)]))] ++ (ws)) H := hP
  have hD : va_D A ([(a, .inr (6, [.ref e0, .int 0, .int (mc + 1)]))] ++ (ws)) := hD
  refine lv_aload_n hx hb d_L_add_9ae_10 rfl (lv_at hl 0 rfl) ?_
  refine lv_aload_n hx hb d_L_add_9ae_11 rfl (lv_at hl 1 rfl) ?_
  refine lv_aload_n hx hb d_L_add_9ae_12 rfl (lv_at hl 0 rfl) ?_
  refine gF (v := .ref e0) hx hb hown hE hK hP 0 rfl rfl layL 0 (by decide) w656 rfl d_L_add_9ae_13 ?_
  refine lv_aload_n hx hb d_L_add_9ae_16 rfl (lv_at hl 0 rfl) ?_
  refine gF (v := .int 0) hx hb hown hE hK hP 0 rfl rfl layL 1 (by decide) w657 rfl d_L_add_9ae_17 ?_
  refine jkV (wr := []) (rnVy (As := [.ref v, .ref e0, .int 0]) (rest := []) hx hb hml hown hE hK hZ hT hM hS (hN _ _ hS) hP hD (v_Ladd3_0W l D dA H.size e0 mi ws a (mc + 1) v fs mo) (q0 := 0) rfl rfl w778 w777 w779 w780 w680 rfl rfl ⟨⟨by decide, by decide⟩, rfl⟩ ⟨(Nat.le_of_ble_eq_true rfl), (Nat.le_of_ble_eq_true rfl)⟩ rfl hl.1 rfl (Nat.le_of_ble_eq_true rfl) d_L_add_9ae_20 ⟨(show 0 + 1 ≤ 1 by omega), (show 0 + 10 ≤ 10 by omega)⟩) hP hD hS hA (fun u2 H locs hp9 hP hD hS => ?_)
  obtain ⟨b, h9u⟩ : ∃ z9, z9 = u2 := ⟨_, rfl⟩
  subst h9u
  have hP : va_P D vwCl ([(b, .inl (dA 7, 10, .inr (.inr (.inr (.inr (va_up (fun _ => none) 0 (some v)))))))] ++ ([(a, .inr (6, [.ref b, .int 1, .int (mc + 1)]))] ++ (ws))) H := hP
  have hD : va_D A ([(b, .inl (dA 7, 10, .inr (.inr (.inr (.inr (va_up (fun _ => none) 0 (some v)))))))] ++ ([(a, .inr (6, [.ref b, .int 1, .int (mc + 1)]))] ++ (ws))) := hD
  refine lv_iconst (v := 1) hx hb d_L_add_9ae_23 (by decide) ?_
  exact rfZ hx hb hr (bI_nar true) hlk hS b rfl hP hD (show 0 + 1 ≤ 1 by omega) (show 0 + 10 ≤ 10 by omega) d_L_add_9ae_24
theorem d_Arrays_copyOf_918_0 : decode prog_38_method_120_code 0 = .ok (.aload_n 2, 1) := by decide +kernel
theorem d_Arrays_copyOf_918_1 : decode prog_38_method_120_code 1 = .ok (.ldc 110, 2) := by decide +kernel
theorem d_Arrays_copyOf_918_3 : decode prog_38_method_120_code 3 = .ok (.if_acmp .ne 10, 3) := by decide +kernel
theorem d_Arrays_copyOf_918_6 : decode prog_38_method_120_code 6 = .ok (.iload_n 1, 1) := by decide +kernel
theorem d_Arrays_copyOf_918_7 : decode prog_38_method_120_code 7 = .ok (.anewarray 2, 3) := by decide +kernel
theorem d_Arrays_copyOf_918_10 : decode prog_38_method_120_code 10 = .ok (.goto 14, 3) := by decide +kernel
theorem d_Arrays_copyOf_918_24 : decode prog_38_method_120_code 24 = .ok (.astore_n 3, 1) := by decide +kernel
theorem d_Arrays_copyOf_918_25 : decode prog_38_method_120_code 25 = .ok (.aload_n 0, 1) := by decide +kernel
theorem d_Arrays_copyOf_918_26 : decode prog_38_method_120_code 26 = .ok (.iconst 0, 1) := by decide +kernel
theorem d_Arrays_copyOf_918_27 : decode prog_38_method_120_code 27 = .ok (.aload_n 3, 1) := by decide +kernel
theorem d_Arrays_copyOf_918_28 : decode prog_38_method_120_code 28 = .ok (.iconst 0, 1) := by decide +kernel
theorem d_Arrays_copyOf_918_29 : decode prog_38_method_120_code 29 = .ok (.aload_n 0, 1) := by decide +kernel
theorem d_Arrays_copyOf_918_30 : decode prog_38_method_120_code 30 = .ok (.arraylength, 1) := by decide +kernel
theorem d_Arrays_copyOf_918_31 : decode prog_38_method_120_code 31 = .ok (.iload_n 1, 1) := by decide +kernel
theorem d_Arrays_copyOf_918_32 : decode prog_38_method_120_code 32 = .ok (.invokestatic 304, 3) := by decide +kernel
theorem d_Arrays_copyOf_918_35 : decode prog_38_method_120_code 35 = .ok (.invokestatic 150, 3) := by decide +kernel
theorem d_Arrays_copyOf_918_38 : decode prog_38_method_120_code 38 = .ok (.aload_n 3, 1) := by decide +kernel
theorem d_Arrays_copyOf_918_39 : decode prog_38_method_120_code 39 = .ok (.areturn, 1) := by decide +kernel
theorem w1460 : Cond.classLink "java/util/Arrays" 110 "[Ljava/lang/Object;" ∈ aW := aw_of (tb_2 (List.mem_of_getElem? (i := 138) rfl)) rfl
theorem w1461 : Cond.classLink "java/util/Arrays" 2 "java/lang/Object" ∈ aW := aw_of (tb_2 (List.mem_of_getElem? (i := 140) rfl)) rfl
set_option maxHeartbeats 4000000 in
set_option maxRecDepth 100000 in
theorem v_ocopy3_W (l : Launch) (D : va_G) (dA : Nat → ClassId) (sz : Nat) (e0 mi : Nat) (ws : va_W) (arr : Nat) (k : Nat) (f : Nat → Option Nat) (n : Nat) (m1 : (arr, .inl (dA 7, k, .inr (.inr (.inr (.inr f))))) ∈ ws) (hel : ∀ i : Nat, i < k → ∀ y : Nat, f i = some y → ∃ vs : List Value, (y, .inr (10, vs)) ∈ ws) (h1 : k ≤ n) (h2 : n ≤ 131072) : Met l ⟨"java/util/Arrays", "copyOf", "([Ljava/lang/Object;ILjava/lang/Class;)[Ljava/lang/Object;"⟩ [Cond.code ⟨"java/util/Arrays", "copyOf", "([Ljava/lang/Object;ILjava/lang/Class;)[Ljava/lang/Object;"⟩ prog_38_method_120_code 4 (some (FieldType.array (FieldType.object "java/lang/Object")))] { frames := 1, cells := 1, slots := n, locals := 40 } (pCy D dA e0 mi [.ref arr, .int (nI n), .ref mi] (ws) sz) (va_Qr (fun (_ : (Nat → Option Nat)) => True) (fun (u9 : (Nat → Option Nat)) (r9 : Nat) t9 => (u9 = cpF f k) ∧ bW D (va_A (ws) sz) ([(r9, .inl (dA 7, n, .inr (.inr (.inr (.inr u9)))))] ++ (ws)) t9) (va_A (ws) sz)) 1 n (va_A (ws) sz) := by
  refine mkY (y := ⟨"java/util/Arrays", "copyOf", "([Ljava/lang/Object;ILjava/lang/Class;)[Ljava/lang/Object;"⟩) (cc := prog_38_method_120_code) (maxL := 4) (av := [.ref arr, .int (nI n), .ref mi]) (ws := ws) (sz := sz) (Qc := fun A => va_Qr (fun (_ : (Nat → Option Nat)) => True) (fun (u9 : (Nat → Option Nat)) (r9 : Nat) t9 => (u9 = cpF f k) ∧ bW D A ([(r9, .inl (dA 7, n, .inr (.inr (.inr (.inr u9)))))] ++ (ws)) t9) A) (by decide) (Nat.le_of_ble_eq_true rfl) ?_
  intro A p e s m below meth c ls hsz hZ hT hM hB
  obtain ⟨hx, hb, hr, hml, hown, hin, hlk, hE, hK, hP, hD, hS, hA, hN, hl⟩ := hB
  have hown : s.vm.findClass "java/util/Arrays" = some m.cls := hown
  have hl : lv_has ls 4 [(0, .ref arr), (1, .int (nI n)), (2, .ref mi)] := hl
  obtain ⟨H, hH⟩ : ∃ z, z = s.heap := ⟨_, rfl⟩
  have hP : va_P D vwCl (ws) H := by rw [hH]; exact hP
  have hS : va_S A s.heap H [] := by rw [hH]; exact hS
  rw [← hH]
  refine lv_aload_n hx hb d_Arrays_copyOf_918_0 rfl (lv_at hl 2 rfl) ?_
  refine va_ldcM hx hb hown (hE.t w1460 rfl) hM d_Arrays_copyOf_918_1 ?_
  refine lv_acmp_ne (rx := some mi) (ry := some mi) hx hb d_Arrays_copyOf_918_3 (tgt := 13) rfl (fun h9 => absurd rfl h9) (fun _ => ?_)
  refine lv_iload_n hx hb d_Arrays_copyOf_918_6 rfl (lv_at hl 1 rfl) ?_
  refine nnQ (N' := n) hx hb hown hE w1461 w767 hK hP hD hS hA 7 rfl (by omega) (show n * 4 ≤ 536870912 by omega) (show 0 + 1 ≤ 1 by omega) (show 0 + n ≤ n by omega) d_Arrays_copyOf_918_7 (fun r9 H hP hD hS => ?_)
  have hP : va_P D vwCl ([(r9, .inl (dA 7, n, .inr (.inr (.inr (.inr (fun _ => none))))))] ++ (ws)) H := hP
  have hD : va_D A ([(r9, .inl (dA 7, n, .inr (.inr (.inr (.inr (fun _ => none))))))] ++ (ws)) := hD
  refine lv_goto hx hb d_Arrays_copyOf_918_10 (tgt := 24) rfl ?_
  refine lv_astore_n hx hb d_Arrays_copyOf_918_24 rfl hl (by decide) rfl (fun ls hl => ?_)
  have hl : lv_has ls 4 [(3, .ref r9), (0, .ref arr), (1, .int (nI n)), (2, .ref mi)] := hl
  refine lv_aload_n hx hb d_Arrays_copyOf_918_25 rfl (lv_at hl 1 rfl) ?_
  refine lv_iconst (v := 0) hx hb d_Arrays_copyOf_918_26 (by decide) ?_
  refine lv_aload_n hx hb d_Arrays_copyOf_918_27 rfl (lv_at hl 0 rfl) ?_
  refine lv_iconst (v := 0) hx hb d_Arrays_copyOf_918_28 (by decide) ?_
  refine lv_aload_n hx hb d_Arrays_copyOf_918_29 rfl (lv_at hl 1 rfl) ?_
  obtain ⟨qp1, ep2⟩ := List.getElem?_of_mem (show ((arr, .inl (dA 7, k, .inr (.inr (.inr (.inr f))))) : Nat × va_E) ∈ [(r9, .inl (dA 7, n, .inr (.inr (.inr (.inr (fun _ => none))))))] ++ (ws) from (List.mem_append_right _ m1))
  refine va_alen (v := nI k) hx hb hK hP (qp1) 7 ep2 rfl rfl d_Arrays_copyOf_918_30 ?_
  refine lv_iload_n hx hb d_Arrays_copyOf_918_31 rfl (lv_at hl 2 rfl) ?_
  refine va_mmin hx hb (hml.trans hl.1.symm) hown (hE.t w1109 rfl) (hE.t w548 rfl) (hE.t w549 rfl) (hE.t w550 rfl) (Nat.le_of_ble_eq_true rfl) (Nat.le_of_ble_eq_true rfl) (show 0 + 1 ≤ 1 by omega) (show 0 + n ≤ n by omega) d_Arrays_copyOf_918_32 (tpi (y := nI (min k n)) (nI_min (a := k) (b := n) (by omega) (by omega)) ?_)
  obtain ⟨qp3, ep4⟩ := List.getElem?_of_mem (show ((arr, .inl (dA 7, k, .inr (.inr (.inr (.inr f))))) : Nat × va_E) ∈ [(r9, .inl (dA 7, n, .inr (.inr (.inr (.inr (fun _ => none))))))] ++ (ws) from (List.mem_append_right _ m1))
  refine ncpyO (E := "java/lang/Object") (r := ("SeriesVault$Word", TW, 1)) (f := f) (g := (fun _ => none)) (n0 := k) (n1 := n) hx hb (hml.trans hl.1.symm) hown (hE.t w1110 rfl) (hE.t w720 rfl) (hE.t w721 rfl) (hE.t w722 rfl) hK hP hD hS (qp3) (0) 7 10 (show va_Nw (.castable "SeriesVault$Word" "java/lang/Object") s from hE.1 _ w1456) ep4 rfl rfl rfl (0) (0) (min k n) (by omega) (by omega) (by omega) (by omega) (by omega) (fun i hi y hy => by obtain ⟨vs, hv⟩ := hel i (by omega) y (by rw [Nat.zero_add] at hy; exact hy); exact ⟨vs, (List.mem_append_right _ hv)⟩) (Nat.le_of_ble_eq_true rfl) (Nat.le_of_ble_eq_true rfl) d_Arrays_copyOf_918_35 (fun H locs hP hD hS => ?_)
  have hP : va_P D vwCl ([(r9, .inl (dA 7, n, .inr (.inr (.inr (.inr (va_cpy f (fun _ => none) 0 0 (min k n)))))))] ++ (ws)) H := hP
  have hD : va_D A ([(r9, .inl (dA 7, n, .inr (.inr (.inr (.inr (va_cpy f (fun _ => none) 0 0 (min k n)))))))] ++ (ws)) := hD
  refine lv_aload_n hx hb d_Arrays_copyOf_918_38 rfl (lv_at hl 0 rfl) ?_
  exact rkR hx hb hr (Or.inr ⟨_, rfl⟩) hlk hS (va_cpy f (fun _ => none) 0 0 (min k n)) (cpF_e h1) hP hD (show 0 + 1 ≤ 1 by omega) (show 0 + n ≤ n by omega) d_Arrays_copyOf_918_39
theorem d_Arrays_copyOf_5ca_0 : decode prog_38_method_119_code 0 = .ok (.aload_n 0, 1) := by decide +kernel
theorem d_Arrays_copyOf_5ca_1 : decode prog_38_method_119_code 1 = .ok (.iload_n 1, 1) := by decide +kernel
theorem d_Arrays_copyOf_5ca_2 : decode prog_38_method_119_code 2 = .ok (.aload_n 0, 1) := by decide +kernel
theorem d_Arrays_copyOf_5ca_3 : decode prog_38_method_119_code 3 = .ok (.invokevirtual 86, 3) := by decide +kernel
theorem d_Arrays_copyOf_5ca_6 : decode prog_38_method_119_code 6 = .ok (.invokestatic 300, 3) := by decide +kernel
theorem d_Arrays_copyOf_5ca_9 : decode prog_38_method_119_code 9 = .ok (.areturn, 1) := by decide +kernel
theorem w1462 : Cond.methodLink "java/util/Arrays" 86 ⟨"java/lang/Object", "getClass", "()Ljava/lang/Class;"⟩ ∈ aW := aw_of (tb_2 (List.mem_of_getElem? (i := 110) rfl)) rfl
theorem w1463 : Cond.declares ⟨"java/lang/Object", "getClass", "()Ljava/lang/Class;"⟩ ∈ aW := aw_of (tb_11 (List.mem_of_getElem? (i := 95) rfl)) rfl
theorem w1464 : Cond.selects "[Ljava/lang/Object;" ⟨"java/lang/Object", "getClass", "()Ljava/lang/Class;"⟩ ⟨"java/lang/Object", "getClass", "()Ljava/lang/Class;"⟩ ∈ aW := aw_of (tb_11 (List.mem_of_getElem? (i := 94) rfl)) rfl
theorem w1465 : Cond.instanceMethod ⟨"java/lang/Object", "getClass", "()Ljava/lang/Class;"⟩ ∈ aW := aw_of (tb_2 (List.mem_of_getElem? (i := 111) rfl)) rfl
theorem w1466 : Cond.native ⟨"java/lang/Object", "getClass", "()Ljava/lang/Class;"⟩ ∈ aW := aw_of (tb_2 (List.mem_of_getElem? (i := 134) rfl)) rfl
theorem w1467 : Cond.methodLink "java/util/Arrays" 300 ⟨"java/util/Arrays", "copyOf", "([Ljava/lang/Object;ILjava/lang/Class;)[Ljava/lang/Object;"⟩ ∈ aW := aw_of (tb_2 (List.mem_of_getElem? (i := 135) rfl)) rfl
theorem w1468 : Cond.code ⟨"java/util/Arrays", "copyOf", "([Ljava/lang/Object;ILjava/lang/Class;)[Ljava/lang/Object;"⟩ prog_38_method_120_code 4 (some (FieldType.array (FieldType.object "java/lang/Object"))) ∈ aW := aw_of (tb_2 (List.mem_of_getElem? (i := 137) rfl)) rfl
theorem w1469 : Cond.static ⟨"java/util/Arrays", "copyOf", "([Ljava/lang/Object;ILjava/lang/Class;)[Ljava/lang/Object;"⟩ ∈ aW := aw_of (tb_2 (List.mem_of_getElem? (i := 136) rfl)) rfl
set_option maxHeartbeats 4000000 in
set_option maxRecDepth 100000 in
theorem v_ocopy_W (l : Launch) (D : va_G) (dA : Nat → ClassId) (sz : Nat) (e0 mi : Nat) (ws : va_W) (arr : Nat) (k : Nat) (f : Nat → Option Nat) (n : Nat) (m1 : (arr, .inl (dA 7, k, .inr (.inr (.inr (.inr f))))) ∈ ws) (hel : ∀ i : Nat, i < k → ∀ y : Nat, f i = some y → ∃ vs : List Value, (y, .inr (10, vs)) ∈ ws) (h1 : k ≤ n) (h2 : n ≤ 131072) : Met l ⟨"java/util/Arrays", "copyOf", "([Ljava/lang/Object;I)[Ljava/lang/Object;"⟩ [Cond.code ⟨"java/util/Arrays", "copyOf", "([Ljava/lang/Object;I)[Ljava/lang/Object;"⟩ prog_38_method_119_code 2 (some (FieldType.array (FieldType.object "java/lang/Object")))] { frames := 2, cells := 1, slots := n, locals := 63 } (pCy D dA e0 mi [.ref arr, .int (nI n)] (ws) sz) (va_Qr (fun (_ : (Nat → Option Nat)) => True) (fun (u9 : (Nat → Option Nat)) (r9 : Nat) t9 => (u9 = cpF f k) ∧ bW D (va_A (ws) sz) ([(r9, .inl (dA 7, n, .inr (.inr (.inr (.inr u9)))))] ++ (ws)) t9) (va_A (ws) sz)) 1 n (va_A (ws) sz) := by
  refine mkY (y := ⟨"java/util/Arrays", "copyOf", "([Ljava/lang/Object;I)[Ljava/lang/Object;"⟩) (cc := prog_38_method_119_code) (maxL := 2) (av := [.ref arr, .int (nI n)]) (ws := ws) (sz := sz) (Qc := fun A => va_Qr (fun (_ : (Nat → Option Nat)) => True) (fun (u9 : (Nat → Option Nat)) (r9 : Nat) t9 => (u9 = cpF f k) ∧ bW D A ([(r9, .inl (dA 7, n, .inr (.inr (.inr (.inr u9)))))] ++ (ws)) t9) A) (by decide) (Nat.le_of_ble_eq_true rfl) ?_
  intro A p e s m below meth c ls hsz hZ hT hM hB
  obtain ⟨hx, hb, hr, hml, hown, hin, hlk, hE, hK, hP, hD, hS, hA, hN, hl⟩ := hB
  have hown : s.vm.findClass "java/util/Arrays" = some m.cls := hown
  have hl : lv_has ls 2 [(0, .ref arr), (1, .int (nI n))] := hl
  obtain ⟨H, hH⟩ : ∃ z, z = s.heap := ⟨_, rfl⟩
  have hP : va_P D vwCl (ws) H := by rw [hH]; exact hP
  have hS : va_S A s.heap H [] := by rw [hH]; exact hS
  rw [← hH]
  refine lv_aload_n hx hb d_Arrays_copyOf_5ca_0 rfl (lv_at hl 0 rfl) ?_
  refine lv_iload_n hx hb d_Arrays_copyOf_5ca_1 rfl (lv_at hl 1 rfl) ?_
  refine lv_aload_n hx hb d_Arrays_copyOf_5ca_2 rfl (lv_at hl 0 rfl) ?_
  obtain ⟨qp1, ep2⟩ := List.getElem?_of_mem (show ((arr, .inl (dA 7, k, .inr (.inr (.inr (.inr f))))) : Nat × va_E) ∈ ws from m1)
  refine ngetC hx hb (hml.trans hl.1.symm) hown hE w1462 w1463 w1464 w1465 w1466 hM hK hP (qp1) ep2 (Nat.le_of_ble_eq_true rfl) (Nat.le_of_ble_eq_true rfl) d_Arrays_copyOf_5ca_3 ?_
  refine jkR (wr := []) (rnSy (As := [.ref arr, .int (nI n), .ref mi]) (rest := []) hx hb hml hown hE hK hZ hT hM hS (hN _ _ hS) hP hD (v_ocopy3_W l D dA H.size e0 mi ws arr k f n m1 hel (show k ≤ n from by omega) (show n ≤ 131072 from by omega)) w1468 w1467 w1469 w712 rfl rfl ⟨⟨by decide, by decide⟩, rfl⟩ ⟨(Nat.le_of_ble_eq_true rfl), (Nat.le_of_ble_eq_true rfl)⟩ rfl hl.1 rfl (Nat.le_of_ble_eq_true rfl) d_Arrays_copyOf_5ca_6 ⟨(show 0 + 1 ≤ 1 by omega), (show 0 + n ≤ n by omega)⟩) hP hD hS hA (fun u3 r9 H locs hp9 hP hD hS => ?_)
  obtain ⟨gx, h9u⟩ : ∃ z9, z9 = u3 := ⟨_, rfl⟩
  subst h9u
  have hP : va_P D vwCl ([(r9, .inl (dA 7, n, .inr (.inr (.inr (.inr gx)))))] ++ (ws)) H := hP
  have hD : va_D A ([(r9, .inl (dA 7, n, .inr (.inr (.inr (.inr gx)))))] ++ (ws)) := hD
  have f_e_4 := hp9
  exact rkR hx hb hr (Or.inr ⟨_, rfl⟩) hlk hS gx f_e_4 hP hD (show 0 + 1 ≤ 1 by omega) (show 0 + n ≤ n by omega) d_Arrays_copyOf_5ca_9
theorem d_L_grow_6cd_20 : decode prog_37_method_6_code 20 = .ok (.iload_n 2, 1) := by decide +kernel
theorem d_L_grow_6cd_21 : decode prog_37_method_6_code 21 = .ok (.iload_n 1, 1) := by decide +kernel
theorem d_L_grow_6cd_22 : decode prog_37_method_6_code 22 = .ok (.iload_n 2, 1) := by decide +kernel
theorem d_L_grow_6cd_23 : decode prog_37_method_6_code 23 = .ok (.isub, 1) := by decide +kernel
theorem d_L_grow_6cd_24 : decode prog_37_method_6_code 24 = .ok (.iload_n 2, 1) := by decide +kernel
theorem d_L_grow_6cd_25 : decode prog_37_method_6_code 25 = .ok (.iconst 1, 1) := by decide +kernel
theorem d_L_grow_6cd_26 : decode prog_37_method_6_code 26 = .ok (.ishr, 1) := by decide +kernel
theorem d_L_grow_6cd_27 : decode prog_37_method_6_code 27 = .ok (.invokestatic 73, 3) := by decide +kernel
theorem d_L_grow_6cd_30 : decode prog_37_method_6_code 30 = .ok (.istore_n 3, 1) := by decide +kernel
theorem d_L_grow_6cd_31 : decode prog_37_method_6_code 31 = .ok (.aload_n 0, 1) := by decide +kernel
theorem d_L_grow_6cd_32 : decode prog_37_method_6_code 32 = .ok (.aload_n 0, 1) := by decide +kernel
theorem d_L_grow_6cd_33 : decode prog_37_method_6_code 33 = .ok (.getfield 9, 3) := by decide +kernel
theorem d_L_grow_6cd_36 : decode prog_37_method_6_code 36 = .ok (.iload_n 3, 1) := by decide +kernel
theorem d_L_grow_6cd_37 : decode prog_37_method_6_code 37 = .ok (.invokestatic 66, 3) := by decide +kernel
theorem d_L_grow_6cd_40 : decode prog_37_method_6_code 40 = .ok (.dup_x1, 1) := by decide +kernel
theorem d_L_grow_6cd_41 : decode prog_37_method_6_code 41 = .ok (.putfield 9, 3) := by decide +kernel
theorem d_L_grow_6cd_44 : decode prog_37_method_6_code 44 = .ok (.areturn, 1) := by decide +kernel
theorem w1470 : Cond.methodLink "java/util/ArrayList" 73 ⟨"jdk/internal/util/ArraysSupport", "newLength", "(III)I"⟩ ∈ aW := aw_of (tb_2 (List.mem_of_getElem? (i := 97) rfl)) rfl
theorem w1471 : Cond.initialized "jdk/internal/util/ArraysSupport" ∈ aW := aw_of (tb_1 (List.mem_of_getElem? (i := 12) rfl)) rfl
theorem w1472 : Cond.code ⟨"jdk/internal/util/ArraysSupport", "newLength", "(III)I"⟩ prog_44_method_27_code 4 (some FieldType.int) ∈ aW := aw_of (tb_2 (List.mem_of_getElem? (i := 99) rfl)) rfl
theorem w1473 : Cond.static ⟨"jdk/internal/util/ArraysSupport", "newLength", "(III)I"⟩ ∈ aW := aw_of (tb_2 (List.mem_of_getElem? (i := 98) rfl)) rfl
theorem w1474 : Cond.methodLink "java/util/ArrayList" 66 ⟨"java/util/Arrays", "copyOf", "([Ljava/lang/Object;I)[Ljava/lang/Object;"⟩ ∈ aW := aw_of (tb_2 (List.mem_of_getElem? (i := 107) rfl)) rfl
theorem w1475 : Cond.code ⟨"java/util/Arrays", "copyOf", "([Ljava/lang/Object;I)[Ljava/lang/Object;"⟩ prog_38_method_119_code 2 (some (FieldType.array (FieldType.object "java/lang/Object"))) ∈ aW := aw_of (tb_2 (List.mem_of_getElem? (i := 109) rfl)) rfl
theorem w1476 : Cond.static ⟨"java/util/Arrays", "copyOf", "([Ljava/lang/Object;I)[Ljava/lang/Object;"⟩ ∈ aW := aw_of (tb_2 (List.mem_of_getElem? (i := 108) rfl)) rfl
set_option maxHeartbeats 4000000 in
set_option maxRecDepth 100000 in
theorem v_Lgrow1_W (l : Launch) (D : va_G) (dA : Nat → ClassId) (sz : Nat) (e0 mi : Nat) (ws : va_W) (la : Nat → Nat) (g : LI) (mn : Nat) (hel : ∀ i : Nat, i < g.eN → ∀ y : Nat, g.el i = some y → ∃ vs : List Value, (y, .inr (10, vs)) ∈ ws) (h1 : 0 < g.eN) (h2 : g.eN ≤ 65536) (h3 : g.sz = g.eN) (h4 : mn = g.eN + 1) : Met l ⟨"java/util/ArrayList", "grow", "(I)[Ljava/lang/Object;"⟩ [Cond.code ⟨"java/util/ArrayList", "grow", "(I)[Ljava/lang/Object;"⟩ prog_37_method_6_code 4 (some (FieldType.array (FieldType.object "java/lang/Object")))] { frames := 3, cells := 1, slots := g.eN + max 1 (g.eN / 2), locals := 84 } (pCy D dA e0 mi [.ref (la 0), .int (nI mn)] (LiW dA la g ++ (ws)) sz) (va_Qr (fun (_ : Unit) => True) (fun (u9 : Unit) (r9 : Nat) t9 => (True) ∧ bW D (va_A (LiW dA la g ++ (ws)) sz) (LiW dA la (LI.s_el (LI.s_eN (LI.s_eA g r9) (g.eN + max 1 (g.eN / 2))) (cpF g.el g.eN)) ++ (ws)) t9) (va_A (LiW dA la g ++ (ws)) sz)) 1 (g.eN + max 1 (g.eN / 2)) (va_A (LiW dA la g ++ (ws)) sz) := by
  refine mkY (y := ⟨"java/util/ArrayList", "grow", "(I)[Ljava/lang/Object;"⟩) (cc := prog_37_method_6_code) (maxL := 4) (av := [.ref (la 0), .int (nI mn)]) (ws := LiW dA la g ++ (ws)) (sz := sz) (Qc := fun A => va_Qr (fun (_ : Unit) => True) (fun (u9 : Unit) (r9 : Nat) t9 => (True) ∧ bW D A (LiW dA la (LI.s_el (LI.s_eN (LI.s_eA g r9) (g.eN + max 1 (g.eN / 2))) (cpF g.el g.eN)) ++ (ws)) t9) A) (by decide) (Nat.le_of_ble_eq_true rfl) ?_
  intro A p e s m below meth c ls hsz hZ hT hM hB
  obtain ⟨hx, hb, hr, hml, hown, hin, hlk, hE, hK, hP, hD, hS, hA, hN, hl⟩ := hB
  have hown : s.vm.findClass "java/util/ArrayList" = some m.cls := hown
  have hl : lv_has ls 4 [(0, .ref (la 0)), (1, .int (nI mn))] := hl
  obtain ⟨H, hH⟩ : ∃ z, z = s.heap := ⟨_, rfl⟩
  have hP : va_P D vwCl (LiW dA la g ++ (ws)) H := by rw [hH]; exact hP
  have hS : va_S A s.heap H [] := by rw [hH]; exact hS
  rw [← hH]
  refine lv_aload_n hx hb d_L_grow_6cd_0 rfl (lv_at hl 0 rfl) ?_
  refine gF (v := .ref g.eA) hx hb hown hE hK hP 0 rfl rfl layL 0 (by decide) w656 rfl d_L_grow_6cd_1 ?_
  refine va_alen (v := nI g.eN) hx hb hK hP (1) 7 rfl rfl rfl d_L_grow_6cd_4 ?_
  refine lv_istore_n hx hb d_L_grow_6cd_5 rfl hl (by decide) rfl (fun ls hl => ?_)
  have hl : lv_has ls 4 [(2, .int (nI g.eN)), (0, .ref (la 0)), (1, .int (nI mn))] := hl
  refine lv_iload_n hx hb d_L_grow_6cd_6 rfl (lv_at hl 0 rfl) ?_
  refine lv_if_gt hx hb d_L_grow_6cd_7 (tgt := 20) rfl (fun _ => ?_) (fun h9 => absurd ((nI_ltI (a := 0) (b := g.eN) (by omega) (by omega)).mpr h1) h9)
  refine lv_iload_n hx hb d_L_grow_6cd_20 rfl (lv_at hl 0 rfl) ?_
  refine lv_iload_n hx hb d_L_grow_6cd_21 rfl (lv_at hl 2 rfl) ?_
  refine lv_iload_n hx hb d_L_grow_6cd_22 rfl (lv_at hl 0 rfl) ?_
  refine lv_isub hx hb d_L_grow_6cd_23 (tpi (y := nI (mn - g.eN)) (pk_sub (a := mn) (b := g.eN) (by omega)) ?_)
  refine lv_iload_n hx hb d_L_grow_6cd_24 rfl (lv_at hl 0 rfl) ?_
  refine lv_iconst (v := 1) hx hb d_L_grow_6cd_25 (by decide) ?_
  refine lv_ishr hx hb d_L_grow_6cd_26 (tpi (y := nI (g.eN / 2)) (sar_nI (a := g.eN) (by omega)) ?_)
  have e5 : mn - g.eN = 1 := by omega
  have e5 : mn - g.eN = 1 := by omega
  have hPc := hP.sub (ws' := []) [] rfl
  have hDc := hD.sub (ws' := []) [] (by decide) rfl
  refine jpI (rnS (As := [.int (nI g.eN), .int (nI (mn - g.eN)), .int (nI (g.eN / 2))]) (rest := []) hx hb hml hown hE hK (hN _ _ hS) hPc hDc (v_newLength l D dA H.size g.eN (mn - g.eN) (g.eN / 2) (show 1 ≤ (mn - g.eN) from by omega) (show g.eN ≤ 65536 from by omega) (show (mn - g.eN) ≤ 65536 from by omega) (show (g.eN / 2) ≤ 65536 from by omega)) w1472 w1470 w1473 w1471 rfl rfl ⟨⟨by decide, by decide⟩, rfl⟩ ⟨(Nat.le_of_ble_eq_true rfl), (Nat.le_of_ble_eq_true rfl)⟩ rfl hl.1 rfl (Nat.le_of_ble_eq_true rfl) d_L_grow_6cd_27 ⟨(show 0 + 0 ≤ 1 by omega), (show 0 + 0 ≤ g.eN + max 1 (g.eN / 2) by omega)⟩) hP hD hS hA (fun r1 u9 H locs hp9 hP hD hS => ?_)
  have hP : va_P D vwCl (LiW dA la g ++ (ws)) H := hP
  have hD : va_D A (LiW dA la g ++ (ws)) := hD
  replace hp9 : nI (g.eN + max (mn - g.eN) (g.eN / 2)) = r1 := Eq.symm hp9
  subst hp9
  refine lv_istore_n hx hb d_L_grow_6cd_30 rfl hl (by decide) rfl (fun ls hl => ?_)
  have hl : lv_has ls 4 [(3, .int (nI (g.eN + max (mn - g.eN) (g.eN / 2)))), (2, .int (nI g.eN)), (0, .ref (la 0)), (1, .int (nI mn))] := hl
  refine lv_aload_n hx hb d_L_grow_6cd_31 rfl (lv_at hl 2 rfl) ?_
  refine lv_aload_n hx hb d_L_grow_6cd_32 rfl (lv_at hl 2 rfl) ?_
  refine gF (v := .ref g.eA) hx hb hown hE hK hP 0 rfl rfl layL 0 (by decide) w656 rfl d_L_grow_6cd_33 ?_
  refine lv_iload_n hx hb d_L_grow_6cd_36 rfl (lv_at hl 0 rfl) ?_
  refine jkR (wr := []) (rnSy (As := [.ref g.eA, .int (nI (g.eN + max (mn - g.eN) (g.eN / 2)))]) (rest := [.ref (la 0)]) hx hb hml hown hE hK hZ hT hM hS (hN _ _ hS) hP hD (v_ocopy_W l D dA H.size e0 mi (LiW dA la g ++ (ws)) g.eA g.eN g.el (g.eN + max (mn - g.eN) (g.eN / 2)) (List.mem_of_getElem? (i := 1) rfl) (fun i hi y hy => by obtain ⟨vs, hv⟩ := hel i hi y hy; exact ⟨vs, (fun _ hm => (List.mem_append_right _ hm)) _ hv⟩) (show g.eN ≤ (g.eN + max (mn - g.eN) (g.eN / 2)) from by omega) (show (g.eN + max (mn - g.eN) (g.eN / 2)) ≤ 131072 from by omega)) w1475 w1474 w1476 w712 rfl rfl ⟨⟨by decide, by decide⟩, rfl⟩ ⟨(Nat.le_of_ble_eq_true rfl), (Nat.le_of_ble_eq_true rfl)⟩ rfl hl.1 rfl (Nat.le_of_ble_eq_true rfl) d_L_grow_6cd_37 ⟨(show 0 + 0 + 1 ≤ 1 by omega), (show 0 + 0 + (g.eN + max (mn - g.eN) (g.eN / 2)) ≤ g.eN + max 1 (g.eN / 2) by omega)⟩) hP hD hS hA (fun u3 r9 H locs hp9 hP hD hS => ?_)
  obtain ⟨gx4, h9u⟩ : ∃ z9, z9 = u3 := ⟨_, rfl⟩
  subst h9u
  have hP : va_P D vwCl ([(r9, .inl (dA 7, g.eN + max (mn - g.eN) (g.eN / 2), .inr (.inr (.inr (.inr gx4)))))] ++ (LiW dA la g ++ (ws))) H := hP
  have hD : va_D A ([(r9, .inl (dA 7, g.eN + max (mn - g.eN) (g.eN / 2), .inr (.inr (.inr (.inr gx4)))))] ++ (LiW dA la g ++ (ws))) := hD
  have f_e_5 := hp9
  refine lv_dup_x1 hx hb d_L_grow_6cd_40 rfl rfl ?_
  refine pF (v := .ref r9) hx hb hown hE hK hP hD hS 1 rfl rfl layL tyL tokL nmL 0 (by decide) w656 rfl rfl rfl (Nat.le_of_ble_eq_true rfl) d_L_grow_6cd_41 (fun H locs hP hD hS => ?_)
  have hP : va_P D vwCl ([(r9, .inl (dA 7, g.eN + max (mn - g.eN) (g.eN / 2), .inr (.inr (.inr (.inr gx4)))))] ++ (LiWf dA la g (LI.s_eA g r9) ++ (ws))) H := hP
  have hD : va_D A ([(r9, .inl (dA 7, g.eN + max (mn - g.eN) (g.eN / 2), .inr (.inr (.inr (.inr gx4)))))] ++ (LiWf dA la g (LI.s_eA g r9) ++ (ws))) := hD
  have hP := swP 1 hP
  have hD := swD 1 hD
  have hP : va_P D vwCl (LiW dA la (LI.s_el (LI.s_eN (LI.s_eA g r9) (g.eN + max (mn - g.eN) (g.eN / 2))) gx4) ++ (ws)) H := hP
  have hD : va_D A (LiW dA la (LI.s_el (LI.s_eN (LI.s_eA g r9) (g.eN + max (mn - g.eN) (g.eN / 2))) gx4) ++ (ws)) := hD
  have e9 : (LI.s_el (LI.s_eN (LI.s_eA g r9) (g.eN + max (mn - g.eN) (g.eN / 2))) gx4 : LI) = LI.s_el (LI.s_eN (LI.s_eA g r9) (g.eN + max 1 (g.eN / 2))) (cpF g.el g.eN) := by rw [show (g.eN + max 1 (g.eN / 2)) = (g.eN + max (mn - g.eN) (g.eN / 2)) from by simp [*], show (cpF g.el g.eN) = gx4 from by simp [*]] <;> rfl
  rw [e9] at hP hD
  exact rkR hx hb hr (Or.inr ⟨_, rfl⟩) hlk hS () trivial hP hD (show 0 + 0 + 1 ≤ 1 by omega) (show 0 + 0 + (g.eN + max (mn - g.eN) (g.eN / 2)) ≤ g.eN + max 1 (g.eN / 2) by omega) d_L_grow_6cd_44
set_option maxHeartbeats 4000000 in
set_option maxRecDepth 100000 in
theorem v_Lgrow_W (l : Launch) (D : va_G) (dA : Nat → ClassId) (sz : Nat) (e0 mi : Nat) (ws : va_W) (la : Nat → Nat) (g : LI) (hel : ∀ i : Nat, i < g.eN → ∀ y : Nat, g.el i = some y → ∃ vs : List Value, (y, .inr (10, vs)) ∈ ws) (h1 : 0 < g.eN) (h2 : g.eN ≤ 65536) (h3 : g.sz = g.eN) : Met l ⟨"java/util/ArrayList", "grow", "()[Ljava/lang/Object;"⟩ [Cond.code ⟨"java/util/ArrayList", "grow", "()[Ljava/lang/Object;"⟩ prog_37_method_7_code 1 (some (FieldType.array (FieldType.object "java/lang/Object")))] { frames := 4, cells := 1, slots := g.eN + max 1 (g.eN / 2), locals := 107 } (pCy D dA e0 mi [.ref (la 0)] (LiW dA la g ++ (ws)) sz) (va_Qr (fun (_ : Unit) => True) (fun (u9 : Unit) (r9 : Nat) t9 => (True) ∧ bW D (va_A (LiW dA la g ++ (ws)) sz) (LiW dA la (LI.s_el (LI.s_eN (LI.s_eA g r9) (g.eN + max 1 (g.eN / 2))) (cpF g.el g.eN)) ++ (ws)) t9) (va_A (LiW dA la g ++ (ws)) sz)) 1 (g.eN + max 1 (g.eN / 2)) (va_A (LiW dA la g ++ (ws)) sz) := by
  refine mkY (y := ⟨"java/util/ArrayList", "grow", "()[Ljava/lang/Object;"⟩) (cc := prog_37_method_7_code) (maxL := 1) (av := [.ref (la 0)]) (ws := LiW dA la g ++ (ws)) (sz := sz) (Qc := fun A => va_Qr (fun (_ : Unit) => True) (fun (u9 : Unit) (r9 : Nat) t9 => (True) ∧ bW D A (LiW dA la (LI.s_el (LI.s_eN (LI.s_eA g r9) (g.eN + max 1 (g.eN / 2))) (cpF g.el g.eN)) ++ (ws)) t9) A) (by decide) (Nat.le_of_ble_eq_true rfl) ?_
  intro A p e s m below meth c ls hsz hZ hT hM hB
  obtain ⟨hx, hb, hr, hml, hown, hin, hlk, hE, hK, hP, hD, hS, hA, hN, hl⟩ := hB
  have hown : s.vm.findClass "java/util/ArrayList" = some m.cls := hown
  have hl : lv_has ls 1 [(0, .ref (la 0))] := hl
  obtain ⟨H, hH⟩ : ∃ z, z = s.heap := ⟨_, rfl⟩
  have hP : va_P D vwCl (LiW dA la g ++ (ws)) H := by rw [hH]; exact hP
  have hS : va_S A s.heap H [] := by rw [hH]; exact hS
  rw [← hH]
  refine lv_aload_n hx hb d_L_grow_d81_0 rfl (lv_at hl 0 rfl) ?_
  refine lv_aload_n hx hb d_L_grow_d81_1 rfl (lv_at hl 0 rfl) ?_
  refine gF (v := .int (nI g.sz)) hx hb hown hE hK hP 0 rfl rfl layL 1 (by decide) w657 rfl d_L_grow_d81_2 ?_
  refine lv_iconst (v := 1) hx hb d_L_grow_d81_5 (by decide) ?_
  refine lv_iadd hx hb d_L_grow_d81_6 (tpi (y := nI (g.sz + 1)) (nI_add (g.sz) (1)) ?_)
  refine jkR (wr := []) (rnVy (As := [.int (nI (g.sz + 1))]) (rest := []) hx hb hml hown hE hK hZ hT hM hS (hN _ _ hS) hP hD (v_Lgrow1_W l D dA H.size e0 mi ws la g (g.sz + 1) hel (show 0 < g.eN from by omega) (show g.eN ≤ 65536 from by omega) (show g.sz = g.eN from by omega) (show (g.sz + 1) = g.eN + 1 from by omega)) (q0 := 0) rfl rfl w769 w768 w770 w771 w680 rfl rfl ⟨⟨by decide, by decide⟩, rfl⟩ ⟨(Nat.le_of_ble_eq_true rfl), (Nat.le_of_ble_eq_true rfl)⟩ rfl hl.1 rfl (Nat.le_of_ble_eq_true rfl) d_L_grow_d81_7 ⟨(show 0 + 1 ≤ 1 by omega), (show 0 + (g.eN + max 1 (g.eN / 2)) ≤ g.eN + max 1 (g.eN / 2) by omega)⟩) hP hD hS hA (fun u1 r9 H locs hp9 hP hD hS => ?_)
  have hP : va_P D vwCl (LiW dA la (LI.s_el (LI.s_eN (LI.s_eA g r9) (g.eN + max 1 (g.eN / 2))) (cpF g.el g.eN)) ++ (ws)) H := hP
  have hD : va_D A (LiW dA la (LI.s_el (LI.s_eN (LI.s_eA g r9) (g.eN + max 1 (g.eN / 2))) (cpF g.el g.eN)) ++ (ws)) := hD
  exact rkR hx hb hr (Or.inr ⟨_, rfl⟩) hlk hS () trivial hP hD (show 0 + 1 ≤ 1 by omega) (show 0 + (g.eN + max 1 (g.eN / 2)) ≤ g.eN + max 1 (g.eN / 2) by omega) d_L_grow_d81_10
set_option maxHeartbeats 4000000 in
set_option maxRecDepth 100000 in
theorem v_Ladd3_gW (l : Launch) (D : va_G) (dA : Nat → ClassId) (sz : Nat) (e0 mi : Nat) (ws : va_W) (la : Nat → Nat) (g : LI) (v : Nat) (fs : List Value) (hel : ∀ i : Nat, i < g.eN → ∀ y : Nat, g.el i = some y → ∃ vs : List Value, (y, .inr (10, vs)) ∈ ws) (h1 : 0 < g.eN) (h2 : g.eN ≤ 65536) (h3 : g.sz = g.eN) (mo : (v, .inr (10, fs)) ∈ ws) : Met l ⟨"java/util/ArrayList", "add", "(Ljava/lang/Object;[Ljava/lang/Object;I)V"⟩ [Cond.code ⟨"java/util/ArrayList", "add", "(Ljava/lang/Object;[Ljava/lang/Object;I)V"⟩ prog_37_method_24_code 4 none] { frames := 5, cells := 1, slots := g.eN + max 1 (g.eN / 2), locals := 127 } (pCy D dA e0 mi [.ref (la 0), .ref v, .ref g.eA, .int (nI g.sz)] (LiW dA la g ++ (ws)) sz) (va_Qv (fun (u9 : Nat) => True) (fun (u9 : Nat) t9 => bW D (va_A (LiW dA la g ++ (ws)) sz) (LiW dA la (LI.s_el (LI.s_eN (LI.s_eA (LI.s_sz g (g.sz + 1)) u9) (g.eN + max 1 (g.eN / 2))) (va_up (cpF g.el g.eN) g.sz (some v))) ++ (ws)) t9) (va_A (LiW dA la g ++ (ws)) sz)) 1 (g.eN + max 1 (g.eN / 2)) (va_A (LiW dA la g ++ (ws)) sz) := by
  refine mkY (y := ⟨"java/util/ArrayList", "add", "(Ljava/lang/Object;[Ljava/lang/Object;I)V"⟩) (cc := prog_37_method_24_code) (maxL := 4) (av := [.ref (la 0), .ref v, .ref g.eA, .int (nI g.sz)]) (ws := LiW dA la g ++ (ws)) (sz := sz) (Qc := fun A => va_Qv (fun (u9 : Nat) => True) (fun (u9 : Nat) t9 => bW D A (LiW dA la (LI.s_el (LI.s_eN (LI.s_eA (LI.s_sz g (g.sz + 1)) u9) (g.eN + max 1 (g.eN / 2))) (va_up (cpF g.el g.eN) g.sz (some v))) ++ (ws)) t9) A) (by decide) (Nat.le_of_ble_eq_true rfl) ?_
  intro A p e s m below meth c ls hsz hZ hT hM hB
  obtain ⟨hx, hb, hr, hml, hown, hin, hlk, hE, hK, hP, hD, hS, hA, hN, hl⟩ := hB
  have hown : s.vm.findClass "java/util/ArrayList" = some m.cls := hown
  have hl : lv_has ls 4 [(0, .ref (la 0)), (1, .ref v), (2, .ref g.eA), (3, .int (nI g.sz))] := hl
  obtain ⟨H, hH⟩ : ∃ z, z = s.heap := ⟨_, rfl⟩
  have hP : va_P D vwCl (LiW dA la g ++ (ws)) H := by rw [hH]; exact hP
  have hS : va_S A s.heap H [] := by rw [hH]; exact hS
  rw [← hH]
  refine lv_iload_n hx hb d_L_add_faf_0 rfl (lv_at hl 3 rfl) ?_
  refine lv_aload_n hx hb d_L_add_faf_1 rfl (lv_at hl 2 rfl) ?_
  refine va_alen (v := nI g.eN) hx hb hK hP (1) 7 rfl rfl rfl d_L_add_faf_2 ?_
  refine lv_icmp_ne hx hb d_L_add_faf_3 (tgt := 11) rfl (fun h9 => absurd ((nI_eq (a := g.sz) (b := g.eN) (by omega) (by omega)).mpr h3) h9) (fun _ => ?_)
  refine lv_aload_n hx hb d_L_add_faf_6 rfl (lv_at hl 0 rfl) ?_
  refine jkR (wr := []) (rnVy (As := []) (rest := []) hx hb hml hown hE hK hZ hT hM hS (hN _ _ hS) hP hD (v_Lgrow_W l D dA H.size e0 mi ws la g hel (show 0 < g.eN from by omega) (show g.eN ≤ 65536 from by omega) (show g.sz = g.eN from by omega)) (q0 := 0) rfl rfl w773 w772 w774 w775 w680 rfl rfl ⟨⟨by decide, by decide⟩, rfl⟩ ⟨(Nat.le_of_ble_eq_true rfl), (Nat.le_of_ble_eq_true rfl)⟩ rfl hl.1 rfl (Nat.le_of_ble_eq_true rfl) d_L_add_faf_7 ⟨(show 0 + 1 ≤ 1 by omega), (show 0 + (g.eN + max 1 (g.eN / 2)) ≤ g.eN + max 1 (g.eN / 2) by omega)⟩) hP hD hS hA (fun u1 b H locs hp9 hP hD hS => ?_)
  have hP : va_P D vwCl (LiW dA la (LI.s_el (LI.s_eN (LI.s_eA g b) (g.eN + max 1 (g.eN / 2))) (cpF g.el g.eN)) ++ (ws)) H := hP
  have hD : va_D A (LiW dA la (LI.s_el (LI.s_eN (LI.s_eA g b) (g.eN + max 1 (g.eN / 2))) (cpF g.el g.eN)) ++ (ws)) := hD
  refine lv_astore_n hx hb d_L_add_faf_10 rfl hl (by decide) rfl (fun ls hl => ?_)
  have hl : lv_has ls 4 [(2, .ref b), (0, .ref (la 0)), (1, .ref v), (3, .int (nI g.sz))] := hl
  refine lv_aload_n hx hb d_L_add_faf_11 rfl (lv_at hl 0 rfl) ?_
  refine lv_iload_n hx hb d_L_add_faf_12 rfl (lv_at hl 3 rfl) ?_
  refine lv_aload_n hx hb d_L_add_faf_13 rfl (lv_at hl 2 rfl) ?_
  obtain ⟨qp2, ep3⟩ := List.getElem?_of_mem (show ((v, .inr (10, fs)) : Nat × va_E) ∈ LiW dA la (LI.s_el (LI.s_eN (LI.s_eA g b) (g.eN + max 1 (g.eN / 2))) (cpF g.el g.eN)) ++ (ws) from (List.mem_append_right _ mo))
  refine nqstO (E := "java/lang/Object") (r := ("SeriesVault$Word", TW, 1)) (f := (cpF g.el g.eN)) (n := g.eN + max 1 (g.eN / 2)) hx hb hK hP hD hS (1) 7 (qp2) 10 rfl rfl (show va_Nw (.castable "SeriesVault$Word" "java/lang/Object") s from hE.1 _ w1456) ep3 rfl (g.sz) (by omega) (by omega) d_L_add_faf_14 (fun H locs hP hD hS => ?_)
  have hP : va_P D vwCl (LiW dA la (LI.s_el (LI.s_eN (LI.s_eA g b) (g.eN + max 1 (g.eN / 2))) (va_up (cpF g.el g.eN) g.sz (some v))) ++ (ws)) H := hP
  have hD : va_D A (LiW dA la (LI.s_el (LI.s_eN (LI.s_eA g b) (g.eN + max 1 (g.eN / 2))) (va_up (cpF g.el g.eN) g.sz (some v))) ++ (ws)) := hD
  refine lv_aload_n hx hb d_L_add_faf_15 rfl (lv_at hl 1 rfl) ?_
  refine lv_iload_n hx hb d_L_add_faf_16 rfl (lv_at hl 3 rfl) ?_
  refine lv_iconst (v := 1) hx hb d_L_add_faf_17 (by decide) ?_
  refine lv_iadd hx hb d_L_add_faf_18 (tpi (y := nI (g.sz + 1)) (nI_add (g.sz) (1)) ?_)
  refine pF (v := .int (nI (g.sz + 1))) hx hb hown hE hK hP hD hS 0 rfl rfl layL tyL tokL nmL 1 (by decide) w657 rfl rfl rfl (Nat.le_of_ble_eq_true rfl) d_L_add_faf_19 (fun H locs hP hD hS => ?_)
  have hP : va_P D vwCl (LiW dA la (LI.s_el (LI.s_eN (LI.s_eA (LI.s_sz g (g.sz + 1)) b) (g.eN + max 1 (g.eN / 2))) (va_up (cpF g.el g.eN) g.sz (some v))) ++ (ws)) H := hP
  have hD : va_D A (LiW dA la (LI.s_el (LI.s_eN (LI.s_eA (LI.s_sz g (g.sz + 1)) b) (g.eN + max 1 (g.eN / 2))) (va_up (cpF g.el g.eN) g.sz (some v))) ++ (ws)) := hD
  exact rfV hx hb hr hlk hS b trivial hP hD (show 0 + 1 ≤ 1 by omega) (show 0 + (g.eN + max 1 (g.eN / 2)) ≤ g.eN + max 1 (g.eN / 2) by omega) d_L_add_faf_22
set_option maxHeartbeats 4000000 in
set_option maxRecDepth 100000 in
theorem v_Ladd_gW (l : Launch) (D : va_G) (dA : Nat → ClassId) (sz : Nat) (e0 mi : Nat) (ws : va_W) (la : Nat → Nat) (g : LI) (v : Nat) (fs : List Value) (hel : ∀ i : Nat, i < g.eN → ∀ y : Nat, g.el i = some y → ∃ vs : List Value, (y, .inr (10, vs)) ∈ ws) (h1 : 0 < g.eN) (h2 : g.eN ≤ 65536) (h3 : g.sz = g.eN) (mo : (v, .inr (10, fs)) ∈ ws) : Met l ⟨"java/util/ArrayList", "add", "(Ljava/lang/Object;)Z"⟩ [Cond.code ⟨"java/util/ArrayList", "add", "(Ljava/lang/Object;)Z"⟩ prog_37_method_25_code 2 (some FieldType.boolean)] { frames := 6, cells := 1, slots := g.eN + max 1 (g.eN / 2), locals := 150 } (pCy D dA e0 mi [.ref (la 0), .ref v] (LiW dA la g ++ (ws)) sz) (va_Qi (fun (r9 : Int32) (u9 : Nat) => r9 = 1) (fun (u9 : Nat) t9 => bW D (va_A (LiW dA la g ++ (ws)) sz) (LiW dA la (LI.s_el (LI.s_eN (LI.s_eA (LI.s_mc (LI.s_sz g (g.sz + 1)) (g.mc + 1)) u9) (g.eN + max 1 (g.eN / 2))) (va_up (cpF g.el g.eN) g.sz (some v))) ++ (ws)) t9) (va_A (LiW dA la g ++ (ws)) sz)) 1 (g.eN + max 1 (g.eN / 2)) (va_A (LiW dA la g ++ (ws)) sz) := by
  refine mkY (y := ⟨"java/util/ArrayList", "add", "(Ljava/lang/Object;)Z"⟩) (cc := prog_37_method_25_code) (maxL := 2) (av := [.ref (la 0), .ref v]) (ws := LiW dA la g ++ (ws)) (sz := sz) (Qc := fun A => va_Qi (fun (r9 : Int32) (u9 : Nat) => r9 = 1) (fun (u9 : Nat) t9 => bW D A (LiW dA la (LI.s_el (LI.s_eN (LI.s_eA (LI.s_mc (LI.s_sz g (g.sz + 1)) (g.mc + 1)) u9) (g.eN + max 1 (g.eN / 2))) (va_up (cpF g.el g.eN) g.sz (some v))) ++ (ws)) t9) A) (by decide) (Nat.le_of_ble_eq_true rfl) ?_
  intro A p e s m below meth c ls hsz hZ hT hM hB
  obtain ⟨hx, hb, hr, hml, hown, hin, hlk, hE, hK, hP, hD, hS, hA, hN, hl⟩ := hB
  have hown : s.vm.findClass "java/util/ArrayList" = some m.cls := hown
  have hl : lv_has ls 2 [(0, .ref (la 0)), (1, .ref v)] := hl
  obtain ⟨H, hH⟩ : ∃ z, z = s.heap := ⟨_, rfl⟩
  have hP : va_P D vwCl (LiW dA la g ++ (ws)) H := by rw [hH]; exact hP
  have hS : va_S A s.heap H [] := by rw [hH]; exact hS
  rw [← hH]
  refine lv_aload_n hx hb d_L_add_9ae_0 rfl (lv_at hl 0 rfl) ?_
  refine lv_dup hx hb d_L_add_9ae_1 rfl ?_
  refine gFU (v := .int g.mc) hx hb hown hE hK hP 0 rfl rfl layL 2 (by decide) w654 w655 rfl d_L_add_9ae_2 ?_
  refine lv_iconst (v := 1) hx hb d_L_add_9ae_5 (by decide) ?_
  refine lv_iadd hx hb d_L_add_9ae_6 ?_
  refine pFU (v := .int (g.mc + 1)) hx hb hown hE hK hP hD hS 0 rfl rfl layL tyL tokL nmL 2 (by decide) w654 w655 rfl rfl rfl (Nat.le_of_ble_eq_true rfl) d_L_add_9ae_7 (fun H locs hP hD hS => ?_)
  have hP : va_P D vwCl (LiW dA la (LI.s_mc g (g.mc + 1)) ++ (ws)) H := hP
  have hD : va_D A (LiW dA la (LI.s_mc g (g.mc + 1)) ++ (ws)) := hD
  refine lv_aload_n hx hb d_L_add_9ae_10 rfl (lv_at hl 0 rfl) ?_
  refine lv_aload_n hx hb d_L_add_9ae_11 rfl (lv_at hl 1 rfl) ?_
  refine lv_aload_n hx hb d_L_add_9ae_12 rfl (lv_at hl 0 rfl) ?_
  refine gF (v := .ref g.eA) hx hb hown hE hK hP 0 rfl rfl layL 0 (by decide) w656 rfl d_L_add_9ae_13 ?_
  refine lv_aload_n hx hb d_L_add_9ae_16 rfl (lv_at hl 0 rfl) ?_
  refine gF (v := .int (nI g.sz)) hx hb hown hE hK hP 0 rfl rfl layL 1 (by decide) w657 rfl d_L_add_9ae_17 ?_
  refine jkV (wr := []) (rnVy (As := [.ref v, .ref g.eA, .int (nI g.sz)]) (rest := []) hx hb hml hown hE hK hZ hT hM hS (hN _ _ hS) hP hD (v_Ladd3_gW l D dA H.size e0 mi ws la (LI.s_mc g (g.mc + 1)) v fs hel (show 0 < g.eN from by omega) (show g.eN ≤ 65536 from by omega) (show g.sz = g.eN from by omega) mo) (q0 := 0) rfl rfl w778 w777 w779 w780 w680 rfl rfl ⟨⟨by decide, by decide⟩, rfl⟩ ⟨(Nat.le_of_ble_eq_true rfl), (Nat.le_of_ble_eq_true rfl)⟩ rfl hl.1 rfl (Nat.le_of_ble_eq_true rfl) d_L_add_9ae_20 ⟨(show 0 + 1 ≤ 1 by omega), (show 0 + (g.eN + max 1 (g.eN / 2)) ≤ g.eN + max 1 (g.eN / 2) by omega)⟩) hP hD hS hA (fun u2 H locs hp9 hP hD hS => ?_)
  obtain ⟨b, h9u⟩ : ∃ z9, z9 = u2 := ⟨_, rfl⟩
  subst h9u
  have hP : va_P D vwCl (LiW dA la (LI.s_el (LI.s_eN (LI.s_eA (LI.s_mc (LI.s_sz g (g.sz + 1)) (g.mc + 1)) b) (g.eN + max 1 (g.eN / 2))) (va_up (cpF g.el g.eN) g.sz (some v))) ++ (ws)) H := hP
  have hD : va_D A (LiW dA la (LI.s_el (LI.s_eN (LI.s_eA (LI.s_mc (LI.s_sz g (g.sz + 1)) (g.mc + 1)) b) (g.eN + max 1 (g.eN / 2))) (va_up (cpF g.el g.eN) g.sz (some v))) ++ (ws)) := hD
  refine lv_iconst (v := 1) hx hb d_L_add_9ae_23 (by decide) ?_
  exact rfZ hx hb hr (bI_nar true) hlk hS b rfl hP hD (show 0 + 1 ≤ 1 by omega) (show 0 + (g.eN + max 1 (g.eN / 2)) ≤ g.eN + max 1 (g.eN / 2) by omega) d_L_add_9ae_24
set_option maxHeartbeats 4000000 in
set_option maxRecDepth 100000 in
theorem v_Ladd3_0E (l : Launch) (D : va_G) (dA : Nat → ClassId) (sz : Nat) (e0 mi : Nat) (ws : va_W) (a : Nat) (mc : Int32) (v : Nat) (fs : List Value) (mo : (v, .inr (13, fs)) ∈ ws) : Met l ⟨"java/util/ArrayList", "add", "(Ljava/lang/Object;[Ljava/lang/Object;I)V"⟩ [Cond.code ⟨"java/util/ArrayList", "add", "(Ljava/lang/Object;[Ljava/lang/Object;I)V"⟩ prog_37_method_24_code 4 none] { frames := 3, cells := 1, slots := 10, locals := 57 } (pCy D dA e0 mi [.ref a, .ref v, .ref e0, .int 0] ([(a, .inr (6, [.ref e0, .int 0, .int mc]))] ++ (ws)) sz) (va_Qv (fun (u9 : Nat) => True) (fun (u9 : Nat) t9 => bW D (va_A ([(a, .inr (6, [.ref e0, .int 0, .int mc]))] ++ (ws)) sz) ([(u9, .inl (dA 7, 10, .inr (.inr (.inr (.inr (va_up (fun _ => none) 0 (some v)))))))] ++ ([(a, .inr (6, [.ref u9, .int 1, .int mc]))] ++ (ws))) t9) (va_A ([(a, .inr (6, [.ref e0, .int 0, .int mc]))] ++ (ws)) sz)) 1 10 (va_A ([(a, .inr (6, [.ref e0, .int 0, .int mc]))] ++ (ws)) sz) := by
  refine mkY (y := ⟨"java/util/ArrayList", "add", "(Ljava/lang/Object;[Ljava/lang/Object;I)V"⟩) (cc := prog_37_method_24_code) (maxL := 4) (av := [.ref a, .ref v, .ref e0, .int 0]) (ws := [(a, .inr (6, [.ref e0, .int 0, .int mc]))] ++ (ws)) (sz := sz) (Qc := fun A => va_Qv (fun (u9 : Nat) => True) (fun (u9 : Nat) t9 => bW D A ([(u9, .inl (dA 7, 10, .inr (.inr (.inr (.inr (va_up (fun _ => none) 0 (some v)))))))] ++ ([(a, .inr (6, [.ref u9, .int 1, .int mc]))] ++ (ws))) t9) A) (by decide) (Nat.le_of_ble_eq_true rfl) ?_
  intro A p e s m below meth c ls hsz hZ hT hM hB
  obtain ⟨hx, hb, hr, hml, hown, hin, hlk, hE, hK, hP, hD, hS, hA, hN, hl⟩ := hB
  have hown : s.vm.findClass "java/util/ArrayList" = some m.cls := hown
  have hl : lv_has ls 4 [(0, .ref a), (1, .ref v), (2, .ref e0), (3, .int 0)] := hl
  obtain ⟨H, hH⟩ : ∃ z, z = s.heap := ⟨_, rfl⟩
  have hP : va_P D vwCl ([(a, .inr (6, [.ref e0, .int 0, .int mc]))] ++ (ws)) H := by rw [hH]; exact hP
  have hS : va_S A s.heap H [] := by rw [hH]; exact hS
  rw [← hH]
  refine lv_iload_n hx hb d_L_add_faf_0 rfl (lv_at hl 3 rfl) ?_
  refine lv_aload_n hx hb d_L_add_faf_1 rfl (lv_at hl 2 rfl) ?_
  refine va_tlen (v := 0) hx hb hT hS (by decide) d_L_add_faf_2 ?_
  refine lv_icmp_ne hx hb d_L_add_faf_3 (tgt := 11) rfl (fun h9 => absurd (by decide) h9) (fun _ => ?_)
  refine lv_aload_n hx hb d_L_add_faf_6 rfl (lv_at hl 0 rfl) ?_
  refine jkR (wr := []) (rnVy (As := []) (rest := []) hx hb hml hown hE hK hZ hT hM hS (hN _ _ hS) hP hD (v_Lgrow_0 l D dA H.size e0 mi ws a mc) (q0 := 0) rfl rfl w773 w772 w774 w775 w680 rfl rfl ⟨⟨by decide, by decide⟩, rfl⟩ ⟨(Nat.le_of_ble_eq_true rfl), (Nat.le_of_ble_eq_true rfl)⟩ rfl hl.1 rfl (Nat.le_of_ble_eq_true rfl) d_L_add_faf_7 ⟨(show 0 + 1 ≤ 1 by omega), (show 0 + 10 ≤ 10 by omega)⟩) hP hD hS hA (fun u1 b H locs hp9 hP hD hS => ?_)
  have hP : va_P D vwCl ([(b, .inl (dA 7, 10, .inr (.inr (.inr (.inr (fun _ => none))))))] ++ ([(a, .inr (6, [.ref b, .int 0, .int mc]))] ++ (ws))) H := hP
  have hD : va_D A ([(b, .inl (dA 7, 10, .inr (.inr (.inr (.inr (fun _ => none))))))] ++ ([(a, .inr (6, [.ref b, .int 0, .int mc]))] ++ (ws))) := hD
  refine lv_astore_n hx hb d_L_add_faf_10 rfl hl (by decide) rfl (fun ls hl => ?_)
  have hl : lv_has ls 4 [(2, .ref b), (0, .ref a), (1, .ref v), (3, .int 0)] := hl
  refine lv_aload_n hx hb d_L_add_faf_11 rfl (lv_at hl 0 rfl) ?_
  refine lv_iload_n hx hb d_L_add_faf_12 rfl (lv_at hl 3 rfl) ?_
  refine lv_aload_n hx hb d_L_add_faf_13 rfl (lv_at hl 2 rfl) ?_
  obtain ⟨qp2, ep3⟩ := List.getElem?_of_mem (show ((v, .inr (13, fs)) : Nat × va_E) ∈ [(b, .inl (dA 7, 10, .inr (.inr (.inr (.inr (fun _ => none))))))] ++ ([(a, .inr (6, [.ref b, .int 0, .int mc]))] ++ (ws)) from (List.mem_append_right _ (List.mem_append_right _ mo)))
  refine nqstO (E := "java/lang/Object") (r := ("SeriesVault$Step", TE, 8)) (f := (fun _ => none)) (n := 10) hx hb hK hP hD hS (0) 7 (qp2) 13 rfl rfl (show va_Nw (.castable "SeriesVault$Step" "java/lang/Object") s from hE.1 _ w1457) ep3 rfl (0) (by omega) (by decide) d_L_add_faf_14 (fun H locs hP hD hS => ?_)
  have hP : va_P D vwCl ([(b, .inl (dA 7, 10, .inr (.inr (.inr (.inr (va_up (fun _ => none) 0 (some v)))))))] ++ ([(a, .inr (6, [.ref b, .int 0, .int mc]))] ++ (ws))) H := hP
  have hD : va_D A ([(b, .inl (dA 7, 10, .inr (.inr (.inr (.inr (va_up (fun _ => none) 0 (some v)))))))] ++ ([(a, .inr (6, [.ref b, .int 0, .int mc]))] ++ (ws))) := hD
  refine lv_aload_n hx hb d_L_add_faf_15 rfl (lv_at hl 1 rfl) ?_
  refine lv_iload_n hx hb d_L_add_faf_16 rfl (lv_at hl 3 rfl) ?_
  refine lv_iconst (v := 1) hx hb d_L_add_faf_17 (by decide) ?_
  refine lv_iadd hx hb d_L_add_faf_18 (tpi (y := 1) (by decide) ?_)
  refine tpi (y := 1) (by decide) ?_
  refine pF (v := .int 1) hx hb hown hE hK hP hD hS 1 rfl rfl layL tyL tokL nmL 1 (by decide) w657 rfl rfl rfl (Nat.le_of_ble_eq_true rfl) d_L_add_faf_19 (fun H locs hP hD hS => ?_)
  have hP : va_P D vwCl ([(b, .inl (dA 7, 10, .inr (.inr (.inr (.inr (va_up (fun _ => none) 0 (some v)))))))] ++ ([(a, .inr (6, [.ref b, .int 1, .int mc]))] ++ (ws))) H := hP
  have hD : va_D A ([(b, .inl (dA 7, 10, .inr (.inr (.inr (.inr (va_up (fun _ => none) 0 (some v)))))))] ++ ([(a, .inr (6, [.ref b, .int 1, .int mc]))] ++ (ws))) := hD
  exact rfV hx hb hr hlk hS b trivial hP hD (show 0 + 1 ≤ 1 by omega) (show 0 + 10 ≤ 10 by omega) d_L_add_faf_22
set_option maxHeartbeats 4000000 in
set_option maxRecDepth 100000 in
theorem v_Ladd_0E (l : Launch) (D : va_G) (dA : Nat → ClassId) (sz : Nat) (e0 mi : Nat) (ws : va_W) (a : Nat) (mc : Int32) (v : Nat) (fs : List Value) (mo : (v, .inr (13, fs)) ∈ ws) : Met l ⟨"java/util/ArrayList", "add", "(Ljava/lang/Object;)Z"⟩ [Cond.code ⟨"java/util/ArrayList", "add", "(Ljava/lang/Object;)Z"⟩ prog_37_method_25_code 2 (some FieldType.boolean)] { frames := 4, cells := 1, slots := 10, locals := 80 } (pCy D dA e0 mi [.ref a, .ref v] ([(a, .inr (6, [.ref e0, .int 0, .int mc]))] ++ (ws)) sz) (va_Qi (fun (r9 : Int32) (u9 : Nat) => r9 = 1) (fun (u9 : Nat) t9 => bW D (va_A ([(a, .inr (6, [.ref e0, .int 0, .int mc]))] ++ (ws)) sz) ([(u9, .inl (dA 7, 10, .inr (.inr (.inr (.inr (va_up (fun _ => none) 0 (some v)))))))] ++ ([(a, .inr (6, [.ref u9, .int 1, .int (mc + 1)]))] ++ (ws))) t9) (va_A ([(a, .inr (6, [.ref e0, .int 0, .int mc]))] ++ (ws)) sz)) 1 10 (va_A ([(a, .inr (6, [.ref e0, .int 0, .int mc]))] ++ (ws)) sz) := by
  refine mkY (y := ⟨"java/util/ArrayList", "add", "(Ljava/lang/Object;)Z"⟩) (cc := prog_37_method_25_code) (maxL := 2) (av := [.ref a, .ref v]) (ws := [(a, .inr (6, [.ref e0, .int 0, .int mc]))] ++ (ws)) (sz := sz) (Qc := fun A => va_Qi (fun (r9 : Int32) (u9 : Nat) => r9 = 1) (fun (u9 : Nat) t9 => bW D A ([(u9, .inl (dA 7, 10, .inr (.inr (.inr (.inr (va_up (fun _ => none) 0 (some v)))))))] ++ ([(a, .inr (6, [.ref u9, .int 1, .int (mc + 1)]))] ++ (ws))) t9) A) (by decide) (Nat.le_of_ble_eq_true rfl) ?_
  intro A p e s m below meth c ls hsz hZ hT hM hB
  obtain ⟨hx, hb, hr, hml, hown, hin, hlk, hE, hK, hP, hD, hS, hA, hN, hl⟩ := hB
  have hown : s.vm.findClass "java/util/ArrayList" = some m.cls := hown
  have hl : lv_has ls 2 [(0, .ref a), (1, .ref v)] := hl
  obtain ⟨H, hH⟩ : ∃ z, z = s.heap := ⟨_, rfl⟩
  have hP : va_P D vwCl ([(a, .inr (6, [.ref e0, .int 0, .int mc]))] ++ (ws)) H := by rw [hH]; exact hP
  have hS : va_S A s.heap H [] := by rw [hH]; exact hS
  rw [← hH]
  refine lv_aload_n hx hb d_L_add_9ae_0 rfl (lv_at hl 0 rfl) ?_
  refine lv_dup hx hb d_L_add_9ae_1 rfl ?_
  refine gFU (v := .int mc) hx hb hown hE hK hP 0 rfl rfl layL 2 (by decide) w654 w655 rfl d_L_add_9ae_2 ?_
  refine lv_iconst (v := 1) hx hb d_L_add_9ae_5 (by decide) ?_
  refine lv_iadd hx hb d_L_add_9ae_6 ?_
  refine pFU (v := .int (mc + 1)) hx hb hown hE hK hP hD hS 0 rfl rfl layL tyL tokL nmL 2 (by decide) w654 w655 rfl rfl rfl (Nat.le_of_ble_eq_true rfl) d_L_add_9ae_7 (fun H locs hP hD hS => ?_)
  have hP : va_P D vwCl ([(a, .inr (6, [.ref e0, .int 0, .int (mc + 1)]))] ++ (ws)) H := hP
  have hD : va_D A ([(a, .inr (6, [.ref e0, .int 0, .int (mc + 1)]))] ++ (ws)) := hD
  refine lv_aload_n hx hb d_L_add_9ae_10 rfl (lv_at hl 0 rfl) ?_
  refine lv_aload_n hx hb d_L_add_9ae_11 rfl (lv_at hl 1 rfl) ?_
  refine lv_aload_n hx hb d_L_add_9ae_12 rfl (lv_at hl 0 rfl) ?_
  refine gF (v := .ref e0) hx hb hown hE hK hP 0 rfl rfl layL 0 (by decide) w656 rfl d_L_add_9ae_13 ?_
  refine lv_aload_n hx hb d_L_add_9ae_16 rfl (lv_at hl 0 rfl) ?_
  refine gF (v := .int 0) hx hb hown hE hK hP 0 rfl rfl layL 1 (by decide) w657 rfl d_L_add_9ae_17 ?_
  refine jkV (wr := []) (rnVy (As := [.ref v, .ref e0, .int 0]) (rest := []) hx hb hml hown hE hK hZ hT hM hS (hN _ _ hS) hP hD (v_Ladd3_0E l D dA H.size e0 mi ws a (mc + 1) v fs mo) (q0 := 0) rfl rfl w778 w777 w779 w780 w680 rfl rfl ⟨⟨by decide, by decide⟩, rfl⟩ ⟨(Nat.le_of_ble_eq_true rfl), (Nat.le_of_ble_eq_true rfl)⟩ rfl hl.1 rfl (Nat.le_of_ble_eq_true rfl) d_L_add_9ae_20 ⟨(show 0 + 1 ≤ 1 by omega), (show 0 + 10 ≤ 10 by omega)⟩) hP hD hS hA (fun u2 H locs hp9 hP hD hS => ?_)
  obtain ⟨b, h9u⟩ : ∃ z9, z9 = u2 := ⟨_, rfl⟩
  subst h9u
  have hP : va_P D vwCl ([(b, .inl (dA 7, 10, .inr (.inr (.inr (.inr (va_up (fun _ => none) 0 (some v)))))))] ++ ([(a, .inr (6, [.ref b, .int 1, .int (mc + 1)]))] ++ (ws))) H := hP
  have hD : va_D A ([(b, .inl (dA 7, 10, .inr (.inr (.inr (.inr (va_up (fun _ => none) 0 (some v)))))))] ++ ([(a, .inr (6, [.ref b, .int 1, .int (mc + 1)]))] ++ (ws))) := hD
  refine lv_iconst (v := 1) hx hb d_L_add_9ae_23 (by decide) ?_
  exact rfZ hx hb hr (bI_nar true) hlk hS b rfl hP hD (show 0 + 1 ≤ 1 by omega) (show 0 + 10 ≤ 10 by omega) d_L_add_9ae_24
set_option maxHeartbeats 4000000 in
set_option maxRecDepth 100000 in
theorem v_ocopy3_E (l : Launch) (D : va_G) (dA : Nat → ClassId) (sz : Nat) (e0 mi : Nat) (ws : va_W) (arr : Nat) (k : Nat) (f : Nat → Option Nat) (n : Nat) (m1 : (arr, .inl (dA 7, k, .inr (.inr (.inr (.inr f))))) ∈ ws) (hel : ∀ i : Nat, i < k → ∀ y : Nat, f i = some y → ∃ vs : List Value, (y, .inr (13, vs)) ∈ ws) (h1 : k ≤ n) (h2 : n ≤ 131072) : Met l ⟨"java/util/Arrays", "copyOf", "([Ljava/lang/Object;ILjava/lang/Class;)[Ljava/lang/Object;"⟩ [Cond.code ⟨"java/util/Arrays", "copyOf", "([Ljava/lang/Object;ILjava/lang/Class;)[Ljava/lang/Object;"⟩ prog_38_method_120_code 4 (some (FieldType.array (FieldType.object "java/lang/Object")))] { frames := 1, cells := 1, slots := n, locals := 40 } (pCy D dA e0 mi [.ref arr, .int (nI n), .ref mi] (ws) sz) (va_Qr (fun (_ : (Nat → Option Nat)) => True) (fun (u9 : (Nat → Option Nat)) (r9 : Nat) t9 => (u9 = cpF f k) ∧ bW D (va_A (ws) sz) ([(r9, .inl (dA 7, n, .inr (.inr (.inr (.inr u9)))))] ++ (ws)) t9) (va_A (ws) sz)) 1 n (va_A (ws) sz) := by
  refine mkY (y := ⟨"java/util/Arrays", "copyOf", "([Ljava/lang/Object;ILjava/lang/Class;)[Ljava/lang/Object;"⟩) (cc := prog_38_method_120_code) (maxL := 4) (av := [.ref arr, .int (nI n), .ref mi]) (ws := ws) (sz := sz) (Qc := fun A => va_Qr (fun (_ : (Nat → Option Nat)) => True) (fun (u9 : (Nat → Option Nat)) (r9 : Nat) t9 => (u9 = cpF f k) ∧ bW D A ([(r9, .inl (dA 7, n, .inr (.inr (.inr (.inr u9)))))] ++ (ws)) t9) A) (by decide) (Nat.le_of_ble_eq_true rfl) ?_
  intro A p e s m below meth c ls hsz hZ hT hM hB
  obtain ⟨hx, hb, hr, hml, hown, hin, hlk, hE, hK, hP, hD, hS, hA, hN, hl⟩ := hB
  have hown : s.vm.findClass "java/util/Arrays" = some m.cls := hown
  have hl : lv_has ls 4 [(0, .ref arr), (1, .int (nI n)), (2, .ref mi)] := hl
  obtain ⟨H, hH⟩ : ∃ z, z = s.heap := ⟨_, rfl⟩
  have hP : va_P D vwCl (ws) H := by rw [hH]; exact hP
  have hS : va_S A s.heap H [] := by rw [hH]; exact hS
  rw [← hH]
  refine lv_aload_n hx hb d_Arrays_copyOf_918_0 rfl (lv_at hl 2 rfl) ?_
  refine va_ldcM hx hb hown (hE.t w1460 rfl) hM d_Arrays_copyOf_918_1 ?_
  refine lv_acmp_ne (rx := some mi) (ry := some mi) hx hb d_Arrays_copyOf_918_3 (tgt := 13) rfl (fun h9 => absurd rfl h9) (fun _ => ?_)
  refine lv_iload_n hx hb d_Arrays_copyOf_918_6 rfl (lv_at hl 1 rfl) ?_
  refine nnQ (N' := n) hx hb hown hE w1461 w767 hK hP hD hS hA 7 rfl (by omega) (show n * 4 ≤ 536870912 by omega) (show 0 + 1 ≤ 1 by omega) (show 0 + n ≤ n by omega) d_Arrays_copyOf_918_7 (fun r9 H hP hD hS => ?_)
  have hP : va_P D vwCl ([(r9, .inl (dA 7, n, .inr (.inr (.inr (.inr (fun _ => none))))))] ++ (ws)) H := hP
  have hD : va_D A ([(r9, .inl (dA 7, n, .inr (.inr (.inr (.inr (fun _ => none))))))] ++ (ws)) := hD
  refine lv_goto hx hb d_Arrays_copyOf_918_10 (tgt := 24) rfl ?_
  refine lv_astore_n hx hb d_Arrays_copyOf_918_24 rfl hl (by decide) rfl (fun ls hl => ?_)
  have hl : lv_has ls 4 [(3, .ref r9), (0, .ref arr), (1, .int (nI n)), (2, .ref mi)] := hl
  refine lv_aload_n hx hb d_Arrays_copyOf_918_25 rfl (lv_at hl 1 rfl) ?_
  refine lv_iconst (v := 0) hx hb d_Arrays_copyOf_918_26 (by decide) ?_
  refine lv_aload_n hx hb d_Arrays_copyOf_918_27 rfl (lv_at hl 0 rfl) ?_
  refine lv_iconst (v := 0) hx hb d_Arrays_copyOf_918_28 (by decide) ?_
  refine lv_aload_n hx hb d_Arrays_copyOf_918_29 rfl (lv_at hl 1 rfl) ?_
  obtain ⟨qp1, ep2⟩ := List.getElem?_of_mem (show ((arr, .inl (dA 7, k, .inr (.inr (.inr (.inr f))))) : Nat × va_E) ∈ [(r9, .inl (dA 7, n, .inr (.inr (.inr (.inr (fun _ => none))))))] ++ (ws) from (List.mem_append_right _ m1))
  refine va_alen (v := nI k) hx hb hK hP (qp1) 7 ep2 rfl rfl d_Arrays_copyOf_918_30 ?_
  refine lv_iload_n hx hb d_Arrays_copyOf_918_31 rfl (lv_at hl 2 rfl) ?_
  refine va_mmin hx hb (hml.trans hl.1.symm) hown (hE.t w1109 rfl) (hE.t w548 rfl) (hE.t w549 rfl) (hE.t w550 rfl) (Nat.le_of_ble_eq_true rfl) (Nat.le_of_ble_eq_true rfl) (show 0 + 1 ≤ 1 by omega) (show 0 + n ≤ n by omega) d_Arrays_copyOf_918_32 (tpi (y := nI (min k n)) (nI_min (a := k) (b := n) (by omega) (by omega)) ?_)
  obtain ⟨qp3, ep4⟩ := List.getElem?_of_mem (show ((arr, .inl (dA 7, k, .inr (.inr (.inr (.inr f))))) : Nat × va_E) ∈ [(r9, .inl (dA 7, n, .inr (.inr (.inr (.inr (fun _ => none))))))] ++ (ws) from (List.mem_append_right _ m1))
  refine ncpyO (E := "java/lang/Object") (r := ("SeriesVault$Step", TE, 8)) (f := f) (g := (fun _ => none)) (n0 := k) (n1 := n) hx hb (hml.trans hl.1.symm) hown (hE.t w1110 rfl) (hE.t w720 rfl) (hE.t w721 rfl) (hE.t w722 rfl) hK hP hD hS (qp3) (0) 7 13 (show va_Nw (.castable "SeriesVault$Step" "java/lang/Object") s from hE.1 _ w1457) ep4 rfl rfl rfl (0) (0) (min k n) (by omega) (by omega) (by omega) (by omega) (by omega) (fun i hi y hy => by obtain ⟨vs, hv⟩ := hel i (by omega) y (by rw [Nat.zero_add] at hy; exact hy); exact ⟨vs, (List.mem_append_right _ hv)⟩) (Nat.le_of_ble_eq_true rfl) (Nat.le_of_ble_eq_true rfl) d_Arrays_copyOf_918_35 (fun H locs hP hD hS => ?_)
  have hP : va_P D vwCl ([(r9, .inl (dA 7, n, .inr (.inr (.inr (.inr (va_cpy f (fun _ => none) 0 0 (min k n)))))))] ++ (ws)) H := hP
  have hD : va_D A ([(r9, .inl (dA 7, n, .inr (.inr (.inr (.inr (va_cpy f (fun _ => none) 0 0 (min k n)))))))] ++ (ws)) := hD
  refine lv_aload_n hx hb d_Arrays_copyOf_918_38 rfl (lv_at hl 0 rfl) ?_
  exact rkR hx hb hr (Or.inr ⟨_, rfl⟩) hlk hS (va_cpy f (fun _ => none) 0 0 (min k n)) (cpF_e h1) hP hD (show 0 + 1 ≤ 1 by omega) (show 0 + n ≤ n by omega) d_Arrays_copyOf_918_39
set_option maxHeartbeats 4000000 in
set_option maxRecDepth 100000 in
theorem v_ocopy_E (l : Launch) (D : va_G) (dA : Nat → ClassId) (sz : Nat) (e0 mi : Nat) (ws : va_W) (arr : Nat) (k : Nat) (f : Nat → Option Nat) (n : Nat) (m1 : (arr, .inl (dA 7, k, .inr (.inr (.inr (.inr f))))) ∈ ws) (hel : ∀ i : Nat, i < k → ∀ y : Nat, f i = some y → ∃ vs : List Value, (y, .inr (13, vs)) ∈ ws) (h1 : k ≤ n) (h2 : n ≤ 131072) : Met l ⟨"java/util/Arrays", "copyOf", "([Ljava/lang/Object;I)[Ljava/lang/Object;"⟩ [Cond.code ⟨"java/util/Arrays", "copyOf", "([Ljava/lang/Object;I)[Ljava/lang/Object;"⟩ prog_38_method_119_code 2 (some (FieldType.array (FieldType.object "java/lang/Object")))] { frames := 2, cells := 1, slots := n, locals := 63 } (pCy D dA e0 mi [.ref arr, .int (nI n)] (ws) sz) (va_Qr (fun (_ : (Nat → Option Nat)) => True) (fun (u9 : (Nat → Option Nat)) (r9 : Nat) t9 => (u9 = cpF f k) ∧ bW D (va_A (ws) sz) ([(r9, .inl (dA 7, n, .inr (.inr (.inr (.inr u9)))))] ++ (ws)) t9) (va_A (ws) sz)) 1 n (va_A (ws) sz) := by
  refine mkY (y := ⟨"java/util/Arrays", "copyOf", "([Ljava/lang/Object;I)[Ljava/lang/Object;"⟩) (cc := prog_38_method_119_code) (maxL := 2) (av := [.ref arr, .int (nI n)]) (ws := ws) (sz := sz) (Qc := fun A => va_Qr (fun (_ : (Nat → Option Nat)) => True) (fun (u9 : (Nat → Option Nat)) (r9 : Nat) t9 => (u9 = cpF f k) ∧ bW D A ([(r9, .inl (dA 7, n, .inr (.inr (.inr (.inr u9)))))] ++ (ws)) t9) A) (by decide) (Nat.le_of_ble_eq_true rfl) ?_
  intro A p e s m below meth c ls hsz hZ hT hM hB
  obtain ⟨hx, hb, hr, hml, hown, hin, hlk, hE, hK, hP, hD, hS, hA, hN, hl⟩ := hB
  have hown : s.vm.findClass "java/util/Arrays" = some m.cls := hown
  have hl : lv_has ls 2 [(0, .ref arr), (1, .int (nI n))] := hl
  obtain ⟨H, hH⟩ : ∃ z, z = s.heap := ⟨_, rfl⟩
  have hP : va_P D vwCl (ws) H := by rw [hH]; exact hP
  have hS : va_S A s.heap H [] := by rw [hH]; exact hS
  rw [← hH]
  refine lv_aload_n hx hb d_Arrays_copyOf_5ca_0 rfl (lv_at hl 0 rfl) ?_
  refine lv_iload_n hx hb d_Arrays_copyOf_5ca_1 rfl (lv_at hl 1 rfl) ?_
  refine lv_aload_n hx hb d_Arrays_copyOf_5ca_2 rfl (lv_at hl 0 rfl) ?_
  obtain ⟨qp1, ep2⟩ := List.getElem?_of_mem (show ((arr, .inl (dA 7, k, .inr (.inr (.inr (.inr f))))) : Nat × va_E) ∈ ws from m1)
  refine ngetC hx hb (hml.trans hl.1.symm) hown hE w1462 w1463 w1464 w1465 w1466 hM hK hP (qp1) ep2 (Nat.le_of_ble_eq_true rfl) (Nat.le_of_ble_eq_true rfl) d_Arrays_copyOf_5ca_3 ?_
  refine jkR (wr := []) (rnSy (As := [.ref arr, .int (nI n), .ref mi]) (rest := []) hx hb hml hown hE hK hZ hT hM hS (hN _ _ hS) hP hD (v_ocopy3_E l D dA H.size e0 mi ws arr k f n m1 hel (show k ≤ n from by omega) (show n ≤ 131072 from by omega)) w1468 w1467 w1469 w712 rfl rfl ⟨⟨by decide, by decide⟩, rfl⟩ ⟨(Nat.le_of_ble_eq_true rfl), (Nat.le_of_ble_eq_true rfl)⟩ rfl hl.1 rfl (Nat.le_of_ble_eq_true rfl) d_Arrays_copyOf_5ca_6 ⟨(show 0 + 1 ≤ 1 by omega), (show 0 + n ≤ n by omega)⟩) hP hD hS hA (fun u3 r9 H locs hp9 hP hD hS => ?_)
  obtain ⟨gx, h9u⟩ : ∃ z9, z9 = u3 := ⟨_, rfl⟩
  subst h9u
  have hP : va_P D vwCl ([(r9, .inl (dA 7, n, .inr (.inr (.inr (.inr gx)))))] ++ (ws)) H := hP
  have hD : va_D A ([(r9, .inl (dA 7, n, .inr (.inr (.inr (.inr gx)))))] ++ (ws)) := hD
  have f_e_4 := hp9
  exact rkR hx hb hr (Or.inr ⟨_, rfl⟩) hlk hS gx f_e_4 hP hD (show 0 + 1 ≤ 1 by omega) (show 0 + n ≤ n by omega) d_Arrays_copyOf_5ca_9
set_option maxHeartbeats 4000000 in
set_option maxRecDepth 100000 in
theorem v_Lgrow1_E (l : Launch) (D : va_G) (dA : Nat → ClassId) (sz : Nat) (e0 mi : Nat) (ws : va_W) (la : Nat → Nat) (g : LI) (mn : Nat) (hel : ∀ i : Nat, i < g.eN → ∀ y : Nat, g.el i = some y → ∃ vs : List Value, (y, .inr (13, vs)) ∈ ws) (h1 : 0 < g.eN) (h2 : g.eN ≤ 65536) (h3 : g.sz = g.eN) (h4 : mn = g.eN + 1) : Met l ⟨"java/util/ArrayList", "grow", "(I)[Ljava/lang/Object;"⟩ [Cond.code ⟨"java/util/ArrayList", "grow", "(I)[Ljava/lang/Object;"⟩ prog_37_method_6_code 4 (some (FieldType.array (FieldType.object "java/lang/Object")))] { frames := 3, cells := 1, slots := g.eN + max 1 (g.eN / 2), locals := 84 } (pCy D dA e0 mi [.ref (la 0), .int (nI mn)] (LiW dA la g ++ (ws)) sz) (va_Qr (fun (_ : Unit) => True) (fun (u9 : Unit) (r9 : Nat) t9 => (True) ∧ bW D (va_A (LiW dA la g ++ (ws)) sz) (LiW dA la (LI.s_el (LI.s_eN (LI.s_eA g r9) (g.eN + max 1 (g.eN / 2))) (cpF g.el g.eN)) ++ (ws)) t9) (va_A (LiW dA la g ++ (ws)) sz)) 1 (g.eN + max 1 (g.eN / 2)) (va_A (LiW dA la g ++ (ws)) sz) := by
  refine mkY (y := ⟨"java/util/ArrayList", "grow", "(I)[Ljava/lang/Object;"⟩) (cc := prog_37_method_6_code) (maxL := 4) (av := [.ref (la 0), .int (nI mn)]) (ws := LiW dA la g ++ (ws)) (sz := sz) (Qc := fun A => va_Qr (fun (_ : Unit) => True) (fun (u9 : Unit) (r9 : Nat) t9 => (True) ∧ bW D A (LiW dA la (LI.s_el (LI.s_eN (LI.s_eA g r9) (g.eN + max 1 (g.eN / 2))) (cpF g.el g.eN)) ++ (ws)) t9) A) (by decide) (Nat.le_of_ble_eq_true rfl) ?_
  intro A p e s m below meth c ls hsz hZ hT hM hB
  obtain ⟨hx, hb, hr, hml, hown, hin, hlk, hE, hK, hP, hD, hS, hA, hN, hl⟩ := hB
  have hown : s.vm.findClass "java/util/ArrayList" = some m.cls := hown
  have hl : lv_has ls 4 [(0, .ref (la 0)), (1, .int (nI mn))] := hl
  obtain ⟨H, hH⟩ : ∃ z, z = s.heap := ⟨_, rfl⟩
  have hP : va_P D vwCl (LiW dA la g ++ (ws)) H := by rw [hH]; exact hP
  have hS : va_S A s.heap H [] := by rw [hH]; exact hS
  rw [← hH]
  refine lv_aload_n hx hb d_L_grow_6cd_0 rfl (lv_at hl 0 rfl) ?_
  refine gF (v := .ref g.eA) hx hb hown hE hK hP 0 rfl rfl layL 0 (by decide) w656 rfl d_L_grow_6cd_1 ?_
  refine va_alen (v := nI g.eN) hx hb hK hP (1) 7 rfl rfl rfl d_L_grow_6cd_4 ?_
  refine lv_istore_n hx hb d_L_grow_6cd_5 rfl hl (by decide) rfl (fun ls hl => ?_)
  have hl : lv_has ls 4 [(2, .int (nI g.eN)), (0, .ref (la 0)), (1, .int (nI mn))] := hl
  refine lv_iload_n hx hb d_L_grow_6cd_6 rfl (lv_at hl 0 rfl) ?_
  refine lv_if_gt hx hb d_L_grow_6cd_7 (tgt := 20) rfl (fun _ => ?_) (fun h9 => absurd ((nI_ltI (a := 0) (b := g.eN) (by omega) (by omega)).mpr h1) h9)
  refine lv_iload_n hx hb d_L_grow_6cd_20 rfl (lv_at hl 0 rfl) ?_
  refine lv_iload_n hx hb d_L_grow_6cd_21 rfl (lv_at hl 2 rfl) ?_
  refine lv_iload_n hx hb d_L_grow_6cd_22 rfl (lv_at hl 0 rfl) ?_
  refine lv_isub hx hb d_L_grow_6cd_23 (tpi (y := nI (mn - g.eN)) (pk_sub (a := mn) (b := g.eN) (by omega)) ?_)
  refine lv_iload_n hx hb d_L_grow_6cd_24 rfl (lv_at hl 0 rfl) ?_
  refine lv_iconst (v := 1) hx hb d_L_grow_6cd_25 (by decide) ?_
  refine lv_ishr hx hb d_L_grow_6cd_26 (tpi (y := nI (g.eN / 2)) (sar_nI (a := g.eN) (by omega)) ?_)
  have e5 : mn - g.eN = 1 := by omega
  have e5 : mn - g.eN = 1 := by omega
  have hPc := hP.sub (ws' := []) [] rfl
  have hDc := hD.sub (ws' := []) [] (by decide) rfl
  refine jpI (rnS (As := [.int (nI g.eN), .int (nI (mn - g.eN)), .int (nI (g.eN / 2))]) (rest := []) hx hb hml hown hE hK (hN _ _ hS) hPc hDc (v_newLength l D dA H.size g.eN (mn - g.eN) (g.eN / 2) (show 1 ≤ (mn - g.eN) from by omega) (show g.eN ≤ 65536 from by omega) (show (mn - g.eN) ≤ 65536 from by omega) (show (g.eN / 2) ≤ 65536 from by omega)) w1472 w1470 w1473 w1471 rfl rfl ⟨⟨by decide, by decide⟩, rfl⟩ ⟨(Nat.le_of_ble_eq_true rfl), (Nat.le_of_ble_eq_true rfl)⟩ rfl hl.1 rfl (Nat.le_of_ble_eq_true rfl) d_L_grow_6cd_27 ⟨(show 0 + 0 ≤ 1 by omega), (show 0 + 0 ≤ g.eN + max 1 (g.eN / 2) by omega)⟩) hP hD hS hA (fun r1 u9 H locs hp9 hP hD hS => ?_)
  have hP : va_P D vwCl (LiW dA la g ++ (ws)) H := hP
  have hD : va_D A (LiW dA la g ++ (ws)) := hD
  replace hp9 : nI (g.eN + max (mn - g.eN) (g.eN / 2)) = r1 := Eq.symm hp9
  subst hp9
  refine lv_istore_n hx hb d_L_grow_6cd_30 rfl hl (by decide) rfl (fun ls hl => ?_)
  have hl : lv_has ls 4 [(3, .int (nI (g.eN + max (mn - g.eN) (g.eN / 2)))), (2, .int (nI g.eN)), (0, .ref (la 0)), (1, .int (nI mn))] := hl
  refine lv_aload_n hx hb d_L_grow_6cd_31 rfl (lv_at hl 2 rfl) ?_
  refine lv_aload_n hx hb d_L_grow_6cd_32 rfl (lv_at hl 2 rfl) ?_
  refine gF (v := .ref g.eA) hx hb hown hE hK hP 0 rfl rfl layL 0 (by decide) w656 rfl d_L_grow_6cd_33 ?_
  refine lv_iload_n hx hb d_L_grow_6cd_36 rfl (lv_at hl 0 rfl) ?_
  refine jkR (wr := []) (rnSy (As := [.ref g.eA, .int (nI (g.eN + max (mn - g.eN) (g.eN / 2)))]) (rest := [.ref (la 0)]) hx hb hml hown hE hK hZ hT hM hS (hN _ _ hS) hP hD (v_ocopy_E l D dA H.size e0 mi (LiW dA la g ++ (ws)) g.eA g.eN g.el (g.eN + max (mn - g.eN) (g.eN / 2)) (List.mem_of_getElem? (i := 1) rfl) (fun i hi y hy => by obtain ⟨vs, hv⟩ := hel i hi y hy; exact ⟨vs, (fun _ hm => (List.mem_append_right _ hm)) _ hv⟩) (show g.eN ≤ (g.eN + max (mn - g.eN) (g.eN / 2)) from by omega) (show (g.eN + max (mn - g.eN) (g.eN / 2)) ≤ 131072 from by omega)) w1475 w1474 w1476 w712 rfl rfl ⟨⟨by decide, by decide⟩, rfl⟩ ⟨(Nat.le_of_ble_eq_true rfl), (Nat.le_of_ble_eq_true rfl)⟩ rfl hl.1 rfl (Nat.le_of_ble_eq_true rfl) d_L_grow_6cd_37 ⟨(show 0 + 0 + 1 ≤ 1 by omega), (show 0 + 0 + (g.eN + max (mn - g.eN) (g.eN / 2)) ≤ g.eN + max 1 (g.eN / 2) by omega)⟩) hP hD hS hA (fun u3 r9 H locs hp9 hP hD hS => ?_)
  obtain ⟨gx4, h9u⟩ : ∃ z9, z9 = u3 := ⟨_, rfl⟩
  subst h9u
  have hP : va_P D vwCl ([(r9, .inl (dA 7, g.eN + max (mn - g.eN) (g.eN / 2), .inr (.inr (.inr (.inr gx4)))))] ++ (LiW dA la g ++ (ws))) H := hP
  have hD : va_D A ([(r9, .inl (dA 7, g.eN + max (mn - g.eN) (g.eN / 2), .inr (.inr (.inr (.inr gx4)))))] ++ (LiW dA la g ++ (ws))) := hD
  have f_e_5 := hp9
  refine lv_dup_x1 hx hb d_L_grow_6cd_40 rfl rfl ?_
  refine pF (v := .ref r9) hx hb hown hE hK hP hD hS 1 rfl rfl layL tyL tokL nmL 0 (by decide) w656 rfl rfl rfl (Nat.le_of_ble_eq_true rfl) d_L_grow_6cd_41 (fun H locs hP hD hS => ?_)
  have hP : va_P D vwCl ([(r9, .inl (dA 7, g.eN + max (mn - g.eN) (g.eN / 2), .inr (.inr (.inr (.inr gx4)))))] ++ (LiWf dA la g (LI.s_eA g r9) ++ (ws))) H := hP
  have hD : va_D A ([(r9, .inl (dA 7, g.eN + max (mn - g.eN) (g.eN / 2), .inr (.inr (.inr (.inr gx4)))))] ++ (LiWf dA la g (LI.s_eA g r9) ++ (ws))) := hD
  have hP := swP 1 hP
  have hD := swD 1 hD
  have hP : va_P D vwCl (LiW dA la (LI.s_el (LI.s_eN (LI.s_eA g r9) (g.eN + max (mn - g.eN) (g.eN / 2))) gx4) ++ (ws)) H := hP
  have hD : va_D A (LiW dA la (LI.s_el (LI.s_eN (LI.s_eA g r9) (g.eN + max (mn - g.eN) (g.eN / 2))) gx4) ++ (ws)) := hD
  have e9 : (LI.s_el (LI.s_eN (LI.s_eA g r9) (g.eN + max (mn - g.eN) (g.eN / 2))) gx4 : LI) = LI.s_el (LI.s_eN (LI.s_eA g r9) (g.eN + max 1 (g.eN / 2))) (cpF g.el g.eN) := by rw [show (g.eN + max 1 (g.eN / 2)) = (g.eN + max (mn - g.eN) (g.eN / 2)) from by simp [*], show (cpF g.el g.eN) = gx4 from by simp [*]] <;> rfl
  rw [e9] at hP hD
  exact rkR hx hb hr (Or.inr ⟨_, rfl⟩) hlk hS () trivial hP hD (show 0 + 0 + 1 ≤ 1 by omega) (show 0 + 0 + (g.eN + max (mn - g.eN) (g.eN / 2)) ≤ g.eN + max 1 (g.eN / 2) by omega) d_L_grow_6cd_44
set_option maxHeartbeats 4000000 in
set_option maxRecDepth 100000 in
theorem v_Lgrow_E (l : Launch) (D : va_G) (dA : Nat → ClassId) (sz : Nat) (e0 mi : Nat) (ws : va_W) (la : Nat → Nat) (g : LI) (hel : ∀ i : Nat, i < g.eN → ∀ y : Nat, g.el i = some y → ∃ vs : List Value, (y, .inr (13, vs)) ∈ ws) (h1 : 0 < g.eN) (h2 : g.eN ≤ 65536) (h3 : g.sz = g.eN) : Met l ⟨"java/util/ArrayList", "grow", "()[Ljava/lang/Object;"⟩ [Cond.code ⟨"java/util/ArrayList", "grow", "()[Ljava/lang/Object;"⟩ prog_37_method_7_code 1 (some (FieldType.array (FieldType.object "java/lang/Object")))] { frames := 4, cells := 1, slots := g.eN + max 1 (g.eN / 2), locals := 107 } (pCy D dA e0 mi [.ref (la 0)] (LiW dA la g ++ (ws)) sz) (va_Qr (fun (_ : Unit) => True) (fun (u9 : Unit) (r9 : Nat) t9 => (True) ∧ bW D (va_A (LiW dA la g ++ (ws)) sz) (LiW dA la (LI.s_el (LI.s_eN (LI.s_eA g r9) (g.eN + max 1 (g.eN / 2))) (cpF g.el g.eN)) ++ (ws)) t9) (va_A (LiW dA la g ++ (ws)) sz)) 1 (g.eN + max 1 (g.eN / 2)) (va_A (LiW dA la g ++ (ws)) sz) := by
  refine mkY (y := ⟨"java/util/ArrayList", "grow", "()[Ljava/lang/Object;"⟩) (cc := prog_37_method_7_code) (maxL := 1) (av := [.ref (la 0)]) (ws := LiW dA la g ++ (ws)) (sz := sz) (Qc := fun A => va_Qr (fun (_ : Unit) => True) (fun (u9 : Unit) (r9 : Nat) t9 => (True) ∧ bW D A (LiW dA la (LI.s_el (LI.s_eN (LI.s_eA g r9) (g.eN + max 1 (g.eN / 2))) (cpF g.el g.eN)) ++ (ws)) t9) A) (by decide) (Nat.le_of_ble_eq_true rfl) ?_
  intro A p e s m below meth c ls hsz hZ hT hM hB
  obtain ⟨hx, hb, hr, hml, hown, hin, hlk, hE, hK, hP, hD, hS, hA, hN, hl⟩ := hB
  have hown : s.vm.findClass "java/util/ArrayList" = some m.cls := hown
  have hl : lv_has ls 1 [(0, .ref (la 0))] := hl
  obtain ⟨H, hH⟩ : ∃ z, z = s.heap := ⟨_, rfl⟩
  have hP : va_P D vwCl (LiW dA la g ++ (ws)) H := by rw [hH]; exact hP
  have hS : va_S A s.heap H [] := by rw [hH]; exact hS
  rw [← hH]
  refine lv_aload_n hx hb d_L_grow_d81_0 rfl (lv_at hl 0 rfl) ?_
  refine lv_aload_n hx hb d_L_grow_d81_1 rfl (lv_at hl 0 rfl) ?_
  refine gF (v := .int (nI g.sz)) hx hb hown hE hK hP 0 rfl rfl layL 1 (by decide) w657 rfl d_L_grow_d81_2 ?_
  refine lv_iconst (v := 1) hx hb d_L_grow_d81_5 (by decide) ?_
  refine lv_iadd hx hb d_L_grow_d81_6 (tpi (y := nI (g.sz + 1)) (nI_add (g.sz) (1)) ?_)
  refine jkR (wr := []) (rnVy (As := [.int (nI (g.sz + 1))]) (rest := []) hx hb hml hown hE hK hZ hT hM hS (hN _ _ hS) hP hD (v_Lgrow1_E l D dA H.size e0 mi ws la g (g.sz + 1) hel (show 0 < g.eN from by omega) (show g.eN ≤ 65536 from by omega) (show g.sz = g.eN from by omega) (show (g.sz + 1) = g.eN + 1 from by omega)) (q0 := 0) rfl rfl w769 w768 w770 w771 w680 rfl rfl ⟨⟨by decide, by decide⟩, rfl⟩ ⟨(Nat.le_of_ble_eq_true rfl), (Nat.le_of_ble_eq_true rfl)⟩ rfl hl.1 rfl (Nat.le_of_ble_eq_true rfl) d_L_grow_d81_7 ⟨(show 0 + 1 ≤ 1 by omega), (show 0 + (g.eN + max 1 (g.eN / 2)) ≤ g.eN + max 1 (g.eN / 2) by omega)⟩) hP hD hS hA (fun u1 r9 H locs hp9 hP hD hS => ?_)
  have hP : va_P D vwCl (LiW dA la (LI.s_el (LI.s_eN (LI.s_eA g r9) (g.eN + max 1 (g.eN / 2))) (cpF g.el g.eN)) ++ (ws)) H := hP
  have hD : va_D A (LiW dA la (LI.s_el (LI.s_eN (LI.s_eA g r9) (g.eN + max 1 (g.eN / 2))) (cpF g.el g.eN)) ++ (ws)) := hD
  exact rkR hx hb hr (Or.inr ⟨_, rfl⟩) hlk hS () trivial hP hD (show 0 + 1 ≤ 1 by omega) (show 0 + (g.eN + max 1 (g.eN / 2)) ≤ g.eN + max 1 (g.eN / 2) by omega) d_L_grow_d81_10
set_option maxHeartbeats 4000000 in
set_option maxRecDepth 100000 in
theorem v_Ladd3_gE (l : Launch) (D : va_G) (dA : Nat → ClassId) (sz : Nat) (e0 mi : Nat) (ws : va_W) (la : Nat → Nat) (g : LI) (v : Nat) (fs : List Value) (hel : ∀ i : Nat, i < g.eN → ∀ y : Nat, g.el i = some y → ∃ vs : List Value, (y, .inr (13, vs)) ∈ ws) (h1 : 0 < g.eN) (h2 : g.eN ≤ 65536) (h3 : g.sz = g.eN) (mo : (v, .inr (13, fs)) ∈ ws) : Met l ⟨"java/util/ArrayList", "add", "(Ljava/lang/Object;[Ljava/lang/Object;I)V"⟩ [Cond.code ⟨"java/util/ArrayList", "add", "(Ljava/lang/Object;[Ljava/lang/Object;I)V"⟩ prog_37_method_24_code 4 none] { frames := 5, cells := 1, slots := g.eN + max 1 (g.eN / 2), locals := 127 } (pCy D dA e0 mi [.ref (la 0), .ref v, .ref g.eA, .int (nI g.sz)] (LiW dA la g ++ (ws)) sz) (va_Qv (fun (u9 : Nat) => True) (fun (u9 : Nat) t9 => bW D (va_A (LiW dA la g ++ (ws)) sz) (LiW dA la (LI.s_el (LI.s_eN (LI.s_eA (LI.s_sz g (g.sz + 1)) u9) (g.eN + max 1 (g.eN / 2))) (va_up (cpF g.el g.eN) g.sz (some v))) ++ (ws)) t9) (va_A (LiW dA la g ++ (ws)) sz)) 1 (g.eN + max 1 (g.eN / 2)) (va_A (LiW dA la g ++ (ws)) sz) := by
  refine mkY (y := ⟨"java/util/ArrayList", "add", "(Ljava/lang/Object;[Ljava/lang/Object;I)V"⟩) (cc := prog_37_method_24_code) (maxL := 4) (av := [.ref (la 0), .ref v, .ref g.eA, .int (nI g.sz)]) (ws := LiW dA la g ++ (ws)) (sz := sz) (Qc := fun A => va_Qv (fun (u9 : Nat) => True) (fun (u9 : Nat) t9 => bW D A (LiW dA la (LI.s_el (LI.s_eN (LI.s_eA (LI.s_sz g (g.sz + 1)) u9) (g.eN + max 1 (g.eN / 2))) (va_up (cpF g.el g.eN) g.sz (some v))) ++ (ws)) t9) A) (by decide) (Nat.le_of_ble_eq_true rfl) ?_
  intro A p e s m below meth c ls hsz hZ hT hM hB
  obtain ⟨hx, hb, hr, hml, hown, hin, hlk, hE, hK, hP, hD, hS, hA, hN, hl⟩ := hB
  have hown : s.vm.findClass "java/util/ArrayList" = some m.cls := hown
  have hl : lv_has ls 4 [(0, .ref (la 0)), (1, .ref v), (2, .ref g.eA), (3, .int (nI g.sz))] := hl
  obtain ⟨H, hH⟩ : ∃ z, z = s.heap := ⟨_, rfl⟩
  have hP : va_P D vwCl (LiW dA la g ++ (ws)) H := by rw [hH]; exact hP
  have hS : va_S A s.heap H [] := by rw [hH]; exact hS
  rw [← hH]
  refine lv_iload_n hx hb d_L_add_faf_0 rfl (lv_at hl 3 rfl) ?_
  refine lv_aload_n hx hb d_L_add_faf_1 rfl (lv_at hl 2 rfl) ?_
  refine va_alen (v := nI g.eN) hx hb hK hP (1) 7 rfl rfl rfl d_L_add_faf_2 ?_
  refine lv_icmp_ne hx hb d_L_add_faf_3 (tgt := 11) rfl (fun h9 => absurd ((nI_eq (a := g.sz) (b := g.eN) (by omega) (by omega)).mpr h3) h9) (fun _ => ?_)
  refine lv_aload_n hx hb d_L_add_faf_6 rfl (lv_at hl 0 rfl) ?_
  refine jkR (wr := []) (rnVy (As := []) (rest := []) hx hb hml hown hE hK hZ hT hM hS (hN _ _ hS) hP hD (v_Lgrow_E l D dA H.size e0 mi ws la g hel (show 0 < g.eN from by omega) (show g.eN ≤ 65536 from by omega) (show g.sz = g.eN from by omega)) (q0 := 0) rfl rfl w773 w772 w774 w775 w680 rfl rfl ⟨⟨by decide, by decide⟩, rfl⟩ ⟨(Nat.le_of_ble_eq_true rfl), (Nat.le_of_ble_eq_true rfl)⟩ rfl hl.1 rfl (Nat.le_of_ble_eq_true rfl) d_L_add_faf_7 ⟨(show 0 + 1 ≤ 1 by omega), (show 0 + (g.eN + max 1 (g.eN / 2)) ≤ g.eN + max 1 (g.eN / 2) by omega)⟩) hP hD hS hA (fun u1 b H locs hp9 hP hD hS => ?_)
  have hP : va_P D vwCl (LiW dA la (LI.s_el (LI.s_eN (LI.s_eA g b) (g.eN + max 1 (g.eN / 2))) (cpF g.el g.eN)) ++ (ws)) H := hP
  have hD : va_D A (LiW dA la (LI.s_el (LI.s_eN (LI.s_eA g b) (g.eN + max 1 (g.eN / 2))) (cpF g.el g.eN)) ++ (ws)) := hD
  refine lv_astore_n hx hb d_L_add_faf_10 rfl hl (by decide) rfl (fun ls hl => ?_)
  have hl : lv_has ls 4 [(2, .ref b), (0, .ref (la 0)), (1, .ref v), (3, .int (nI g.sz))] := hl
  refine lv_aload_n hx hb d_L_add_faf_11 rfl (lv_at hl 0 rfl) ?_
  refine lv_iload_n hx hb d_L_add_faf_12 rfl (lv_at hl 3 rfl) ?_
  refine lv_aload_n hx hb d_L_add_faf_13 rfl (lv_at hl 2 rfl) ?_
  obtain ⟨qp2, ep3⟩ := List.getElem?_of_mem (show ((v, .inr (13, fs)) : Nat × va_E) ∈ LiW dA la (LI.s_el (LI.s_eN (LI.s_eA g b) (g.eN + max 1 (g.eN / 2))) (cpF g.el g.eN)) ++ (ws) from (List.mem_append_right _ mo))
  refine nqstO (E := "java/lang/Object") (r := ("SeriesVault$Step", TE, 8)) (f := (cpF g.el g.eN)) (n := g.eN + max 1 (g.eN / 2)) hx hb hK hP hD hS (1) 7 (qp2) 13 rfl rfl (show va_Nw (.castable "SeriesVault$Step" "java/lang/Object") s from hE.1 _ w1457) ep3 rfl (g.sz) (by omega) (by omega) d_L_add_faf_14 (fun H locs hP hD hS => ?_)
  have hP : va_P D vwCl (LiW dA la (LI.s_el (LI.s_eN (LI.s_eA g b) (g.eN + max 1 (g.eN / 2))) (va_up (cpF g.el g.eN) g.sz (some v))) ++ (ws)) H := hP
  have hD : va_D A (LiW dA la (LI.s_el (LI.s_eN (LI.s_eA g b) (g.eN + max 1 (g.eN / 2))) (va_up (cpF g.el g.eN) g.sz (some v))) ++ (ws)) := hD
  refine lv_aload_n hx hb d_L_add_faf_15 rfl (lv_at hl 1 rfl) ?_
  refine lv_iload_n hx hb d_L_add_faf_16 rfl (lv_at hl 3 rfl) ?_
  refine lv_iconst (v := 1) hx hb d_L_add_faf_17 (by decide) ?_
  refine lv_iadd hx hb d_L_add_faf_18 (tpi (y := nI (g.sz + 1)) (nI_add (g.sz) (1)) ?_)
  refine pF (v := .int (nI (g.sz + 1))) hx hb hown hE hK hP hD hS 0 rfl rfl layL tyL tokL nmL 1 (by decide) w657 rfl rfl rfl (Nat.le_of_ble_eq_true rfl) d_L_add_faf_19 (fun H locs hP hD hS => ?_)
  have hP : va_P D vwCl (LiW dA la (LI.s_el (LI.s_eN (LI.s_eA (LI.s_sz g (g.sz + 1)) b) (g.eN + max 1 (g.eN / 2))) (va_up (cpF g.el g.eN) g.sz (some v))) ++ (ws)) H := hP
  have hD : va_D A (LiW dA la (LI.s_el (LI.s_eN (LI.s_eA (LI.s_sz g (g.sz + 1)) b) (g.eN + max 1 (g.eN / 2))) (va_up (cpF g.el g.eN) g.sz (some v))) ++ (ws)) := hD
  exact rfV hx hb hr hlk hS b trivial hP hD (show 0 + 1 ≤ 1 by omega) (show 0 + (g.eN + max 1 (g.eN / 2)) ≤ g.eN + max 1 (g.eN / 2) by omega) d_L_add_faf_22
set_option maxHeartbeats 4000000 in
set_option maxRecDepth 100000 in
theorem v_Ladd_gE (l : Launch) (D : va_G) (dA : Nat → ClassId) (sz : Nat) (e0 mi : Nat) (ws : va_W) (la : Nat → Nat) (g : LI) (v : Nat) (fs : List Value) (hel : ∀ i : Nat, i < g.eN → ∀ y : Nat, g.el i = some y → ∃ vs : List Value, (y, .inr (13, vs)) ∈ ws) (h1 : 0 < g.eN) (h2 : g.eN ≤ 65536) (h3 : g.sz = g.eN) (mo : (v, .inr (13, fs)) ∈ ws) : Met l ⟨"java/util/ArrayList", "add", "(Ljava/lang/Object;)Z"⟩ [Cond.code ⟨"java/util/ArrayList", "add", "(Ljava/lang/Object;)Z"⟩ prog_37_method_25_code 2 (some FieldType.boolean)] { frames := 6, cells := 1, slots := g.eN + max 1 (g.eN / 2), locals := 150 } (pCy D dA e0 mi [.ref (la 0), .ref v] (LiW dA la g ++ (ws)) sz) (va_Qi (fun (r9 : Int32) (u9 : Nat) => r9 = 1) (fun (u9 : Nat) t9 => bW D (va_A (LiW dA la g ++ (ws)) sz) (LiW dA la (LI.s_el (LI.s_eN (LI.s_eA (LI.s_mc (LI.s_sz g (g.sz + 1)) (g.mc + 1)) u9) (g.eN + max 1 (g.eN / 2))) (va_up (cpF g.el g.eN) g.sz (some v))) ++ (ws)) t9) (va_A (LiW dA la g ++ (ws)) sz)) 1 (g.eN + max 1 (g.eN / 2)) (va_A (LiW dA la g ++ (ws)) sz) := by
  refine mkY (y := ⟨"java/util/ArrayList", "add", "(Ljava/lang/Object;)Z"⟩) (cc := prog_37_method_25_code) (maxL := 2) (av := [.ref (la 0), .ref v]) (ws := LiW dA la g ++ (ws)) (sz := sz) (Qc := fun A => va_Qi (fun (r9 : Int32) (u9 : Nat) => r9 = 1) (fun (u9 : Nat) t9 => bW D A (LiW dA la (LI.s_el (LI.s_eN (LI.s_eA (LI.s_mc (LI.s_sz g (g.sz + 1)) (g.mc + 1)) u9) (g.eN + max 1 (g.eN / 2))) (va_up (cpF g.el g.eN) g.sz (some v))) ++ (ws)) t9) A) (by decide) (Nat.le_of_ble_eq_true rfl) ?_
  intro A p e s m below meth c ls hsz hZ hT hM hB
  obtain ⟨hx, hb, hr, hml, hown, hin, hlk, hE, hK, hP, hD, hS, hA, hN, hl⟩ := hB
  have hown : s.vm.findClass "java/util/ArrayList" = some m.cls := hown
  have hl : lv_has ls 2 [(0, .ref (la 0)), (1, .ref v)] := hl
  obtain ⟨H, hH⟩ : ∃ z, z = s.heap := ⟨_, rfl⟩
  have hP : va_P D vwCl (LiW dA la g ++ (ws)) H := by rw [hH]; exact hP
  have hS : va_S A s.heap H [] := by rw [hH]; exact hS
  rw [← hH]
  refine lv_aload_n hx hb d_L_add_9ae_0 rfl (lv_at hl 0 rfl) ?_
  refine lv_dup hx hb d_L_add_9ae_1 rfl ?_
  refine gFU (v := .int g.mc) hx hb hown hE hK hP 0 rfl rfl layL 2 (by decide) w654 w655 rfl d_L_add_9ae_2 ?_
  refine lv_iconst (v := 1) hx hb d_L_add_9ae_5 (by decide) ?_
  refine lv_iadd hx hb d_L_add_9ae_6 ?_
  refine pFU (v := .int (g.mc + 1)) hx hb hown hE hK hP hD hS 0 rfl rfl layL tyL tokL nmL 2 (by decide) w654 w655 rfl rfl rfl (Nat.le_of_ble_eq_true rfl) d_L_add_9ae_7 (fun H locs hP hD hS => ?_)
  have hP : va_P D vwCl (LiW dA la (LI.s_mc g (g.mc + 1)) ++ (ws)) H := hP
  have hD : va_D A (LiW dA la (LI.s_mc g (g.mc + 1)) ++ (ws)) := hD
  refine lv_aload_n hx hb d_L_add_9ae_10 rfl (lv_at hl 0 rfl) ?_
  refine lv_aload_n hx hb d_L_add_9ae_11 rfl (lv_at hl 1 rfl) ?_
  refine lv_aload_n hx hb d_L_add_9ae_12 rfl (lv_at hl 0 rfl) ?_
  refine gF (v := .ref g.eA) hx hb hown hE hK hP 0 rfl rfl layL 0 (by decide) w656 rfl d_L_add_9ae_13 ?_
  refine lv_aload_n hx hb d_L_add_9ae_16 rfl (lv_at hl 0 rfl) ?_
  refine gF (v := .int (nI g.sz)) hx hb hown hE hK hP 0 rfl rfl layL 1 (by decide) w657 rfl d_L_add_9ae_17 ?_
  refine jkV (wr := []) (rnVy (As := [.ref v, .ref g.eA, .int (nI g.sz)]) (rest := []) hx hb hml hown hE hK hZ hT hM hS (hN _ _ hS) hP hD (v_Ladd3_gE l D dA H.size e0 mi ws la (LI.s_mc g (g.mc + 1)) v fs hel (show 0 < g.eN from by omega) (show g.eN ≤ 65536 from by omega) (show g.sz = g.eN from by omega) mo) (q0 := 0) rfl rfl w778 w777 w779 w780 w680 rfl rfl ⟨⟨by decide, by decide⟩, rfl⟩ ⟨(Nat.le_of_ble_eq_true rfl), (Nat.le_of_ble_eq_true rfl)⟩ rfl hl.1 rfl (Nat.le_of_ble_eq_true rfl) d_L_add_9ae_20 ⟨(show 0 + 1 ≤ 1 by omega), (show 0 + (g.eN + max 1 (g.eN / 2)) ≤ g.eN + max 1 (g.eN / 2) by omega)⟩) hP hD hS hA (fun u2 H locs hp9 hP hD hS => ?_)
  obtain ⟨b, h9u⟩ : ∃ z9, z9 = u2 := ⟨_, rfl⟩
  subst h9u
  have hP : va_P D vwCl (LiW dA la (LI.s_el (LI.s_eN (LI.s_eA (LI.s_mc (LI.s_sz g (g.sz + 1)) (g.mc + 1)) b) (g.eN + max 1 (g.eN / 2))) (va_up (cpF g.el g.eN) g.sz (some v))) ++ (ws)) H := hP
  have hD : va_D A (LiW dA la (LI.s_el (LI.s_eN (LI.s_eA (LI.s_mc (LI.s_sz g (g.sz + 1)) (g.mc + 1)) b) (g.eN + max 1 (g.eN / 2))) (va_up (cpF g.el g.eN) g.sz (some v))) ++ (ws)) := hD
  refine lv_iconst (v := 1) hx hb d_L_add_9ae_23 (by decide) ?_
  exact rfZ hx hb hr (bI_nar true) hlk hS b rfl hP hD (show 0 + 1 ≤ 1 by omega) (show 0 + (g.eN + max 1 (g.eN / 2)) ≤ g.eN + max 1 (g.eN / 2) by omega) d_L_add_9ae_24
set_option maxHeartbeats 4000000 in
set_option maxRecDepth 100000 in
theorem v_Ladd3_0T (l : Launch) (D : va_G) (dA : Nat → ClassId) (sz : Nat) (e0 mi : Nat) (ws : va_W) (a : Nat) (mc : Int32) (v : Nat) (fs : List Value) (mo : (v, .inr (8, fs)) ∈ ws) : Met l ⟨"java/util/ArrayList", "add", "(Ljava/lang/Object;[Ljava/lang/Object;I)V"⟩ [Cond.code ⟨"java/util/ArrayList", "add", "(Ljava/lang/Object;[Ljava/lang/Object;I)V"⟩ prog_37_method_24_code 4 none] { frames := 3, cells := 1, slots := 10, locals := 57 } (pCy D dA e0 mi [.ref a, .ref v, .ref e0, .int 0] ([(a, .inr (6, [.ref e0, .int 0, .int mc]))] ++ (ws)) sz) (va_Qv (fun (u9 : Nat) => True) (fun (u9 : Nat) t9 => bW D (va_A ([(a, .inr (6, [.ref e0, .int 0, .int mc]))] ++ (ws)) sz) ([(u9, .inl (dA 7, 10, .inr (.inr (.inr (.inr (va_up (fun _ => none) 0 (some v)))))))] ++ ([(a, .inr (6, [.ref u9, .int 1, .int mc]))] ++ (ws))) t9) (va_A ([(a, .inr (6, [.ref e0, .int 0, .int mc]))] ++ (ws)) sz)) 1 10 (va_A ([(a, .inr (6, [.ref e0, .int 0, .int mc]))] ++ (ws)) sz) := by
  refine mkY (y := ⟨"java/util/ArrayList", "add", "(Ljava/lang/Object;[Ljava/lang/Object;I)V"⟩) (cc := prog_37_method_24_code) (maxL := 4) (av := [.ref a, .ref v, .ref e0, .int 0]) (ws := [(a, .inr (6, [.ref e0, .int 0, .int mc]))] ++ (ws)) (sz := sz) (Qc := fun A => va_Qv (fun (u9 : Nat) => True) (fun (u9 : Nat) t9 => bW D A ([(u9, .inl (dA 7, 10, .inr (.inr (.inr (.inr (va_up (fun _ => none) 0 (some v)))))))] ++ ([(a, .inr (6, [.ref u9, .int 1, .int mc]))] ++ (ws))) t9) A) (by decide) (Nat.le_of_ble_eq_true rfl) ?_
  intro A p e s m below meth c ls hsz hZ hT hM hB
  obtain ⟨hx, hb, hr, hml, hown, hin, hlk, hE, hK, hP, hD, hS, hA, hN, hl⟩ := hB
  have hown : s.vm.findClass "java/util/ArrayList" = some m.cls := hown
  have hl : lv_has ls 4 [(0, .ref a), (1, .ref v), (2, .ref e0), (3, .int 0)] := hl
  obtain ⟨H, hH⟩ : ∃ z, z = s.heap := ⟨_, rfl⟩
  have hP : va_P D vwCl ([(a, .inr (6, [.ref e0, .int 0, .int mc]))] ++ (ws)) H := by rw [hH]; exact hP
  have hS : va_S A s.heap H [] := by rw [hH]; exact hS
  rw [← hH]
  refine lv_iload_n hx hb d_L_add_faf_0 rfl (lv_at hl 3 rfl) ?_
  refine lv_aload_n hx hb d_L_add_faf_1 rfl (lv_at hl 2 rfl) ?_
  refine va_tlen (v := 0) hx hb hT hS (by decide) d_L_add_faf_2 ?_
  refine lv_icmp_ne hx hb d_L_add_faf_3 (tgt := 11) rfl (fun h9 => absurd (by decide) h9) (fun _ => ?_)
  refine lv_aload_n hx hb d_L_add_faf_6 rfl (lv_at hl 0 rfl) ?_
  refine jkR (wr := []) (rnVy (As := []) (rest := []) hx hb hml hown hE hK hZ hT hM hS (hN _ _ hS) hP hD (v_Lgrow_0 l D dA H.size e0 mi ws a mc) (q0 := 0) rfl rfl w773 w772 w774 w775 w680 rfl rfl ⟨⟨by decide, by decide⟩, rfl⟩ ⟨(Nat.le_of_ble_eq_true rfl), (Nat.le_of_ble_eq_true rfl)⟩ rfl hl.1 rfl (Nat.le_of_ble_eq_true rfl) d_L_add_faf_7 ⟨(show 0 + 1 ≤ 1 by omega), (show 0 + 10 ≤ 10 by omega)⟩) hP hD hS hA (fun u1 b H locs hp9 hP hD hS => ?_)
  have hP : va_P D vwCl ([(b, .inl (dA 7, 10, .inr (.inr (.inr (.inr (fun _ => none))))))] ++ ([(a, .inr (6, [.ref b, .int 0, .int mc]))] ++ (ws))) H := hP
  have hD : va_D A ([(b, .inl (dA 7, 10, .inr (.inr (.inr (.inr (fun _ => none))))))] ++ ([(a, .inr (6, [.ref b, .int 0, .int mc]))] ++ (ws))) := hD
  refine lv_astore_n hx hb d_L_add_faf_10 rfl hl (by decide) rfl (fun ls hl => ?_)
  have hl : lv_has ls 4 [(2, .ref b), (0, .ref a), (1, .ref v), (3, .int 0)] := hl
  refine lv_aload_n hx hb d_L_add_faf_11 rfl (lv_at hl 0 rfl) ?_
  refine lv_iload_n hx hb d_L_add_faf_12 rfl (lv_at hl 3 rfl) ?_
  refine lv_aload_n hx hb d_L_add_faf_13 rfl (lv_at hl 2 rfl) ?_
  obtain ⟨qp2, ep3⟩ := List.getElem?_of_mem (show ((v, .inr (8, fs)) : Nat × va_E) ∈ [(b, .inl (dA 7, 10, .inr (.inr (.inr (.inr (fun _ => none))))))] ++ ([(a, .inr (6, [.ref b, .int 0, .int mc]))] ++ (ws)) from (List.mem_append_right _ (List.mem_append_right _ mo)))
  refine nqstO (E := "java/lang/Object") (r := ("SeriesVault$Table", TT, 7)) (f := (fun _ => none)) (n := 10) hx hb hK hP hD hS (0) 7 (qp2) 8 rfl rfl (show va_Nw (.castable "SeriesVault$Table" "java/lang/Object") s from hE.1 _ w776) ep3 rfl (0) (by omega) (by decide) d_L_add_faf_14 (fun H locs hP hD hS => ?_)
  have hP : va_P D vwCl ([(b, .inl (dA 7, 10, .inr (.inr (.inr (.inr (va_up (fun _ => none) 0 (some v)))))))] ++ ([(a, .inr (6, [.ref b, .int 0, .int mc]))] ++ (ws))) H := hP
  have hD : va_D A ([(b, .inl (dA 7, 10, .inr (.inr (.inr (.inr (va_up (fun _ => none) 0 (some v)))))))] ++ ([(a, .inr (6, [.ref b, .int 0, .int mc]))] ++ (ws))) := hD
  refine lv_aload_n hx hb d_L_add_faf_15 rfl (lv_at hl 1 rfl) ?_
  refine lv_iload_n hx hb d_L_add_faf_16 rfl (lv_at hl 3 rfl) ?_
  refine lv_iconst (v := 1) hx hb d_L_add_faf_17 (by decide) ?_
  refine lv_iadd hx hb d_L_add_faf_18 (tpi (y := 1) (by decide) ?_)
  refine tpi (y := 1) (by decide) ?_
  refine pF (v := .int 1) hx hb hown hE hK hP hD hS 1 rfl rfl layL tyL tokL nmL 1 (by decide) w657 rfl rfl rfl (Nat.le_of_ble_eq_true rfl) d_L_add_faf_19 (fun H locs hP hD hS => ?_)
  have hP : va_P D vwCl ([(b, .inl (dA 7, 10, .inr (.inr (.inr (.inr (va_up (fun _ => none) 0 (some v)))))))] ++ ([(a, .inr (6, [.ref b, .int 1, .int mc]))] ++ (ws))) H := hP
  have hD : va_D A ([(b, .inl (dA 7, 10, .inr (.inr (.inr (.inr (va_up (fun _ => none) 0 (some v)))))))] ++ ([(a, .inr (6, [.ref b, .int 1, .int mc]))] ++ (ws))) := hD
  exact rfV hx hb hr hlk hS b trivial hP hD (show 0 + 1 ≤ 1 by omega) (show 0 + 10 ≤ 10 by omega) d_L_add_faf_22
set_option maxHeartbeats 4000000 in
set_option maxRecDepth 100000 in
theorem v_Ladd_0T (l : Launch) (D : va_G) (dA : Nat → ClassId) (sz : Nat) (e0 mi : Nat) (ws : va_W) (a : Nat) (mc : Int32) (v : Nat) (fs : List Value) (mo : (v, .inr (8, fs)) ∈ ws) : Met l ⟨"java/util/ArrayList", "add", "(Ljava/lang/Object;)Z"⟩ [Cond.code ⟨"java/util/ArrayList", "add", "(Ljava/lang/Object;)Z"⟩ prog_37_method_25_code 2 (some FieldType.boolean)] { frames := 4, cells := 1, slots := 10, locals := 80 } (pCy D dA e0 mi [.ref a, .ref v] ([(a, .inr (6, [.ref e0, .int 0, .int mc]))] ++ (ws)) sz) (va_Qi (fun (r9 : Int32) (u9 : Nat) => r9 = 1) (fun (u9 : Nat) t9 => bW D (va_A ([(a, .inr (6, [.ref e0, .int 0, .int mc]))] ++ (ws)) sz) ([(u9, .inl (dA 7, 10, .inr (.inr (.inr (.inr (va_up (fun _ => none) 0 (some v)))))))] ++ ([(a, .inr (6, [.ref u9, .int 1, .int (mc + 1)]))] ++ (ws))) t9) (va_A ([(a, .inr (6, [.ref e0, .int 0, .int mc]))] ++ (ws)) sz)) 1 10 (va_A ([(a, .inr (6, [.ref e0, .int 0, .int mc]))] ++ (ws)) sz) := by
  refine mkY (y := ⟨"java/util/ArrayList", "add", "(Ljava/lang/Object;)Z"⟩) (cc := prog_37_method_25_code) (maxL := 2) (av := [.ref a, .ref v]) (ws := [(a, .inr (6, [.ref e0, .int 0, .int mc]))] ++ (ws)) (sz := sz) (Qc := fun A => va_Qi (fun (r9 : Int32) (u9 : Nat) => r9 = 1) (fun (u9 : Nat) t9 => bW D A ([(u9, .inl (dA 7, 10, .inr (.inr (.inr (.inr (va_up (fun _ => none) 0 (some v)))))))] ++ ([(a, .inr (6, [.ref u9, .int 1, .int (mc + 1)]))] ++ (ws))) t9) A) (by decide) (Nat.le_of_ble_eq_true rfl) ?_
  intro A p e s m below meth c ls hsz hZ hT hM hB
  obtain ⟨hx, hb, hr, hml, hown, hin, hlk, hE, hK, hP, hD, hS, hA, hN, hl⟩ := hB
  have hown : s.vm.findClass "java/util/ArrayList" = some m.cls := hown
  have hl : lv_has ls 2 [(0, .ref a), (1, .ref v)] := hl
  obtain ⟨H, hH⟩ : ∃ z, z = s.heap := ⟨_, rfl⟩
  have hP : va_P D vwCl ([(a, .inr (6, [.ref e0, .int 0, .int mc]))] ++ (ws)) H := by rw [hH]; exact hP
  have hS : va_S A s.heap H [] := by rw [hH]; exact hS
  rw [← hH]
  refine lv_aload_n hx hb d_L_add_9ae_0 rfl (lv_at hl 0 rfl) ?_
  refine lv_dup hx hb d_L_add_9ae_1 rfl ?_
  refine gFU (v := .int mc) hx hb hown hE hK hP 0 rfl rfl layL 2 (by decide) w654 w655 rfl d_L_add_9ae_2 ?_
  refine lv_iconst (v := 1) hx hb d_L_add_9ae_5 (by decide) ?_
  refine lv_iadd hx hb d_L_add_9ae_6 ?_
  refine pFU (v := .int (mc + 1)) hx hb hown hE hK hP hD hS 0 rfl rfl layL tyL tokL nmL 2 (by decide) w654 w655 rfl rfl rfl (Nat.le_of_ble_eq_true rfl) d_L_add_9ae_7 (fun H locs hP hD hS => ?_)
  have hP : va_P D vwCl ([(a, .inr (6, [.ref e0, .int 0, .int (mc + 1)]))] ++ (ws)) H := hP
  have hD : va_D A ([(a, .inr (6, [.ref e0, .int 0, .int (mc + 1)]))] ++ (ws)) := hD
  refine lv_aload_n hx hb d_L_add_9ae_10 rfl (lv_at hl 0 rfl) ?_
  refine lv_aload_n hx hb d_L_add_9ae_11 rfl (lv_at hl 1 rfl) ?_
  refine lv_aload_n hx hb d_L_add_9ae_12 rfl (lv_at hl 0 rfl) ?_
  refine gF (v := .ref e0) hx hb hown hE hK hP 0 rfl rfl layL 0 (by decide) w656 rfl d_L_add_9ae_13 ?_
  refine lv_aload_n hx hb d_L_add_9ae_16 rfl (lv_at hl 0 rfl) ?_
  refine gF (v := .int 0) hx hb hown hE hK hP 0 rfl rfl layL 1 (by decide) w657 rfl d_L_add_9ae_17 ?_
  refine jkV (wr := []) (rnVy (As := [.ref v, .ref e0, .int 0]) (rest := []) hx hb hml hown hE hK hZ hT hM hS (hN _ _ hS) hP hD (v_Ladd3_0T l D dA H.size e0 mi ws a (mc + 1) v fs mo) (q0 := 0) rfl rfl w778 w777 w779 w780 w680 rfl rfl ⟨⟨by decide, by decide⟩, rfl⟩ ⟨(Nat.le_of_ble_eq_true rfl), (Nat.le_of_ble_eq_true rfl)⟩ rfl hl.1 rfl (Nat.le_of_ble_eq_true rfl) d_L_add_9ae_20 ⟨(show 0 + 1 ≤ 1 by omega), (show 0 + 10 ≤ 10 by omega)⟩) hP hD hS hA (fun u2 H locs hp9 hP hD hS => ?_)
  obtain ⟨b, h9u⟩ : ∃ z9, z9 = u2 := ⟨_, rfl⟩
  subst h9u
  have hP : va_P D vwCl ([(b, .inl (dA 7, 10, .inr (.inr (.inr (.inr (va_up (fun _ => none) 0 (some v)))))))] ++ ([(a, .inr (6, [.ref b, .int 1, .int (mc + 1)]))] ++ (ws))) H := hP
  have hD : va_D A ([(b, .inl (dA 7, 10, .inr (.inr (.inr (.inr (va_up (fun _ => none) 0 (some v)))))))] ++ ([(a, .inr (6, [.ref b, .int 1, .int (mc + 1)]))] ++ (ws))) := hD
  refine lv_iconst (v := 1) hx hb d_L_add_9ae_23 (by decide) ?_
  exact rfZ hx hb hr (bI_nar true) hlk hS b rfl hP hD (show 0 + 1 ≤ 1 by omega) (show 0 + 10 ≤ 10 by omega) d_L_add_9ae_24
set_option maxHeartbeats 4000000 in
set_option maxRecDepth 100000 in
theorem v_ocopy3_T (l : Launch) (D : va_G) (dA : Nat → ClassId) (sz : Nat) (e0 mi : Nat) (ws : va_W) (arr : Nat) (k : Nat) (f : Nat → Option Nat) (n : Nat) (m1 : (arr, .inl (dA 7, k, .inr (.inr (.inr (.inr f))))) ∈ ws) (hel : ∀ i : Nat, i < k → ∀ y : Nat, f i = some y → ∃ vs : List Value, (y, .inr (8, vs)) ∈ ws) (h1 : k ≤ n) (h2 : n ≤ 131072) : Met l ⟨"java/util/Arrays", "copyOf", "([Ljava/lang/Object;ILjava/lang/Class;)[Ljava/lang/Object;"⟩ [Cond.code ⟨"java/util/Arrays", "copyOf", "([Ljava/lang/Object;ILjava/lang/Class;)[Ljava/lang/Object;"⟩ prog_38_method_120_code 4 (some (FieldType.array (FieldType.object "java/lang/Object")))] { frames := 1, cells := 1, slots := n, locals := 40 } (pCy D dA e0 mi [.ref arr, .int (nI n), .ref mi] (ws) sz) (va_Qr (fun (_ : (Nat → Option Nat)) => True) (fun (u9 : (Nat → Option Nat)) (r9 : Nat) t9 => (u9 = cpF f k) ∧ bW D (va_A (ws) sz) ([(r9, .inl (dA 7, n, .inr (.inr (.inr (.inr u9)))))] ++ (ws)) t9) (va_A (ws) sz)) 1 n (va_A (ws) sz) := by
  refine mkY (y := ⟨"java/util/Arrays", "copyOf", "([Ljava/lang/Object;ILjava/lang/Class;)[Ljava/lang/Object;"⟩) (cc := prog_38_method_120_code) (maxL := 4) (av := [.ref arr, .int (nI n), .ref mi]) (ws := ws) (sz := sz) (Qc := fun A => va_Qr (fun (_ : (Nat → Option Nat)) => True) (fun (u9 : (Nat → Option Nat)) (r9 : Nat) t9 => (u9 = cpF f k) ∧ bW D A ([(r9, .inl (dA 7, n, .inr (.inr (.inr (.inr u9)))))] ++ (ws)) t9) A) (by decide) (Nat.le_of_ble_eq_true rfl) ?_
  intro A p e s m below meth c ls hsz hZ hT hM hB
  obtain ⟨hx, hb, hr, hml, hown, hin, hlk, hE, hK, hP, hD, hS, hA, hN, hl⟩ := hB
  have hown : s.vm.findClass "java/util/Arrays" = some m.cls := hown
  have hl : lv_has ls 4 [(0, .ref arr), (1, .int (nI n)), (2, .ref mi)] := hl
  obtain ⟨H, hH⟩ : ∃ z, z = s.heap := ⟨_, rfl⟩
  have hP : va_P D vwCl (ws) H := by rw [hH]; exact hP
  have hS : va_S A s.heap H [] := by rw [hH]; exact hS
  rw [← hH]
  refine lv_aload_n hx hb d_Arrays_copyOf_918_0 rfl (lv_at hl 2 rfl) ?_
  refine va_ldcM hx hb hown (hE.t w1460 rfl) hM d_Arrays_copyOf_918_1 ?_
  refine lv_acmp_ne (rx := some mi) (ry := some mi) hx hb d_Arrays_copyOf_918_3 (tgt := 13) rfl (fun h9 => absurd rfl h9) (fun _ => ?_)
  refine lv_iload_n hx hb d_Arrays_copyOf_918_6 rfl (lv_at hl 1 rfl) ?_
  refine nnQ (N' := n) hx hb hown hE w1461 w767 hK hP hD hS hA 7 rfl (by omega) (show n * 4 ≤ 536870912 by omega) (show 0 + 1 ≤ 1 by omega) (show 0 + n ≤ n by omega) d_Arrays_copyOf_918_7 (fun r9 H hP hD hS => ?_)
  have hP : va_P D vwCl ([(r9, .inl (dA 7, n, .inr (.inr (.inr (.inr (fun _ => none))))))] ++ (ws)) H := hP
  have hD : va_D A ([(r9, .inl (dA 7, n, .inr (.inr (.inr (.inr (fun _ => none))))))] ++ (ws)) := hD
  refine lv_goto hx hb d_Arrays_copyOf_918_10 (tgt := 24) rfl ?_
  refine lv_astore_n hx hb d_Arrays_copyOf_918_24 rfl hl (by decide) rfl (fun ls hl => ?_)
  have hl : lv_has ls 4 [(3, .ref r9), (0, .ref arr), (1, .int (nI n)), (2, .ref mi)] := hl
  refine lv_aload_n hx hb d_Arrays_copyOf_918_25 rfl (lv_at hl 1 rfl) ?_
  refine lv_iconst (v := 0) hx hb d_Arrays_copyOf_918_26 (by decide) ?_
  refine lv_aload_n hx hb d_Arrays_copyOf_918_27 rfl (lv_at hl 0 rfl) ?_
  refine lv_iconst (v := 0) hx hb d_Arrays_copyOf_918_28 (by decide) ?_
  refine lv_aload_n hx hb d_Arrays_copyOf_918_29 rfl (lv_at hl 1 rfl) ?_
  obtain ⟨qp1, ep2⟩ := List.getElem?_of_mem (show ((arr, .inl (dA 7, k, .inr (.inr (.inr (.inr f))))) : Nat × va_E) ∈ [(r9, .inl (dA 7, n, .inr (.inr (.inr (.inr (fun _ => none))))))] ++ (ws) from (List.mem_append_right _ m1))
  refine va_alen (v := nI k) hx hb hK hP (qp1) 7 ep2 rfl rfl d_Arrays_copyOf_918_30 ?_
  refine lv_iload_n hx hb d_Arrays_copyOf_918_31 rfl (lv_at hl 2 rfl) ?_
  refine va_mmin hx hb (hml.trans hl.1.symm) hown (hE.t w1109 rfl) (hE.t w548 rfl) (hE.t w549 rfl) (hE.t w550 rfl) (Nat.le_of_ble_eq_true rfl) (Nat.le_of_ble_eq_true rfl) (show 0 + 1 ≤ 1 by omega) (show 0 + n ≤ n by omega) d_Arrays_copyOf_918_32 (tpi (y := nI (min k n)) (nI_min (a := k) (b := n) (by omega) (by omega)) ?_)
  obtain ⟨qp3, ep4⟩ := List.getElem?_of_mem (show ((arr, .inl (dA 7, k, .inr (.inr (.inr (.inr f))))) : Nat × va_E) ∈ [(r9, .inl (dA 7, n, .inr (.inr (.inr (.inr (fun _ => none))))))] ++ (ws) from (List.mem_append_right _ m1))
  refine ncpyO (E := "java/lang/Object") (r := ("SeriesVault$Table", TT, 7)) (f := f) (g := (fun _ => none)) (n0 := k) (n1 := n) hx hb (hml.trans hl.1.symm) hown (hE.t w1110 rfl) (hE.t w720 rfl) (hE.t w721 rfl) (hE.t w722 rfl) hK hP hD hS (qp3) (0) 7 8 (show va_Nw (.castable "SeriesVault$Table" "java/lang/Object") s from hE.1 _ w776) ep4 rfl rfl rfl (0) (0) (min k n) (by omega) (by omega) (by omega) (by omega) (by omega) (fun i hi y hy => by obtain ⟨vs, hv⟩ := hel i (by omega) y (by rw [Nat.zero_add] at hy; exact hy); exact ⟨vs, (List.mem_append_right _ hv)⟩) (Nat.le_of_ble_eq_true rfl) (Nat.le_of_ble_eq_true rfl) d_Arrays_copyOf_918_35 (fun H locs hP hD hS => ?_)
  have hP : va_P D vwCl ([(r9, .inl (dA 7, n, .inr (.inr (.inr (.inr (va_cpy f (fun _ => none) 0 0 (min k n)))))))] ++ (ws)) H := hP
  have hD : va_D A ([(r9, .inl (dA 7, n, .inr (.inr (.inr (.inr (va_cpy f (fun _ => none) 0 0 (min k n)))))))] ++ (ws)) := hD
  refine lv_aload_n hx hb d_Arrays_copyOf_918_38 rfl (lv_at hl 0 rfl) ?_
  exact rkR hx hb hr (Or.inr ⟨_, rfl⟩) hlk hS (va_cpy f (fun _ => none) 0 0 (min k n)) (cpF_e h1) hP hD (show 0 + 1 ≤ 1 by omega) (show 0 + n ≤ n by omega) d_Arrays_copyOf_918_39
set_option maxHeartbeats 4000000 in
set_option maxRecDepth 100000 in
theorem v_ocopy_T (l : Launch) (D : va_G) (dA : Nat → ClassId) (sz : Nat) (e0 mi : Nat) (ws : va_W) (arr : Nat) (k : Nat) (f : Nat → Option Nat) (n : Nat) (m1 : (arr, .inl (dA 7, k, .inr (.inr (.inr (.inr f))))) ∈ ws) (hel : ∀ i : Nat, i < k → ∀ y : Nat, f i = some y → ∃ vs : List Value, (y, .inr (8, vs)) ∈ ws) (h1 : k ≤ n) (h2 : n ≤ 131072) : Met l ⟨"java/util/Arrays", "copyOf", "([Ljava/lang/Object;I)[Ljava/lang/Object;"⟩ [Cond.code ⟨"java/util/Arrays", "copyOf", "([Ljava/lang/Object;I)[Ljava/lang/Object;"⟩ prog_38_method_119_code 2 (some (FieldType.array (FieldType.object "java/lang/Object")))] { frames := 2, cells := 1, slots := n, locals := 63 } (pCy D dA e0 mi [.ref arr, .int (nI n)] (ws) sz) (va_Qr (fun (_ : (Nat → Option Nat)) => True) (fun (u9 : (Nat → Option Nat)) (r9 : Nat) t9 => (u9 = cpF f k) ∧ bW D (va_A (ws) sz) ([(r9, .inl (dA 7, n, .inr (.inr (.inr (.inr u9)))))] ++ (ws)) t9) (va_A (ws) sz)) 1 n (va_A (ws) sz) := by
  refine mkY (y := ⟨"java/util/Arrays", "copyOf", "([Ljava/lang/Object;I)[Ljava/lang/Object;"⟩) (cc := prog_38_method_119_code) (maxL := 2) (av := [.ref arr, .int (nI n)]) (ws := ws) (sz := sz) (Qc := fun A => va_Qr (fun (_ : (Nat → Option Nat)) => True) (fun (u9 : (Nat → Option Nat)) (r9 : Nat) t9 => (u9 = cpF f k) ∧ bW D A ([(r9, .inl (dA 7, n, .inr (.inr (.inr (.inr u9)))))] ++ (ws)) t9) A) (by decide) (Nat.le_of_ble_eq_true rfl) ?_
  intro A p e s m below meth c ls hsz hZ hT hM hB
  obtain ⟨hx, hb, hr, hml, hown, hin, hlk, hE, hK, hP, hD, hS, hA, hN, hl⟩ := hB
  have hown : s.vm.findClass "java/util/Arrays" = some m.cls := hown
  have hl : lv_has ls 2 [(0, .ref arr), (1, .int (nI n))] := hl
  obtain ⟨H, hH⟩ : ∃ z, z = s.heap := ⟨_, rfl⟩
  have hP : va_P D vwCl (ws) H := by rw [hH]; exact hP
  have hS : va_S A s.heap H [] := by rw [hH]; exact hS
  rw [← hH]
  refine lv_aload_n hx hb d_Arrays_copyOf_5ca_0 rfl (lv_at hl 0 rfl) ?_
  refine lv_iload_n hx hb d_Arrays_copyOf_5ca_1 rfl (lv_at hl 1 rfl) ?_
  refine lv_aload_n hx hb d_Arrays_copyOf_5ca_2 rfl (lv_at hl 0 rfl) ?_
  obtain ⟨qp1, ep2⟩ := List.getElem?_of_mem (show ((arr, .inl (dA 7, k, .inr (.inr (.inr (.inr f))))) : Nat × va_E) ∈ ws from m1)
  refine ngetC hx hb (hml.trans hl.1.symm) hown hE w1462 w1463 w1464 w1465 w1466 hM hK hP (qp1) ep2 (Nat.le_of_ble_eq_true rfl) (Nat.le_of_ble_eq_true rfl) d_Arrays_copyOf_5ca_3 ?_
  refine jkR (wr := []) (rnSy (As := [.ref arr, .int (nI n), .ref mi]) (rest := []) hx hb hml hown hE hK hZ hT hM hS (hN _ _ hS) hP hD (v_ocopy3_T l D dA H.size e0 mi ws arr k f n m1 hel (show k ≤ n from by omega) (show n ≤ 131072 from by omega)) w1468 w1467 w1469 w712 rfl rfl ⟨⟨by decide, by decide⟩, rfl⟩ ⟨(Nat.le_of_ble_eq_true rfl), (Nat.le_of_ble_eq_true rfl)⟩ rfl hl.1 rfl (Nat.le_of_ble_eq_true rfl) d_Arrays_copyOf_5ca_6 ⟨(show 0 + 1 ≤ 1 by omega), (show 0 + n ≤ n by omega)⟩) hP hD hS hA (fun u3 r9 H locs hp9 hP hD hS => ?_)
  obtain ⟨gx, h9u⟩ : ∃ z9, z9 = u3 := ⟨_, rfl⟩
  subst h9u
  have hP : va_P D vwCl ([(r9, .inl (dA 7, n, .inr (.inr (.inr (.inr gx)))))] ++ (ws)) H := hP
  have hD : va_D A ([(r9, .inl (dA 7, n, .inr (.inr (.inr (.inr gx)))))] ++ (ws)) := hD
  have f_e_4 := hp9
  exact rkR hx hb hr (Or.inr ⟨_, rfl⟩) hlk hS gx f_e_4 hP hD (show 0 + 1 ≤ 1 by omega) (show 0 + n ≤ n by omega) d_Arrays_copyOf_5ca_9
set_option maxHeartbeats 4000000 in
set_option maxRecDepth 100000 in
theorem v_Lgrow1_T (l : Launch) (D : va_G) (dA : Nat → ClassId) (sz : Nat) (e0 mi : Nat) (ws : va_W) (la : Nat → Nat) (g : LI) (mn : Nat) (hel : ∀ i : Nat, i < g.eN → ∀ y : Nat, g.el i = some y → ∃ vs : List Value, (y, .inr (8, vs)) ∈ ws) (h1 : 0 < g.eN) (h2 : g.eN ≤ 65536) (h3 : g.sz = g.eN) (h4 : mn = g.eN + 1) : Met l ⟨"java/util/ArrayList", "grow", "(I)[Ljava/lang/Object;"⟩ [Cond.code ⟨"java/util/ArrayList", "grow", "(I)[Ljava/lang/Object;"⟩ prog_37_method_6_code 4 (some (FieldType.array (FieldType.object "java/lang/Object")))] { frames := 3, cells := 1, slots := g.eN + max 1 (g.eN / 2), locals := 84 } (pCy D dA e0 mi [.ref (la 0), .int (nI mn)] (LiW dA la g ++ (ws)) sz) (va_Qr (fun (_ : Unit) => True) (fun (u9 : Unit) (r9 : Nat) t9 => (True) ∧ bW D (va_A (LiW dA la g ++ (ws)) sz) (LiW dA la (LI.s_el (LI.s_eN (LI.s_eA g r9) (g.eN + max 1 (g.eN / 2))) (cpF g.el g.eN)) ++ (ws)) t9) (va_A (LiW dA la g ++ (ws)) sz)) 1 (g.eN + max 1 (g.eN / 2)) (va_A (LiW dA la g ++ (ws)) sz) := by
  refine mkY (y := ⟨"java/util/ArrayList", "grow", "(I)[Ljava/lang/Object;"⟩) (cc := prog_37_method_6_code) (maxL := 4) (av := [.ref (la 0), .int (nI mn)]) (ws := LiW dA la g ++ (ws)) (sz := sz) (Qc := fun A => va_Qr (fun (_ : Unit) => True) (fun (u9 : Unit) (r9 : Nat) t9 => (True) ∧ bW D A (LiW dA la (LI.s_el (LI.s_eN (LI.s_eA g r9) (g.eN + max 1 (g.eN / 2))) (cpF g.el g.eN)) ++ (ws)) t9) A) (by decide) (Nat.le_of_ble_eq_true rfl) ?_
  intro A p e s m below meth c ls hsz hZ hT hM hB
  obtain ⟨hx, hb, hr, hml, hown, hin, hlk, hE, hK, hP, hD, hS, hA, hN, hl⟩ := hB
  have hown : s.vm.findClass "java/util/ArrayList" = some m.cls := hown
  have hl : lv_has ls 4 [(0, .ref (la 0)), (1, .int (nI mn))] := hl
  obtain ⟨H, hH⟩ : ∃ z, z = s.heap := ⟨_, rfl⟩
  have hP : va_P D vwCl (LiW dA la g ++ (ws)) H := by rw [hH]; exact hP
  have hS : va_S A s.heap H [] := by rw [hH]; exact hS
  rw [← hH]
  refine lv_aload_n hx hb d_L_grow_6cd_0 rfl (lv_at hl 0 rfl) ?_
  refine gF (v := .ref g.eA) hx hb hown hE hK hP 0 rfl rfl layL 0 (by decide) w656 rfl d_L_grow_6cd_1 ?_
  refine va_alen (v := nI g.eN) hx hb hK hP (1) 7 rfl rfl rfl d_L_grow_6cd_4 ?_
  refine lv_istore_n hx hb d_L_grow_6cd_5 rfl hl (by decide) rfl (fun ls hl => ?_)
  have hl : lv_has ls 4 [(2, .int (nI g.eN)), (0, .ref (la 0)), (1, .int (nI mn))] := hl
  refine lv_iload_n hx hb d_L_grow_6cd_6 rfl (lv_at hl 0 rfl) ?_
  refine lv_if_gt hx hb d_L_grow_6cd_7 (tgt := 20) rfl (fun _ => ?_) (fun h9 => absurd ((nI_ltI (a := 0) (b := g.eN) (by omega) (by omega)).mpr h1) h9)
  refine lv_iload_n hx hb d_L_grow_6cd_20 rfl (lv_at hl 0 rfl) ?_
  refine lv_iload_n hx hb d_L_grow_6cd_21 rfl (lv_at hl 2 rfl) ?_
  refine lv_iload_n hx hb d_L_grow_6cd_22 rfl (lv_at hl 0 rfl) ?_
  refine lv_isub hx hb d_L_grow_6cd_23 (tpi (y := nI (mn - g.eN)) (pk_sub (a := mn) (b := g.eN) (by omega)) ?_)
  refine lv_iload_n hx hb d_L_grow_6cd_24 rfl (lv_at hl 0 rfl) ?_
  refine lv_iconst (v := 1) hx hb d_L_grow_6cd_25 (by decide) ?_
  refine lv_ishr hx hb d_L_grow_6cd_26 (tpi (y := nI (g.eN / 2)) (sar_nI (a := g.eN) (by omega)) ?_)
  have e5 : mn - g.eN = 1 := by omega
  have e5 : mn - g.eN = 1 := by omega
  have hPc := hP.sub (ws' := []) [] rfl
  have hDc := hD.sub (ws' := []) [] (by decide) rfl
  refine jpI (rnS (As := [.int (nI g.eN), .int (nI (mn - g.eN)), .int (nI (g.eN / 2))]) (rest := []) hx hb hml hown hE hK (hN _ _ hS) hPc hDc (v_newLength l D dA H.size g.eN (mn - g.eN) (g.eN / 2) (show 1 ≤ (mn - g.eN) from by omega) (show g.eN ≤ 65536 from by omega) (show (mn - g.eN) ≤ 65536 from by omega) (show (g.eN / 2) ≤ 65536 from by omega)) w1472 w1470 w1473 w1471 rfl rfl ⟨⟨by decide, by decide⟩, rfl⟩ ⟨(Nat.le_of_ble_eq_true rfl), (Nat.le_of_ble_eq_true rfl)⟩ rfl hl.1 rfl (Nat.le_of_ble_eq_true rfl) d_L_grow_6cd_27 ⟨(show 0 + 0 ≤ 1 by omega), (show 0 + 0 ≤ g.eN + max 1 (g.eN / 2) by omega)⟩) hP hD hS hA (fun r1 u9 H locs hp9 hP hD hS => ?_)
  have hP : va_P D vwCl (LiW dA la g ++ (ws)) H := hP
  have hD : va_D A (LiW dA la g ++ (ws)) := hD
  replace hp9 : nI (g.eN + max (mn - g.eN) (g.eN / 2)) = r1 := Eq.symm hp9
  subst hp9
  refine lv_istore_n hx hb d_L_grow_6cd_30 rfl hl (by decide) rfl (fun ls hl => ?_)
  have hl : lv_has ls 4 [(3, .int (nI (g.eN + max (mn - g.eN) (g.eN / 2)))), (2, .int (nI g.eN)), (0, .ref (la 0)), (1, .int (nI mn))] := hl
  refine lv_aload_n hx hb d_L_grow_6cd_31 rfl (lv_at hl 2 rfl) ?_
  refine lv_aload_n hx hb d_L_grow_6cd_32 rfl (lv_at hl 2 rfl) ?_
  refine gF (v := .ref g.eA) hx hb hown hE hK hP 0 rfl rfl layL 0 (by decide) w656 rfl d_L_grow_6cd_33 ?_
  refine lv_iload_n hx hb d_L_grow_6cd_36 rfl (lv_at hl 0 rfl) ?_
  refine jkR (wr := []) (rnSy (As := [.ref g.eA, .int (nI (g.eN + max (mn - g.eN) (g.eN / 2)))]) (rest := [.ref (la 0)]) hx hb hml hown hE hK hZ hT hM hS (hN _ _ hS) hP hD (v_ocopy_T l D dA H.size e0 mi (LiW dA la g ++ (ws)) g.eA g.eN g.el (g.eN + max (mn - g.eN) (g.eN / 2)) (List.mem_of_getElem? (i := 1) rfl) (fun i hi y hy => by obtain ⟨vs, hv⟩ := hel i hi y hy; exact ⟨vs, (fun _ hm => (List.mem_append_right _ hm)) _ hv⟩) (show g.eN ≤ (g.eN + max (mn - g.eN) (g.eN / 2)) from by omega) (show (g.eN + max (mn - g.eN) (g.eN / 2)) ≤ 131072 from by omega)) w1475 w1474 w1476 w712 rfl rfl ⟨⟨by decide, by decide⟩, rfl⟩ ⟨(Nat.le_of_ble_eq_true rfl), (Nat.le_of_ble_eq_true rfl)⟩ rfl hl.1 rfl (Nat.le_of_ble_eq_true rfl) d_L_grow_6cd_37 ⟨(show 0 + 0 + 1 ≤ 1 by omega), (show 0 + 0 + (g.eN + max (mn - g.eN) (g.eN / 2)) ≤ g.eN + max 1 (g.eN / 2) by omega)⟩) hP hD hS hA (fun u3 r9 H locs hp9 hP hD hS => ?_)
  obtain ⟨gx4, h9u⟩ : ∃ z9, z9 = u3 := ⟨_, rfl⟩
  subst h9u
  have hP : va_P D vwCl ([(r9, .inl (dA 7, g.eN + max (mn - g.eN) (g.eN / 2), .inr (.inr (.inr (.inr gx4)))))] ++ (LiW dA la g ++ (ws))) H := hP
  have hD : va_D A ([(r9, .inl (dA 7, g.eN + max (mn - g.eN) (g.eN / 2), .inr (.inr (.inr (.inr gx4)))))] ++ (LiW dA la g ++ (ws))) := hD
  have f_e_5 := hp9
  refine lv_dup_x1 hx hb d_L_grow_6cd_40 rfl rfl ?_
  refine pF (v := .ref r9) hx hb hown hE hK hP hD hS 1 rfl rfl layL tyL tokL nmL 0 (by decide) w656 rfl rfl rfl (Nat.le_of_ble_eq_true rfl) d_L_grow_6cd_41 (fun H locs hP hD hS => ?_)
  have hP : va_P D vwCl ([(r9, .inl (dA 7, g.eN + max (mn - g.eN) (g.eN / 2), .inr (.inr (.inr (.inr gx4)))))] ++ (LiWf dA la g (LI.s_eA g r9) ++ (ws))) H := hP
  have hD : va_D A ([(r9, .inl (dA 7, g.eN + max (mn - g.eN) (g.eN / 2), .inr (.inr (.inr (.inr gx4)))))] ++ (LiWf dA la g (LI.s_eA g r9) ++ (ws))) := hD
  have hP := swP 1 hP
  have hD := swD 1 hD
  have hP : va_P D vwCl (LiW dA la (LI.s_el (LI.s_eN (LI.s_eA g r9) (g.eN + max (mn - g.eN) (g.eN / 2))) gx4) ++ (ws)) H := hP
  have hD : va_D A (LiW dA la (LI.s_el (LI.s_eN (LI.s_eA g r9) (g.eN + max (mn - g.eN) (g.eN / 2))) gx4) ++ (ws)) := hD
  have e9 : (LI.s_el (LI.s_eN (LI.s_eA g r9) (g.eN + max (mn - g.eN) (g.eN / 2))) gx4 : LI) = LI.s_el (LI.s_eN (LI.s_eA g r9) (g.eN + max 1 (g.eN / 2))) (cpF g.el g.eN) := by rw [show (g.eN + max 1 (g.eN / 2)) = (g.eN + max (mn - g.eN) (g.eN / 2)) from by simp [*], show (cpF g.el g.eN) = gx4 from by simp [*]] <;> rfl
  rw [e9] at hP hD
  exact rkR hx hb hr (Or.inr ⟨_, rfl⟩) hlk hS () trivial hP hD (show 0 + 0 + 1 ≤ 1 by omega) (show 0 + 0 + (g.eN + max (mn - g.eN) (g.eN / 2)) ≤ g.eN + max 1 (g.eN / 2) by omega) d_L_grow_6cd_44
set_option maxHeartbeats 4000000 in
set_option maxRecDepth 100000 in
theorem v_Lgrow_T (l : Launch) (D : va_G) (dA : Nat → ClassId) (sz : Nat) (e0 mi : Nat) (ws : va_W) (la : Nat → Nat) (g : LI) (hel : ∀ i : Nat, i < g.eN → ∀ y : Nat, g.el i = some y → ∃ vs : List Value, (y, .inr (8, vs)) ∈ ws) (h1 : 0 < g.eN) (h2 : g.eN ≤ 65536) (h3 : g.sz = g.eN) : Met l ⟨"java/util/ArrayList", "grow", "()[Ljava/lang/Object;"⟩ [Cond.code ⟨"java/util/ArrayList", "grow", "()[Ljava/lang/Object;"⟩ prog_37_method_7_code 1 (some (FieldType.array (FieldType.object "java/lang/Object")))] { frames := 4, cells := 1, slots := g.eN + max 1 (g.eN / 2), locals := 107 } (pCy D dA e0 mi [.ref (la 0)] (LiW dA la g ++ (ws)) sz) (va_Qr (fun (_ : Unit) => True) (fun (u9 : Unit) (r9 : Nat) t9 => (True) ∧ bW D (va_A (LiW dA la g ++ (ws)) sz) (LiW dA la (LI.s_el (LI.s_eN (LI.s_eA g r9) (g.eN + max 1 (g.eN / 2))) (cpF g.el g.eN)) ++ (ws)) t9) (va_A (LiW dA la g ++ (ws)) sz)) 1 (g.eN + max 1 (g.eN / 2)) (va_A (LiW dA la g ++ (ws)) sz) := by
  refine mkY (y := ⟨"java/util/ArrayList", "grow", "()[Ljava/lang/Object;"⟩) (cc := prog_37_method_7_code) (maxL := 1) (av := [.ref (la 0)]) (ws := LiW dA la g ++ (ws)) (sz := sz) (Qc := fun A => va_Qr (fun (_ : Unit) => True) (fun (u9 : Unit) (r9 : Nat) t9 => (True) ∧ bW D A (LiW dA la (LI.s_el (LI.s_eN (LI.s_eA g r9) (g.eN + max 1 (g.eN / 2))) (cpF g.el g.eN)) ++ (ws)) t9) A) (by decide) (Nat.le_of_ble_eq_true rfl) ?_
  intro A p e s m below meth c ls hsz hZ hT hM hB
  obtain ⟨hx, hb, hr, hml, hown, hin, hlk, hE, hK, hP, hD, hS, hA, hN, hl⟩ := hB
  have hown : s.vm.findClass "java/util/ArrayList" = some m.cls := hown
  have hl : lv_has ls 1 [(0, .ref (la 0))] := hl
  obtain ⟨H, hH⟩ : ∃ z, z = s.heap := ⟨_, rfl⟩
  have hP : va_P D vwCl (LiW dA la g ++ (ws)) H := by rw [hH]; exact hP
  have hS : va_S A s.heap H [] := by rw [hH]; exact hS
  rw [← hH]
  refine lv_aload_n hx hb d_L_grow_d81_0 rfl (lv_at hl 0 rfl) ?_
  refine lv_aload_n hx hb d_L_grow_d81_1 rfl (lv_at hl 0 rfl) ?_
  refine gF (v := .int (nI g.sz)) hx hb hown hE hK hP 0 rfl rfl layL 1 (by decide) w657 rfl d_L_grow_d81_2 ?_
  refine lv_iconst (v := 1) hx hb d_L_grow_d81_5 (by decide) ?_
  refine lv_iadd hx hb d_L_grow_d81_6 (tpi (y := nI (g.sz + 1)) (nI_add (g.sz) (1)) ?_)
  refine jkR (wr := []) (rnVy (As := [.int (nI (g.sz + 1))]) (rest := []) hx hb hml hown hE hK hZ hT hM hS (hN _ _ hS) hP hD (v_Lgrow1_T l D dA H.size e0 mi ws la g (g.sz + 1) hel (show 0 < g.eN from by omega) (show g.eN ≤ 65536 from by omega) (show g.sz = g.eN from by omega) (show (g.sz + 1) = g.eN + 1 from by omega)) (q0 := 0) rfl rfl w769 w768 w770 w771 w680 rfl rfl ⟨⟨by decide, by decide⟩, rfl⟩ ⟨(Nat.le_of_ble_eq_true rfl), (Nat.le_of_ble_eq_true rfl)⟩ rfl hl.1 rfl (Nat.le_of_ble_eq_true rfl) d_L_grow_d81_7 ⟨(show 0 + 1 ≤ 1 by omega), (show 0 + (g.eN + max 1 (g.eN / 2)) ≤ g.eN + max 1 (g.eN / 2) by omega)⟩) hP hD hS hA (fun u1 r9 H locs hp9 hP hD hS => ?_)
  have hP : va_P D vwCl (LiW dA la (LI.s_el (LI.s_eN (LI.s_eA g r9) (g.eN + max 1 (g.eN / 2))) (cpF g.el g.eN)) ++ (ws)) H := hP
  have hD : va_D A (LiW dA la (LI.s_el (LI.s_eN (LI.s_eA g r9) (g.eN + max 1 (g.eN / 2))) (cpF g.el g.eN)) ++ (ws)) := hD
  exact rkR hx hb hr (Or.inr ⟨_, rfl⟩) hlk hS () trivial hP hD (show 0 + 1 ≤ 1 by omega) (show 0 + (g.eN + max 1 (g.eN / 2)) ≤ g.eN + max 1 (g.eN / 2) by omega) d_L_grow_d81_10
set_option maxHeartbeats 4000000 in
set_option maxRecDepth 100000 in
theorem v_Ladd3_gT (l : Launch) (D : va_G) (dA : Nat → ClassId) (sz : Nat) (e0 mi : Nat) (ws : va_W) (la : Nat → Nat) (g : LI) (v : Nat) (fs : List Value) (hel : ∀ i : Nat, i < g.eN → ∀ y : Nat, g.el i = some y → ∃ vs : List Value, (y, .inr (8, vs)) ∈ ws) (h1 : 0 < g.eN) (h2 : g.eN ≤ 65536) (h3 : g.sz = g.eN) (mo : (v, .inr (8, fs)) ∈ ws) : Met l ⟨"java/util/ArrayList", "add", "(Ljava/lang/Object;[Ljava/lang/Object;I)V"⟩ [Cond.code ⟨"java/util/ArrayList", "add", "(Ljava/lang/Object;[Ljava/lang/Object;I)V"⟩ prog_37_method_24_code 4 none] { frames := 5, cells := 1, slots := g.eN + max 1 (g.eN / 2), locals := 127 } (pCy D dA e0 mi [.ref (la 0), .ref v, .ref g.eA, .int (nI g.sz)] (LiW dA la g ++ (ws)) sz) (va_Qv (fun (u9 : Nat) => True) (fun (u9 : Nat) t9 => bW D (va_A (LiW dA la g ++ (ws)) sz) (LiW dA la (LI.s_el (LI.s_eN (LI.s_eA (LI.s_sz g (g.sz + 1)) u9) (g.eN + max 1 (g.eN / 2))) (va_up (cpF g.el g.eN) g.sz (some v))) ++ (ws)) t9) (va_A (LiW dA la g ++ (ws)) sz)) 1 (g.eN + max 1 (g.eN / 2)) (va_A (LiW dA la g ++ (ws)) sz) := by
  refine mkY (y := ⟨"java/util/ArrayList", "add", "(Ljava/lang/Object;[Ljava/lang/Object;I)V"⟩) (cc := prog_37_method_24_code) (maxL := 4) (av := [.ref (la 0), .ref v, .ref g.eA, .int (nI g.sz)]) (ws := LiW dA la g ++ (ws)) (sz := sz) (Qc := fun A => va_Qv (fun (u9 : Nat) => True) (fun (u9 : Nat) t9 => bW D A (LiW dA la (LI.s_el (LI.s_eN (LI.s_eA (LI.s_sz g (g.sz + 1)) u9) (g.eN + max 1 (g.eN / 2))) (va_up (cpF g.el g.eN) g.sz (some v))) ++ (ws)) t9) A) (by decide) (Nat.le_of_ble_eq_true rfl) ?_
  intro A p e s m below meth c ls hsz hZ hT hM hB
  obtain ⟨hx, hb, hr, hml, hown, hin, hlk, hE, hK, hP, hD, hS, hA, hN, hl⟩ := hB
  have hown : s.vm.findClass "java/util/ArrayList" = some m.cls := hown
  have hl : lv_has ls 4 [(0, .ref (la 0)), (1, .ref v), (2, .ref g.eA), (3, .int (nI g.sz))] := hl
  obtain ⟨H, hH⟩ : ∃ z, z = s.heap := ⟨_, rfl⟩
  have hP : va_P D vwCl (LiW dA la g ++ (ws)) H := by rw [hH]; exact hP
  have hS : va_S A s.heap H [] := by rw [hH]; exact hS
  rw [← hH]
  refine lv_iload_n hx hb d_L_add_faf_0 rfl (lv_at hl 3 rfl) ?_
  refine lv_aload_n hx hb d_L_add_faf_1 rfl (lv_at hl 2 rfl) ?_
  refine va_alen (v := nI g.eN) hx hb hK hP (1) 7 rfl rfl rfl d_L_add_faf_2 ?_
  refine lv_icmp_ne hx hb d_L_add_faf_3 (tgt := 11) rfl (fun h9 => absurd ((nI_eq (a := g.sz) (b := g.eN) (by omega) (by omega)).mpr h3) h9) (fun _ => ?_)
  refine lv_aload_n hx hb d_L_add_faf_6 rfl (lv_at hl 0 rfl) ?_
  refine jkR (wr := []) (rnVy (As := []) (rest := []) hx hb hml hown hE hK hZ hT hM hS (hN _ _ hS) hP hD (v_Lgrow_T l D dA H.size e0 mi ws la g hel (show 0 < g.eN from by omega) (show g.eN ≤ 65536 from by omega) (show g.sz = g.eN from by omega)) (q0 := 0) rfl rfl w773 w772 w774 w775 w680 rfl rfl ⟨⟨by decide, by decide⟩, rfl⟩ ⟨(Nat.le_of_ble_eq_true rfl), (Nat.le_of_ble_eq_true rfl)⟩ rfl hl.1 rfl (Nat.le_of_ble_eq_true rfl) d_L_add_faf_7 ⟨(show 0 + 1 ≤ 1 by omega), (show 0 + (g.eN + max 1 (g.eN / 2)) ≤ g.eN + max 1 (g.eN / 2) by omega)⟩) hP hD hS hA (fun u1 b H locs hp9 hP hD hS => ?_)
  have hP : va_P D vwCl (LiW dA la (LI.s_el (LI.s_eN (LI.s_eA g b) (g.eN + max 1 (g.eN / 2))) (cpF g.el g.eN)) ++ (ws)) H := hP
  have hD : va_D A (LiW dA la (LI.s_el (LI.s_eN (LI.s_eA g b) (g.eN + max 1 (g.eN / 2))) (cpF g.el g.eN)) ++ (ws)) := hD
  refine lv_astore_n hx hb d_L_add_faf_10 rfl hl (by decide) rfl (fun ls hl => ?_)
  have hl : lv_has ls 4 [(2, .ref b), (0, .ref (la 0)), (1, .ref v), (3, .int (nI g.sz))] := hl
  refine lv_aload_n hx hb d_L_add_faf_11 rfl (lv_at hl 0 rfl) ?_
  refine lv_iload_n hx hb d_L_add_faf_12 rfl (lv_at hl 3 rfl) ?_
  refine lv_aload_n hx hb d_L_add_faf_13 rfl (lv_at hl 2 rfl) ?_
  obtain ⟨qp2, ep3⟩ := List.getElem?_of_mem (show ((v, .inr (8, fs)) : Nat × va_E) ∈ LiW dA la (LI.s_el (LI.s_eN (LI.s_eA g b) (g.eN + max 1 (g.eN / 2))) (cpF g.el g.eN)) ++ (ws) from (List.mem_append_right _ mo))
  refine nqstO (E := "java/lang/Object") (r := ("SeriesVault$Table", TT, 7)) (f := (cpF g.el g.eN)) (n := g.eN + max 1 (g.eN / 2)) hx hb hK hP hD hS (1) 7 (qp2) 8 rfl rfl (show va_Nw (.castable "SeriesVault$Table" "java/lang/Object") s from hE.1 _ w776) ep3 rfl (g.sz) (by omega) (by omega) d_L_add_faf_14 (fun H locs hP hD hS => ?_)
  have hP : va_P D vwCl (LiW dA la (LI.s_el (LI.s_eN (LI.s_eA g b) (g.eN + max 1 (g.eN / 2))) (va_up (cpF g.el g.eN) g.sz (some v))) ++ (ws)) H := hP
  have hD : va_D A (LiW dA la (LI.s_el (LI.s_eN (LI.s_eA g b) (g.eN + max 1 (g.eN / 2))) (va_up (cpF g.el g.eN) g.sz (some v))) ++ (ws)) := hD
  refine lv_aload_n hx hb d_L_add_faf_15 rfl (lv_at hl 1 rfl) ?_
  refine lv_iload_n hx hb d_L_add_faf_16 rfl (lv_at hl 3 rfl) ?_
  refine lv_iconst (v := 1) hx hb d_L_add_faf_17 (by decide) ?_
  refine lv_iadd hx hb d_L_add_faf_18 (tpi (y := nI (g.sz + 1)) (nI_add (g.sz) (1)) ?_)
  refine pF (v := .int (nI (g.sz + 1))) hx hb hown hE hK hP hD hS 0 rfl rfl layL tyL tokL nmL 1 (by decide) w657 rfl rfl rfl (Nat.le_of_ble_eq_true rfl) d_L_add_faf_19 (fun H locs hP hD hS => ?_)
  have hP : va_P D vwCl (LiW dA la (LI.s_el (LI.s_eN (LI.s_eA (LI.s_sz g (g.sz + 1)) b) (g.eN + max 1 (g.eN / 2))) (va_up (cpF g.el g.eN) g.sz (some v))) ++ (ws)) H := hP
  have hD : va_D A (LiW dA la (LI.s_el (LI.s_eN (LI.s_eA (LI.s_sz g (g.sz + 1)) b) (g.eN + max 1 (g.eN / 2))) (va_up (cpF g.el g.eN) g.sz (some v))) ++ (ws)) := hD
  exact rfV hx hb hr hlk hS b trivial hP hD (show 0 + 1 ≤ 1 by omega) (show 0 + (g.eN + max 1 (g.eN / 2)) ≤ g.eN + max 1 (g.eN / 2) by omega) d_L_add_faf_22
set_option maxHeartbeats 4000000 in
set_option maxRecDepth 100000 in
theorem v_Ladd_gT (l : Launch) (D : va_G) (dA : Nat → ClassId) (sz : Nat) (e0 mi : Nat) (ws : va_W) (la : Nat → Nat) (g : LI) (v : Nat) (fs : List Value) (hel : ∀ i : Nat, i < g.eN → ∀ y : Nat, g.el i = some y → ∃ vs : List Value, (y, .inr (8, vs)) ∈ ws) (h1 : 0 < g.eN) (h2 : g.eN ≤ 65536) (h3 : g.sz = g.eN) (mo : (v, .inr (8, fs)) ∈ ws) : Met l ⟨"java/util/ArrayList", "add", "(Ljava/lang/Object;)Z"⟩ [Cond.code ⟨"java/util/ArrayList", "add", "(Ljava/lang/Object;)Z"⟩ prog_37_method_25_code 2 (some FieldType.boolean)] { frames := 6, cells := 1, slots := g.eN + max 1 (g.eN / 2), locals := 150 } (pCy D dA e0 mi [.ref (la 0), .ref v] (LiW dA la g ++ (ws)) sz) (va_Qi (fun (r9 : Int32) (u9 : Nat) => r9 = 1) (fun (u9 : Nat) t9 => bW D (va_A (LiW dA la g ++ (ws)) sz) (LiW dA la (LI.s_el (LI.s_eN (LI.s_eA (LI.s_mc (LI.s_sz g (g.sz + 1)) (g.mc + 1)) u9) (g.eN + max 1 (g.eN / 2))) (va_up (cpF g.el g.eN) g.sz (some v))) ++ (ws)) t9) (va_A (LiW dA la g ++ (ws)) sz)) 1 (g.eN + max 1 (g.eN / 2)) (va_A (LiW dA la g ++ (ws)) sz) := by
  refine mkY (y := ⟨"java/util/ArrayList", "add", "(Ljava/lang/Object;)Z"⟩) (cc := prog_37_method_25_code) (maxL := 2) (av := [.ref (la 0), .ref v]) (ws := LiW dA la g ++ (ws)) (sz := sz) (Qc := fun A => va_Qi (fun (r9 : Int32) (u9 : Nat) => r9 = 1) (fun (u9 : Nat) t9 => bW D A (LiW dA la (LI.s_el (LI.s_eN (LI.s_eA (LI.s_mc (LI.s_sz g (g.sz + 1)) (g.mc + 1)) u9) (g.eN + max 1 (g.eN / 2))) (va_up (cpF g.el g.eN) g.sz (some v))) ++ (ws)) t9) A) (by decide) (Nat.le_of_ble_eq_true rfl) ?_
  intro A p e s m below meth c ls hsz hZ hT hM hB
  obtain ⟨hx, hb, hr, hml, hown, hin, hlk, hE, hK, hP, hD, hS, hA, hN, hl⟩ := hB
  have hown : s.vm.findClass "java/util/ArrayList" = some m.cls := hown
  have hl : lv_has ls 2 [(0, .ref (la 0)), (1, .ref v)] := hl
  obtain ⟨H, hH⟩ : ∃ z, z = s.heap := ⟨_, rfl⟩
  have hP : va_P D vwCl (LiW dA la g ++ (ws)) H := by rw [hH]; exact hP
  have hS : va_S A s.heap H [] := by rw [hH]; exact hS
  rw [← hH]
  refine lv_aload_n hx hb d_L_add_9ae_0 rfl (lv_at hl 0 rfl) ?_
  refine lv_dup hx hb d_L_add_9ae_1 rfl ?_
  refine gFU (v := .int g.mc) hx hb hown hE hK hP 0 rfl rfl layL 2 (by decide) w654 w655 rfl d_L_add_9ae_2 ?_
  refine lv_iconst (v := 1) hx hb d_L_add_9ae_5 (by decide) ?_
  refine lv_iadd hx hb d_L_add_9ae_6 ?_
  refine pFU (v := .int (g.mc + 1)) hx hb hown hE hK hP hD hS 0 rfl rfl layL tyL tokL nmL 2 (by decide) w654 w655 rfl rfl rfl (Nat.le_of_ble_eq_true rfl) d_L_add_9ae_7 (fun H locs hP hD hS => ?_)
  have hP : va_P D vwCl (LiW dA la (LI.s_mc g (g.mc + 1)) ++ (ws)) H := hP
  have hD : va_D A (LiW dA la (LI.s_mc g (g.mc + 1)) ++ (ws)) := hD
  refine lv_aload_n hx hb d_L_add_9ae_10 rfl (lv_at hl 0 rfl) ?_
  refine lv_aload_n hx hb d_L_add_9ae_11 rfl (lv_at hl 1 rfl) ?_
  refine lv_aload_n hx hb d_L_add_9ae_12 rfl (lv_at hl 0 rfl) ?_
  refine gF (v := .ref g.eA) hx hb hown hE hK hP 0 rfl rfl layL 0 (by decide) w656 rfl d_L_add_9ae_13 ?_
  refine lv_aload_n hx hb d_L_add_9ae_16 rfl (lv_at hl 0 rfl) ?_
  refine gF (v := .int (nI g.sz)) hx hb hown hE hK hP 0 rfl rfl layL 1 (by decide) w657 rfl d_L_add_9ae_17 ?_
  refine jkV (wr := []) (rnVy (As := [.ref v, .ref g.eA, .int (nI g.sz)]) (rest := []) hx hb hml hown hE hK hZ hT hM hS (hN _ _ hS) hP hD (v_Ladd3_gT l D dA H.size e0 mi ws la (LI.s_mc g (g.mc + 1)) v fs hel (show 0 < g.eN from by omega) (show g.eN ≤ 65536 from by omega) (show g.sz = g.eN from by omega) mo) (q0 := 0) rfl rfl w778 w777 w779 w780 w680 rfl rfl ⟨⟨by decide, by decide⟩, rfl⟩ ⟨(Nat.le_of_ble_eq_true rfl), (Nat.le_of_ble_eq_true rfl)⟩ rfl hl.1 rfl (Nat.le_of_ble_eq_true rfl) d_L_add_9ae_20 ⟨(show 0 + 1 ≤ 1 by omega), (show 0 + (g.eN + max 1 (g.eN / 2)) ≤ g.eN + max 1 (g.eN / 2) by omega)⟩) hP hD hS hA (fun u2 H locs hp9 hP hD hS => ?_)
  obtain ⟨b, h9u⟩ : ∃ z9, z9 = u2 := ⟨_, rfl⟩
  subst h9u
  have hP : va_P D vwCl (LiW dA la (LI.s_el (LI.s_eN (LI.s_eA (LI.s_mc (LI.s_sz g (g.sz + 1)) (g.mc + 1)) b) (g.eN + max 1 (g.eN / 2))) (va_up (cpF g.el g.eN) g.sz (some v))) ++ (ws)) H := hP
  have hD : va_D A (LiW dA la (LI.s_el (LI.s_eN (LI.s_eA (LI.s_mc (LI.s_sz g (g.sz + 1)) (g.mc + 1)) b) (g.eN + max 1 (g.eN / 2))) (va_up (cpF g.el g.eN) g.sz (some v))) ++ (ws)) := hD
  refine lv_iconst (v := 1) hx hb d_L_add_9ae_23 (by decide) ?_
  exact rfZ hx hb hr (bI_nar true) hlk hS b rfl hP hD (show 0 + 1 ≤ 1 by omega) (show 0 + (g.eN + max 1 (g.eN / 2)) ≤ g.eN + max 1 (g.eN / 2) by omega) d_L_add_9ae_24
