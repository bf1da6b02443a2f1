section
theorem d_H_blocksInUse_0 : decode prog_9_method_6_code 0 = .ok (.aload_n 0, 1) := by decide +kernel
theorem d_H_blocksInUse_1 : decode prog_9_method_6_code 1 = .ok (.getfield 48, 3) := by decide +kernel
theorem d_H_blocksInUse_4 : decode prog_9_method_6_code 4 = .ok (.istore_n 1, 1) := by decide +kernel
theorem d_H_blocksInUse_5 : decode prog_9_method_6_code 5 = .ok (.iconst 0, 1) := by decide +kernel
theorem d_H_blocksInUse_6 : decode prog_9_method_6_code 6 = .ok (.istore_n 2, 1) := by decide +kernel
theorem d_H_blocksInUse_7 : decode prog_9_method_6_code 7 = .ok (.iload_n 2, 1) := by decide +kernel
theorem d_H_blocksInUse_8 : decode prog_9_method_6_code 8 = .ok (.aload_n 0, 1) := by decide +kernel
theorem d_H_blocksInUse_9 : decode prog_9_method_6_code 9 = .ok (.getfield 34, 3) := by decide +kernel
theorem d_H_blocksInUse_12 : decode prog_9_method_6_code 12 = .ok (.if_icmp .ge 21, 3) := by decide +kernel
theorem d_H_blocksInUse_33 : decode prog_9_method_6_code 33 = .ok (.iload_n 1, 1) := by decide +kernel
theorem d_H_blocksInUse_34 : decode prog_9_method_6_code 34 = .ok (.ireturn, 1) := by decide +kernel
set_option maxHeartbeats 4000000 in
set_option maxRecDepth 100000 in
theorem c_H_blocksInUse_0 (l : Launch) (D : va_G) (dA : Nat → ClassId) (sz : Nat) (a : Nat) (fs : List Value) (h_fs_parcelCount : fs[1]? = some (.int 0)) (h_fs_catalogBlocks : fs[10]? = some (.int 0)) (hl_fs : fs.length = 11) : Met l ⟨"SeriesVault$Shelf", "blocksInUse", "()I"⟩ [Cond.code ⟨"SeriesVault$Shelf", "blocksInUse", "()I"⟩ prog_9_method_6_code 3 (some FieldType.int)] { frames := 1, cells := 0, slots := 0, locals := 0 } (pC D dA [.ref a] [(a, .inr (3, fs))] sz) (va_Qi (fun (r : Int32) (_ : Unit) => r = 0) (fun (u9 : Unit) t9 => bW D (va_A [(a, .inr (3, fs))] sz) [(a, .inr (3, fs))] t9) (va_A [(a, .inr (3, fs))] sz)) 0 0 (va_A [(a, .inr (3, fs))] sz) := by
  refine mkC (y := ⟨"SeriesVault$Shelf", "blocksInUse", "()I"⟩) (cc := prog_9_method_6_code) (maxL := 3) (av := [.ref a]) (ws := [(a, .inr (3, fs))]) (sz := sz) (Qc := fun A => va_Qi (fun (r : Int32) (_ : Unit) => r = 0) (fun (u9 : Unit) t9 => bW D A [(a, .inr (3, fs))] t9) A) (by decide) (Nat.le_of_ble_eq_true rfl) ?_
  intro A p e s m below meth c ls hsz hB
  obtain ⟨hx, hb, hr, hml, hown, hin, hlk, hE, hK, hP, hD, hS, hA, hN, hl⟩ := hB
  have hown : s.vm.findClass "SeriesVault$Shelf" = some m.cls := hown
  have hin : meth.name = "blocksInUse" := hin
  have hl : lv_has ls 3 [(0, .ref a)] := hl
  obtain ⟨H, hH⟩ : ∃ z, z = s.heap := ⟨_, rfl⟩
  have hP : va_P D vwCl [(a, .inr (3, fs))] H := by rw [hH]; exact hP
  have hS : va_S A s.heap H [] := by rw [hH]; exact hS
  rw [← hH]
  refine lv_aload_n hx hb d_H_blocksInUse_0 rfl (lv_at hl 0 rfl) ?_
  refine gF (v := .int 0) hx hb hown hE hK hP 0 rfl rfl layH 10 (by decide) w570 h_fs_catalogBlocks d_H_blocksInUse_1 ?_
  refine lv_istore_n hx hb d_H_blocksInUse_4 rfl hl (by decide) rfl (fun ls hl => ?_)
  have hl : lv_has ls 3 [(1, .int 0), (0, .ref a)] := hl
  refine lv_iconst (v := 0) hx hb d_H_blocksInUse_5 (by decide) ?_
  refine lv_istore_n hx hb d_H_blocksInUse_6 rfl hl (by decide) rfl (fun ls hl => ?_)
  have hl : lv_has ls 3 [(2, .int 0), (1, .int 0), (0, .ref a)] := hl
  refine lv_iload_n hx hb d_H_blocksInUse_7 rfl (lv_at hl 0 rfl) ?_
  refine lv_aload_n hx hb d_H_blocksInUse_8 rfl (lv_at hl 2 rfl) ?_
  refine gF (v := .int 0) hx hb hown hE hK hP 0 rfl rfl layH 1 (by decide) w566 h_fs_parcelCount d_H_blocksInUse_9 ?_
  refine lv_icmp_ge hx hb d_H_blocksInUse_12 (tgt := 33) rfl (fun _ => ?_) (fun h9 => absurd (by decide) h9)
  refine lv_iload_n hx hb d_H_blocksInUse_33 rfl (lv_at hl 1 rfl) ?_
  exact rtI hx hb hr hlk hP hD hS () rfl [0] rfl rfl (by decide) (Nat.le_of_ble_eq_true rfl) (Nat.le_of_ble_eq_true rfl) d_H_blocksInUse_34
theorem d_H_countSeenBelow_0 : decode prog_9_method_18_code 0 = .ok (.iconst 0, 1) := by decide +kernel
theorem d_H_countSeenBelow_1 : decode prog_9_method_18_code 1 = .ok (.istore_n 3, 1) := by decide +kernel
theorem d_H_countSeenBelow_2 : decode prog_9_method_18_code 2 = .ok (.iconst 0, 1) := by decide +kernel
theorem d_H_countSeenBelow_3 : decode prog_9_method_18_code 3 = .ok (.istore 4, 2) := by decide +kernel
theorem d_H_countSeenBelow_5 : decode prog_9_method_18_code 5 = .ok (.iload 4, 2) := by decide +kernel
theorem d_H_countSeenBelow_7 : decode prog_9_method_18_code 7 = .ok (.aload_n 0, 1) := by decide +kernel
theorem d_H_countSeenBelow_8 : decode prog_9_method_18_code 8 = .ok (.getfield 34, 3) := by decide +kernel
theorem d_H_countSeenBelow_11 : decode prog_9_method_18_code 11 = .ok (.if_icmp .ge 26, 3) := by decide +kernel
theorem d_H_countSeenBelow_37 : decode prog_9_method_18_code 37 = .ok (.iload_n 3, 1) := by decide +kernel
theorem d_H_countSeenBelow_38 : decode prog_9_method_18_code 38 = .ok (.ireturn, 1) := by decide +kernel
set_option maxHeartbeats 4000000 in
set_option maxRecDepth 100000 in
theorem c_H_countSeenBelow_0 (l : Launch) (D : va_G) (dA : Nat → ClassId) (sz : Nat) (a : Nat) (fs : List Value) (t : Int64) (h_fs_parcelCount : fs[1]? = some (.int 0)) (hl_fs : fs.length = 11) : Met l ⟨"SeriesVault$Shelf", "countSeenBelow", "(J)I"⟩ [Cond.code ⟨"SeriesVault$Shelf", "countSeenBelow", "(J)I"⟩ prog_9_method_18_code 5 (some FieldType.int)] { frames := 1, cells := 0, slots := 0, locals := 0 } (pC D dA [.ref a, .long t] [(a, .inr (3, fs))] sz) (va_Qi (fun (r : Int32) (_ : Unit) => r = 0) (fun (u9 : Unit) t9 => bW D (va_A [(a, .inr (3, fs))] sz) [(a, .inr (3, fs))] t9) (va_A [(a, .inr (3, fs))] sz)) 0 0 (va_A [(a, .inr (3, fs))] sz) := by
  refine mkC (y := ⟨"SeriesVault$Shelf", "countSeenBelow", "(J)I"⟩) (cc := prog_9_method_18_code) (maxL := 5) (av := [.ref a, .long t]) (ws := [(a, .inr (3, fs))]) (sz := sz) (Qc := fun A => va_Qi (fun (r : Int32) (_ : Unit) => r = 0) (fun (u9 : Unit) t9 => bW D A [(a, .inr (3, fs))] t9) A) (by decide) (Nat.le_of_ble_eq_true rfl) ?_
  intro A p e s m below meth c ls hsz hB
  obtain ⟨hx, hb, hr, hml, hown, hin, hlk, hE, hK, hP, hD, hS, hA, hN, hl⟩ := hB
  have hown : s.vm.findClass "SeriesVault$Shelf" = some m.cls := hown
  have hin : meth.name = "countSeenBelow" := hin
  have hl : lv_has ls 5 [(0, .ref a), (1, .long t)] := hl
  obtain ⟨H, hH⟩ : ∃ z, z = s.heap := ⟨_, rfl⟩
  have hP : va_P D vwCl [(a, .inr (3, fs))] H := by rw [hH]; exact hP
  have hS : va_S A s.heap H [] := by rw [hH]; exact hS
  rw [← hH]
  refine lv_iconst (v := 0) hx hb d_H_countSeenBelow_0 (by decide) ?_
  refine lv_istore_n hx hb d_H_countSeenBelow_1 rfl hl (by decide) rfl (fun ls hl => ?_)
  have hl : lv_has ls 5 [(3, .int 0), (0, .ref a), (1, .long t)] := hl
  refine lv_iconst (v := 0) hx hb d_H_countSeenBelow_2 (by decide) ?_
  refine lv_istore hx hb d_H_countSeenBelow_3 hl (by decide) rfl (fun ls hl => ?_)
  have hl : lv_has ls 5 [(4, .int 0), (3, .int 0), (0, .ref a), (1, .long t)] := hl
  refine lv_iload hx hb d_H_countSeenBelow_5 (lv_at hl 0 rfl) ?_
  refine lv_aload_n hx hb d_H_countSeenBelow_7 rfl (lv_at hl 2 rfl) ?_
  refine gF (v := .int 0) hx hb hown hE hK hP 0 rfl rfl layH 1 (by decide) w566 h_fs_parcelCount d_H_countSeenBelow_8 ?_
  refine lv_icmp_ge hx hb d_H_countSeenBelow_11 (tgt := 37) rfl (fun _ => ?_) (fun h9 => absurd (by decide) h9)
  refine lv_iload_n hx hb d_H_countSeenBelow_37 rfl (lv_at hl 1 rfl) ?_
  exact rtI hx hb hr hlk hP hD hS () rfl [0] rfl rfl (by decide) (Nat.le_of_ble_eq_true rfl) (Nat.le_of_ble_eq_true rfl) d_H_countSeenBelow_38
theorem d_H_countAllSeen_0 : decode prog_9_method_17_code 0 = .ok (.aload_n 0, 1) := by decide +kernel
theorem d_H_countAllSeen_1 : decode prog_9_method_17_code 1 = .ok (.ldc2_w 107, 3) := by decide +kernel
theorem d_H_countAllSeen_4 : decode prog_9_method_17_code 4 = .ok (.invokevirtual 109, 3) := by decide +kernel
theorem d_H_countAllSeen_7 : decode prog_9_method_17_code 7 = .ok (.ireturn, 1) := by decide +kernel
theorem w631 : Cond.constantLong "SeriesVault$Shelf" 107 1099511627776 ∈ aW := aw_of (tb_8 (List.mem_of_getElem? (i := 117) rfl)) rfl
theorem w632 : Cond.methodLink "SeriesVault$Shelf" 109 ⟨"SeriesVault$Shelf", "countSeenBelow", "(J)I"⟩ ∈ aW := aw_of (tb_8 (List.mem_of_getElem? (i := 118) rfl)) rfl
theorem w633 : Cond.code ⟨"SeriesVault$Shelf", "countSeenBelow", "(J)I"⟩ prog_9_method_18_code 5 (some FieldType.int) ∈ aW := aw_of (tb_6 (List.mem_of_getElem? (i := 157) rfl)) rfl
theorem w634 : Cond.instanceMethod ⟨"SeriesVault$Shelf", "countSeenBelow", "(J)I"⟩ ∈ aW := aw_of (tb_6 (List.mem_of_getElem? (i := 155) rfl)) rfl
theorem w635 : Cond.selects "SeriesVault$Shelf" ⟨"SeriesVault$Shelf", "countSeenBelow", "(J)I"⟩ ⟨"SeriesVault$Shelf", "countSeenBelow", "(J)I"⟩ ∈ aW := aw_of (tb_6 (List.mem_of_getElem? (i := 156) rfl)) rfl
set_option maxHeartbeats 4000000 in
set_option maxRecDepth 100000 in
theorem c_H_countAllSeen_0 (l : Launch) (D : va_G) (dA : Nat → ClassId) (sz : Nat) (a : Nat) (fs : List Value) (h_fs_parcelCount : fs[1]? = some (.int 0)) (hl_fs : fs.length = 11) : Met l ⟨"SeriesVault$Shelf", "countAllSeen", "()I"⟩ [Cond.code ⟨"SeriesVault$Shelf", "countAllSeen", "()I"⟩ prog_9_method_17_code 1 (some FieldType.int)] { frames := 2, cells := 0, slots := 0, locals := 24 } (pC D dA [.ref a] [(a, .inr (3, fs))] sz) (va_Qi (fun (r : Int32) (_ : Unit) => r = 0) (fun (u9 : Unit) t9 => bW D (va_A [(a, .inr (3, fs))] sz) [(a, .inr (3, fs))] t9) (va_A [(a, .inr (3, fs))] sz)) 0 0 (va_A [(a, .inr (3, fs))] sz) := by
  refine mkC (y := ⟨"SeriesVault$Shelf", "countAllSeen", "()I"⟩) (cc := prog_9_method_17_code) (maxL := 1) (av := [.ref a]) (ws := [(a, .inr (3, fs))]) (sz := sz) (Qc := fun A => va_Qi (fun (r : Int32) (_ : Unit) => r = 0) (fun (u9 : Unit) t9 => bW D A [(a, .inr (3, fs))] t9) A) (by decide) (Nat.le_of_ble_eq_true rfl) ?_
  intro A p e s m below meth c ls hsz hB
  obtain ⟨hx, hb, hr, hml, hown, hin, hlk, hE, hK, hP, hD, hS, hA, hN, hl⟩ := hB
  have hown : s.vm.findClass "SeriesVault$Shelf" = some m.cls := hown
  have hin : meth.name = "countAllSeen" := hin
  have hl : lv_has ls 1 [(0, .ref a)] := hl
  obtain ⟨H, hH⟩ : ∃ z, z = s.heap := ⟨_, rfl⟩
  have hP : va_P D vwCl [(a, .inr (3, fs))] H := by rw [hH]; exact hP
  have hS : va_S A s.heap H [] := by rw [hH]; exact hS
  rw [← hH]
  refine lv_aload_n hx hb d_H_countAllSeen_0 rfl (lv_at hl 0 rfl) ?_
  refine lv_ldc2 (v := 1099511627776) hx hb hown (hE.t w631 rfl) d_H_countAllSeen_1 ?_
  have hPc := hP.sub (ws' := [(a, .inr (3, fs))]) [0] rfl
  have hDc := hD.sub (ws' := [(a, .inr (3, fs))]) [0] (by decide) rfl
  refine jnI (rnV (As := [.long 1099511627776]) (rest := []) hx hb hml hown hE hK (hN _ _ hS) hPc hDc (c_H_countSeenBelow_0 l D dA H.size a fs 1099511627776 h_fs_parcelCount hl_fs) (q0 := 0) rfl rfl w633 w632 w634 w635 w583 rfl rfl ⟨⟨by decide, by decide⟩, rfl⟩ ⟨(Nat.le_of_ble_eq_true rfl), (Nat.le_of_ble_eq_true rfl)⟩ rfl hl.1 rfl (Nat.le_of_ble_eq_true rfl) d_H_countAllSeen_4 ⟨(Nat.le_of_ble_eq_true rfl), (Nat.le_of_ble_eq_true rfl)⟩) hP hD hS hA [0] [] (wr := []) rfl rfl (by decide) (by decide) (fun r1 u9 H locs hp9 hP hD hS => ?_)
  have hP : va_P D vwCl [(a, .inr (3, fs))] H := hP
  have hD : va_D A [(a, .inr (3, fs))] := hD
  have hp9 : 0 = r1 := Eq.symm hp9
  subst hp9
  exact rtI hx hb hr hlk hP hD hS () rfl [0] rfl rfl (by decide) (Nat.le_of_ble_eq_true rfl) (Nat.le_of_ble_eq_true rfl) d_H_countAllSeen_7
theorem d_V_freeBlocks_0 : decode prog_1_method_17_code 0 = .ok (.aload_n 0, 1) := by decide +kernel
theorem d_V_freeBlocks_1 : decode prog_1_method_17_code 1 = .ok (.getfield 101, 3) := by decide +kernel
theorem d_V_freeBlocks_4 : decode prog_1_method_17_code 4 = .ok (.iconst 2, 1) := by decide +kernel
theorem d_V_freeBlocks_5 : decode prog_1_method_17_code 5 = .ok (.isub, 1) := by decide +kernel
theorem d_V_freeBlocks_6 : decode prog_1_method_17_code 6 = .ok (.aload_n 0, 1) := by decide +kernel
theorem d_V_freeBlocks_7 : decode prog_1_method_17_code 7 = .ok (.getfield 16, 3) := by decide +kernel
theorem d_V_freeBlocks_10 : decode prog_1_method_17_code 10 = .ok (.getfield 136, 3) := by decide +kernel
theorem d_V_freeBlocks_13 : decode prog_1_method_17_code 13 = .ok (.isub, 1) := by decide +kernel
theorem d_V_freeBlocks_14 : decode prog_1_method_17_code 14 = .ok (.aload_n 0, 1) := by decide +kernel
theorem d_V_freeBlocks_15 : decode prog_1_method_17_code 15 = .ok (.getfield 33, 3) := by decide +kernel
theorem d_V_freeBlocks_18 : decode prog_1_method_17_code 18 = .ok (.invokevirtual 139, 3) := by decide +kernel
theorem d_V_freeBlocks_21 : decode prog_1_method_17_code 21 = .ok (.isub, 1) := by decide +kernel
theorem d_V_freeBlocks_22 : decode prog_1_method_17_code 22 = .ok (.ireturn, 1) := by decide +kernel
theorem w636 : Cond.fieldLinkNest "SeriesVault" 136 "SeriesVault$Journal" "blockLimit" "I" "SeriesVault" ∈ aW := aw_of (tb_1 (List.mem_of_getElem? (i := 69) rfl)) rfl
theorem w637 : Cond.methodLink "SeriesVault" 139 ⟨"SeriesVault$Shelf", "blocksInUse", "()I"⟩ ∈ aW := aw_of (tb_6 (List.mem_of_getElem? (i := 94) rfl)) rfl
theorem w638 : Cond.code ⟨"SeriesVault$Shelf", "blocksInUse", "()I"⟩ prog_9_method_6_code 3 (some FieldType.int) ∈ aW := aw_of (tb_6 (List.mem_of_getElem? (i := 97) rfl)) rfl
theorem w639 : Cond.instanceMethod ⟨"SeriesVault$Shelf", "blocksInUse", "()I"⟩ ∈ aW := aw_of (tb_6 (List.mem_of_getElem? (i := 95) rfl)) rfl
theorem w640 : Cond.selects "SeriesVault$Shelf" ⟨"SeriesVault$Shelf", "blocksInUse", "()I"⟩ ⟨"SeriesVault$Shelf", "blocksInUse", "()I"⟩ ∈ aW := aw_of (tb_6 (List.mem_of_getElem? (i := 96) rfl)) rfl
set_option maxHeartbeats 4000000 in
set_option maxRecDepth 100000 in
theorem c_V_freeBlocks_0 (l : Launch) (D : va_G) (dA : Nat → ClassId) (sz : Nat) (a : Nat) (fs : List Value) (b : Nat) (gs : List Value) (b2 : Nat) (is : List Value) (h_fs_diskBlocks : fs[4]? = some (.int 64)) (h_fs_journal : fs[8]? = some (.ref b)) (h_fs_now : fs[11]? = some (.ref b2)) (hl_fs : fs.length = 18) (h_gs_blockLimit : gs[9]? = some (.int 8)) (hl_gs : gs.length = 13) (h_is_parcelCount : is[1]? = some (.int 0)) (h_is_catalogBlocks : is[10]? = some (.int 0)) (hl_is : is.length = 11) : Met l ⟨"SeriesVault", "freeBlocks", "()I"⟩ [Cond.code ⟨"SeriesVault", "freeBlocks", "()I"⟩ prog_1_method_17_code 1 (some FieldType.int)] { frames := 2, cells := 0, slots := 0, locals := 22 } (pC D dA [.ref a] [(a, .inr (0, fs)), (b, .inr (1, gs)), (b2, .inr (3, is))] sz) (va_Qi (fun (r : Int32) (_ : Unit) => r = 54) (fun (u9 : Unit) t9 => bW D (va_A [(a, .inr (0, fs)), (b, .inr (1, gs)), (b2, .inr (3, is))] sz) [(a, .inr (0, fs)), (b, .inr (1, gs)), (b2, .inr (3, is))] t9) (va_A [(a, .inr (0, fs)), (b, .inr (1, gs)), (b2, .inr (3, is))] sz)) 0 0 (va_A [(a, .inr (0, fs)), (b, .inr (1, gs)), (b2, .inr (3, is))] sz) := by
  refine mkC (y := ⟨"SeriesVault", "freeBlocks", "()I"⟩) (cc := prog_1_method_17_code) (maxL := 1) (av := [.ref a]) (ws := [(a, .inr (0, fs)), (b, .inr (1, gs)), (b2, .inr (3, is))]) (sz := sz) (Qc := fun A => va_Qi (fun (r : Int32) (_ : Unit) => r = 54) (fun (u9 : Unit) t9 => bW D A [(a, .inr (0, fs)), (b, .inr (1, gs)), (b2, .inr (3, is))] t9) A) (by decide) (Nat.le_of_ble_eq_true rfl) ?_
  intro A p e s m below meth c ls hsz hB
  obtain ⟨hx, hb, hr, hml, hown, hin, hlk, hE, hK, hP, hD, hS, hA, hN, hl⟩ := hB
  have hown : s.vm.findClass "SeriesVault" = some m.cls := hown
  have hin : meth.name = "freeBlocks" := hin
  have hl : lv_has ls 1 [(0, .ref a)] := hl
  obtain ⟨H, hH⟩ : ∃ z, z = s.heap := ⟨_, rfl⟩
  have hP : va_P D vwCl [(a, .inr (0, fs)), (b, .inr (1, gs)), (b2, .inr (3, is))] H := by rw [hH]; exact hP
  have hS : va_S A s.heap H [] := by rw [hH]; exact hS
  rw [← hH]
  refine lv_aload_n hx hb d_V_freeBlocks_0 rfl (lv_at hl 0 rfl) ?_
  refine gF (v := .int 64) hx hb hown hE hK hP 0 rfl rfl layV 4 (by decide) w571 h_fs_diskBlocks d_V_freeBlocks_1 ?_
  refine lv_iconst (v := 2) hx hb d_V_freeBlocks_4 (by decide) ?_
  refine lv_isub hx hb d_V_freeBlocks_5 (tpi (y := 62) (by decide) ?_)
  refine lv_aload_n hx hb d_V_freeBlocks_6 rfl (lv_at hl 0 rfl) ?_
  refine gF (v := .ref b) hx hb hown hE hK hP 0 rfl rfl layV 8 (by decide) w312 h_fs_journal d_V_freeBlocks_7 ?_
  refine gFN (v := .int 8) hx hb hown hE hK hP 1 rfl rfl layJ 9 (by decide) w636 h_gs_blockLimit d_V_freeBlocks_10 ?_
  refine lv_isub hx hb d_V_freeBlocks_13 (tpi (y := 54) (by decide) ?_)
  refine lv_aload_n hx hb d_V_freeBlocks_14 rfl (lv_at hl 0 rfl) ?_
  refine gF (v := .ref b2) hx hb hown hE hK hP 0 rfl rfl layV 11 (by decide) w297 h_fs_now d_V_freeBlocks_15 ?_
  have hPc := hP.sub (ws' := [(b2, .inr (3, is))]) [2] rfl
  have hDc := hD.sub (ws' := [(b2, .inr (3, is))]) [2] (by decide) rfl
  refine jnI (rnV (As := []) (rest := [.int 54]) hx hb hml hown hE hK (hN _ _ hS) hPc hDc (c_H_blocksInUse_0 l D dA H.size b2 is h_is_parcelCount h_is_catalogBlocks hl_is) (q0 := 0) rfl rfl w638 w637 w639 w640 w583 rfl rfl ⟨⟨by decide, by decide⟩, rfl⟩ ⟨(Nat.le_of_ble_eq_true rfl), (Nat.le_of_ble_eq_true rfl)⟩ rfl hl.1 rfl (Nat.le_of_ble_eq_true rfl) d_V_freeBlocks_18 ⟨(Nat.le_of_ble_eq_true rfl), (Nat.le_of_ble_eq_true rfl)⟩) hP hD hS hA [2] [0, 1] (wr := [(a, .inr (0, fs)), (b, .inr (1, gs))]) rfl rfl (by decide) (by decide) (fun r1 u9 H locs hp9 hP hD hS => ?_)
  have hP : va_P D vwCl [(a, .inr (0, fs)), (b, .inr (1, gs)), (b2, .inr (3, is))] H := hP
  have hD : va_D A [(a, .inr (0, fs)), (b, .inr (1, gs)), (b2, .inr (3, is))] := hD
  have hp9 : 0 = r1 := Eq.symm hp9
  subst hp9
  refine lv_isub hx hb d_V_freeBlocks_21 (tpi (y := 54) (by decide) ?_)
  exact rtI hx hb hr hlk hP hD hS () rfl [0, 1, 2] rfl rfl (by decide) (Nat.le_of_ble_eq_true rfl) (Nat.le_of_ble_eq_true rfl) d_V_freeBlocks_22
theorem d_V_count_0 : decode prog_1_method_43_code 0 = .ok (.aload_n 0, 1) := by decide +kernel
theorem d_V_count_1 : decode prog_1_method_43_code 1 = .ok (.invokevirtual 124, 3) := by decide +kernel
theorem d_V_count_4 : decode prog_1_method_43_code 4 = .ok (.iload_n 1, 1) := by decide +kernel
theorem d_V_count_5 : decode prog_1_method_43_code 5 = .ok (.tableswitch 128 0 8 #[51, 59, 67, 75, 83, 88, 96, 104, 112], 51) := by decide +kernel
theorem d_V_count_56 : decode prog_1_method_43_code 56 = .ok (.aload_n 0, 1) := by decide +kernel
theorem d_V_count_57 : decode prog_1_method_43_code 57 = .ok (.getfield 33, 3) := by decide +kernel
theorem d_V_count_60 : decode prog_1_method_43_code 60 = .ok (.getfield 130, 3) := by decide +kernel
theorem d_V_count_63 : decode prog_1_method_43_code 63 = .ok (.ireturn, 1) := by decide +kernel
set_option maxHeartbeats 4000000 in
set_option maxRecDepth 100000 in
theorem c_V_count_0 (l : Launch) (D : va_G) (dA : Nat → ClassId) (sz : Nat) (a : Nat) (fs : List Value) (b2 : Nat) (is : List Value) (h_fs_powered : fs[5]? = some (.int 1)) (h_fs_now : fs[11]? = some (.ref b2)) (hl_fs : fs.length = 18) (h_is_seriesCount : is[8]? = some (.int 0)) (hl_is : is.length = 11) : Met l ⟨"SeriesVault", "count", "(I)I"⟩ [Cond.code ⟨"SeriesVault", "count", "(I)I"⟩ prog_1_method_43_code 2 (some FieldType.int)] { frames := 2, cells := 0, slots := 0, locals := 20 } (pC D dA [.ref a, .int 0] [(a, .inr (0, fs)), (b2, .inr (3, is))] sz) (va_Qi (fun (r : Int32) (_ : Unit) => r = 0) (fun (u9 : Unit) t9 => bW D (va_A [(a, .inr (0, fs)), (b2, .inr (3, is))] sz) [(a, .inr (0, fs)), (b2, .inr (3, is))] t9) (va_A [(a, .inr (0, fs)), (b2, .inr (3, is))] sz)) 0 0 (va_A [(a, .inr (0, fs)), (b2, .inr (3, is))] sz) := by
  refine mkC (y := ⟨"SeriesVault", "count", "(I)I"⟩) (cc := prog_1_method_43_code) (maxL := 2) (av := [.ref a, .int 0]) (ws := [(a, .inr (0, fs)), (b2, .inr (3, is))]) (sz := sz) (Qc := fun A => va_Qi (fun (r : Int32) (_ : Unit) => r = 0) (fun (u9 : Unit) t9 => bW D A [(a, .inr (0, fs)), (b2, .inr (3, is))] t9) A) (by decide) (Nat.le_of_ble_eq_true rfl) ?_
  intro A p e s m below meth c ls hsz hB
  obtain ⟨hx, hb, hr, hml, hown, hin, hlk, hE, hK, hP, hD, hS, hA, hN, hl⟩ := hB
  have hown : s.vm.findClass "SeriesVault" = some m.cls := hown
  have hin : meth.name = "count" := hin
  have hl : lv_has ls 2 [(0, .ref a), (1, .int 0)] := hl
  obtain ⟨H, hH⟩ : ∃ z, z = s.heap := ⟨_, rfl⟩
  have hP : va_P D vwCl [(a, .inr (0, fs)), (b2, .inr (3, is))] H := by rw [hH]; exact hP
  have hS : va_S A s.heap H [] := by rw [hH]; exact hS
  rw [← hH]
  refine lv_aload_n hx hb d_V_count_0 rfl (lv_at hl 0 rfl) ?_
  have hPc := hP.sub (ws' := [(a, .inr (0, fs))]) [0] rfl
  have hDc := hD.sub (ws' := [(a, .inr (0, fs))]) [0] (by decide) rfl
  refine jnV (rnV (As := []) (rest := []) hx hb hml hown hE hK (hN _ _ hS) hPc hDc (c_V_checkPower l D dA H.size a fs h_fs_powered hl_fs) (q0 := 0) rfl rfl w278 w276 w279 w280 w277 rfl rfl ⟨⟨by decide, by decide⟩, rfl⟩ ⟨(Nat.le_of_ble_eq_true rfl), (Nat.le_of_ble_eq_true rfl)⟩ rfl hl.1 rfl (Nat.le_of_ble_eq_true rfl) d_V_count_1 ⟨(Nat.le_of_ble_eq_true rfl), (Nat.le_of_ble_eq_true rfl)⟩) hP hD hS hA [0] [1] (wr := [(b2, .inr (3, is))]) rfl rfl (by decide) (by decide) (fun u9 H locs hp9 hP hD hS => ?_)
  have hP : va_P D vwCl [(b2, .inr (3, is)), (a, .inr (0, fs))] H := hP
  have hD : va_D A [(b2, .inr (3, is)), (a, .inr (0, fs))] := hD
  refine lv_iload_n hx hb d_V_count_4 rfl (lv_at hl 1 rfl) ?_
  refine lv_tableIn (x := 0) (off := 51) (tgt := 56) hx hb d_V_count_5 (by decide) (by decide) (by decide) rfl ?_
  refine lv_aload_n hx hb d_V_count_56 rfl (lv_at hl 0 rfl) ?_
  refine gF (v := .ref b2) hx hb hown hE hK hP 1 rfl rfl layV 11 (by decide) w297 h_fs_now d_V_count_57 ?_
  refine gFN (v := .int 0) hx hb hown hE hK hP 0 rfl rfl layH 8 (by decide) w298 h_is_seriesCount d_V_count_60 ?_
  exact rtI hx hb hr hlk hP hD hS () rfl [1, 0] rfl rfl (by decide) (Nat.le_of_ble_eq_true rfl) (Nat.le_of_ble_eq_true rfl) d_V_count_63
theorem d_V_count_64 : decode prog_1_method_43_code 64 = .ok (.aload_n 0, 1) := by decide +kernel
theorem d_V_count_65 : decode prog_1_method_43_code 65 = .ok (.getfield 23, 3) := by decide +kernel
theorem d_V_count_68 : decode prog_1_method_43_code 68 = .ok (.getfield 261, 3) := by decide +kernel
theorem d_V_count_71 : decode prog_1_method_43_code 71 = .ok (.ireturn, 1) := by decide +kernel
theorem w641 : Cond.fieldLinkNest "SeriesVault" 261 "SeriesVault$Points" "size" "I" "SeriesVault" ∈ aW := aw_of (tb_1 (List.mem_of_getElem? (i := 122) rfl)) rfl
set_option maxHeartbeats 4000000 in
set_option maxRecDepth 100000 in
theorem c_V_count_1 (l : Launch) (D : va_G) (dA : Nat → ClassId) (sz : Nat) (a : Nat) (fs : List Value) (b1 : Nat) (hs : List Value) (h_fs_powered : fs[5]? = some (.int 1)) (h_fs_head : fs[9]? = some (.ref b1)) (hl_fs : fs.length = 18) (h_hs_size : hs[3]? = some (.int 0)) (hl_hs : hs.length = 4) : Met l ⟨"SeriesVault", "count", "(I)I"⟩ [Cond.code ⟨"SeriesVault", "count", "(I)I"⟩ prog_1_method_43_code 2 (some FieldType.int)] { frames := 2, cells := 0, slots := 0, locals := 20 } (pC D dA [.ref a, .int 1] [(a, .inr (0, fs)), (b1, .inr (2, hs))] sz) (va_Qi (fun (r : Int32) (_ : Unit) => r = 0) (fun (u9 : Unit) t9 => bW D (va_A [(a, .inr (0, fs)), (b1, .inr (2, hs))] sz) [(a, .inr (0, fs)), (b1, .inr (2, hs))] t9) (va_A [(a, .inr (0, fs)), (b1, .inr (2, hs))] sz)) 0 0 (va_A [(a, .inr (0, fs)), (b1, .inr (2, hs))] sz) := by
  refine mkC (y := ⟨"SeriesVault", "count", "(I)I"⟩) (cc := prog_1_method_43_code) (maxL := 2) (av := [.ref a, .int 1]) (ws := [(a, .inr (0, fs)), (b1, .inr (2, hs))]) (sz := sz) (Qc := fun A => va_Qi (fun (r : Int32) (_ : Unit) => r = 0) (fun (u9 : Unit) t9 => bW D A [(a, .inr (0, fs)), (b1, .inr (2, hs))] t9) A) (by decide) (Nat.le_of_ble_eq_true rfl) ?_
  intro A p e s m below meth c ls hsz hB
  obtain ⟨hx, hb, hr, hml, hown, hin, hlk, hE, hK, hP, hD, hS, hA, hN, hl⟩ := hB
  have hown : s.vm.findClass "SeriesVault" = some m.cls := hown
  have hin : meth.name = "count" := hin
  have hl : lv_has ls 2 [(0, .ref a), (1, .int 1)] := hl
  obtain ⟨H, hH⟩ : ∃ z, z = s.heap := ⟨_, rfl⟩
  have hP : va_P D vwCl [(a, .inr (0, fs)), (b1, .inr (2, hs))] H := by rw [hH]; exact hP
  have hS : va_S A s.heap H [] := by rw [hH]; exact hS
  rw [← hH]
  refine lv_aload_n hx hb d_V_count_0 rfl (lv_at hl 0 rfl) ?_
  have hPc := hP.sub (ws' := [(a, .inr (0, fs))]) [0] rfl
  have hDc := hD.sub (ws' := [(a, .inr (0, fs))]) [0] (by decide) rfl
  refine jnV (rnV (As := []) (rest := []) hx hb hml hown hE hK (hN _ _ hS) hPc hDc (c_V_checkPower l D dA H.size a fs h_fs_powered hl_fs) (q0 := 0) rfl rfl w278 w276 w279 w280 w277 rfl rfl ⟨⟨by decide, by decide⟩, rfl⟩ ⟨(Nat.le_of_ble_eq_true rfl), (Nat.le_of_ble_eq_true rfl)⟩ rfl hl.1 rfl (Nat.le_of_ble_eq_true rfl) d_V_count_1 ⟨(Nat.le_of_ble_eq_true rfl), (Nat.le_of_ble_eq_true rfl)⟩) hP hD hS hA [0] [1] (wr := [(b1, .inr (2, hs))]) rfl rfl (by decide) (by decide) (fun u9 H locs hp9 hP hD hS => ?_)
  have hP : va_P D vwCl [(b1, .inr (2, hs)), (a, .inr (0, fs))] H := hP
  have hD : va_D A [(b1, .inr (2, hs)), (a, .inr (0, fs))] := hD
  refine lv_iload_n hx hb d_V_count_4 rfl (lv_at hl 1 rfl) ?_
  refine lv_tableIn (x := 1) (off := 59) (tgt := 64) hx hb d_V_count_5 (by decide) (by decide) (by decide) rfl ?_
  refine lv_aload_n hx hb d_V_count_64 rfl (lv_at hl 0 rfl) ?_
  refine gF (v := .ref b1) hx hb hown hE hK hP 1 rfl rfl layV 9 (by decide) w576 h_fs_head d_V_count_65 ?_
  refine gFN (v := .int 0) hx hb hown hE hK hP 0 rfl rfl layP 3 (by decide) w641 h_hs_size d_V_count_68 ?_
  exact rtI hx hb hr hlk hP hD hS () rfl [1, 0] rfl rfl (by decide) (Nat.le_of_ble_eq_true rfl) (Nat.le_of_ble_eq_true rfl) d_V_count_71
theorem d_V_count_72 : decode prog_1_method_43_code 72 = .ok (.aload_n 0, 1) := by decide +kernel
theorem d_V_count_73 : decode prog_1_method_43_code 73 = .ok (.getfield 33, 3) := by decide +kernel
theorem d_V_count_76 : decode prog_1_method_43_code 76 = .ok (.getfield 305, 3) := by decide +kernel
theorem d_V_count_79 : decode prog_1_method_43_code 79 = .ok (.ireturn, 1) := by decide +kernel
set_option maxHeartbeats 4000000 in
set_option maxRecDepth 100000 in
theorem c_V_count_2 (l : Launch) (D : va_G) (dA : Nat → ClassId) (sz : Nat) (a : Nat) (fs : List Value) (b2 : Nat) (is : List Value) (h_fs_powered : fs[5]? = some (.int 1)) (h_fs_now : fs[11]? = some (.ref b2)) (hl_fs : fs.length = 18) (h_is_parcelCount : is[1]? = some (.int 0)) (hl_is : is.length = 11) : Met l ⟨"SeriesVault", "count", "(I)I"⟩ [Cond.code ⟨"SeriesVault", "count", "(I)I"⟩ prog_1_method_43_code 2 (some FieldType.int)] { frames := 2, cells := 0, slots := 0, locals := 20 } (pC D dA [.ref a, .int 2] [(a, .inr (0, fs)), (b2, .inr (3, is))] sz) (va_Qi (fun (r : Int32) (_ : Unit) => r = 0) (fun (u9 : Unit) t9 => bW D (va_A [(a, .inr (0, fs)), (b2, .inr (3, is))] sz) [(a, .inr (0, fs)), (b2, .inr (3, is))] t9) (va_A [(a, .inr (0, fs)), (b2, .inr (3, is))] sz)) 0 0 (va_A [(a, .inr (0, fs)), (b2, .inr (3, is))] sz) := by
  refine mkC (y := ⟨"SeriesVault", "count", "(I)I"⟩) (cc := prog_1_method_43_code) (maxL := 2) (av := [.ref a, .int 2]) (ws := [(a, .inr (0, fs)), (b2, .inr (3, is))]) (sz := sz) (Qc := fun A => va_Qi (fun (r : Int32) (_ : Unit) => r = 0) (fun (u9 : Unit) t9 => bW D A [(a, .inr (0, fs)), (b2, .inr (3, is))] t9) A) (by decide) (Nat.le_of_ble_eq_true rfl) ?_
  intro A p e s m below meth c ls hsz hB
  obtain ⟨hx, hb, hr, hml, hown, hin, hlk, hE, hK, hP, hD, hS, hA, hN, hl⟩ := hB
  have hown : s.vm.findClass "SeriesVault" = some m.cls := hown
  have hin : meth.name = "count" := hin
  have hl : lv_has ls 2 [(0, .ref a), (1, .int 2)] := hl
  obtain ⟨H, hH⟩ : ∃ z, z = s.heap := ⟨_, rfl⟩
  have hP : va_P D vwCl [(a, .inr (0, fs)), (b2, .inr (3, is))] H := by rw [hH]; exact hP
  have hS : va_S A s.heap H [] := by rw [hH]; exact hS
  rw [← hH]
  refine lv_aload_n hx hb d_V_count_0 rfl (lv_at hl 0 rfl) ?_
  have hPc := hP.sub (ws' := [(a, .inr (0, fs))]) [0] rfl
  have hDc := hD.sub (ws' := [(a, .inr (0, fs))]) [0] (by decide) rfl
  refine jnV (rnV (As := []) (rest := []) hx hb hml hown hE hK (hN _ _ hS) hPc hDc (c_V_checkPower l D dA H.size a fs h_fs_powered hl_fs) (q0 := 0) rfl rfl w278 w276 w279 w280 w277 rfl rfl ⟨⟨by decide, by decide⟩, rfl⟩ ⟨(Nat.le_of_ble_eq_true rfl), (Nat.le_of_ble_eq_true rfl)⟩ rfl hl.1 rfl (Nat.le_of_ble_eq_true rfl) d_V_count_1 ⟨(Nat.le_of_ble_eq_true rfl), (Nat.le_of_ble_eq_true rfl)⟩) hP hD hS hA [0] [1] (wr := [(b2, .inr (3, is))]) rfl rfl (by decide) (by decide) (fun u9 H locs hp9 hP hD hS => ?_)
  have hP : va_P D vwCl [(b2, .inr (3, is)), (a, .inr (0, fs))] H := hP
  have hD : va_D A [(b2, .inr (3, is)), (a, .inr (0, fs))] := hD
  refine lv_iload_n hx hb d_V_count_4 rfl (lv_at hl 1 rfl) ?_
  refine lv_tableIn (x := 2) (off := 67) (tgt := 72) hx hb d_V_count_5 (by decide) (by decide) (by decide) rfl ?_
  refine lv_aload_n hx hb d_V_count_72 rfl (lv_at hl 0 rfl) ?_
  refine gF (v := .ref b2) hx hb hown hE hK hP 1 rfl rfl layV 11 (by decide) w297 h_fs_now d_V_count_73 ?_
  refine gFN (v := .int 0) hx hb hown hE hK hP 0 rfl rfl layH 1 (by decide) w303 h_is_parcelCount d_V_count_76 ?_
  exact rtI hx hb hr hlk hP hD hS () rfl [1, 0] rfl rfl (by decide) (Nat.le_of_ble_eq_true rfl) (Nat.le_of_ble_eq_true rfl) d_V_count_79
theorem d_V_count_80 : decode prog_1_method_43_code 80 = .ok (.aload_n 0, 1) := by decide +kernel
theorem d_V_count_81 : decode prog_1_method_43_code 81 = .ok (.getfield 33, 3) := by decide +kernel
theorem d_V_count_84 : decode prog_1_method_43_code 84 = .ok (.getfield 285, 3) := by decide +kernel
theorem d_V_count_87 : decode prog_1_method_43_code 87 = .ok (.ireturn, 1) := by decide +kernel
theorem w642 : Cond.fieldLinkNest "SeriesVault" 285 "SeriesVault$Shelf" "scarCount" "I" "SeriesVault" ∈ aW := aw_of (tb_1 (List.mem_of_getElem? (i := 151) rfl)) rfl
set_option maxHeartbeats 4000000 in
set_option maxRecDepth 100000 in
theorem c_V_count_3 (l : Launch) (D : va_G) (dA : Nat → ClassId) (sz : Nat) (a : Nat) (fs : List Value) (b2 : Nat) (is : List Value) (h_fs_powered : fs[5]? = some (.int 1)) (h_fs_now : fs[11]? = some (.ref b2)) (hl_fs : fs.length = 18) (h_is_scarCount : is[6]? = some (.int 0)) (hl_is : is.length = 11) : Met l ⟨"SeriesVault", "count", "(I)I"⟩ [Cond.code ⟨"SeriesVault", "count", "(I)I"⟩ prog_1_method_43_code 2 (some FieldType.int)] { frames := 2, cells := 0, slots := 0, locals := 20 } (pC D dA [.ref a, .int 3] [(a, .inr (0, fs)), (b2, .inr (3, is))] sz) (va_Qi (fun (r : Int32) (_ : Unit) => r = 0) (fun (u9 : Unit) t9 => bW D (va_A [(a, .inr (0, fs)), (b2, .inr (3, is))] sz) [(a, .inr (0, fs)), (b2, .inr (3, is))] t9) (va_A [(a, .inr (0, fs)), (b2, .inr (3, is))] sz)) 0 0 (va_A [(a, .inr (0, fs)), (b2, .inr (3, is))] sz) := by
  refine mkC (y := ⟨"SeriesVault", "count", "(I)I"⟩) (cc := prog_1_method_43_code) (maxL := 2) (av := [.ref a, .int 3]) (ws := [(a, .inr (0, fs)), (b2, .inr (3, is))]) (sz := sz) (Qc := fun A => va_Qi (fun (r : Int32) (_ : Unit) => r = 0) (fun (u9 : Unit) t9 => bW D A [(a, .inr (0, fs)), (b2, .inr (3, is))] t9) A) (by decide) (Nat.le_of_ble_eq_true rfl) ?_
  intro A p e s m below meth c ls hsz hB
  obtain ⟨hx, hb, hr, hml, hown, hin, hlk, hE, hK, hP, hD, hS, hA, hN, hl⟩ := hB
  have hown : s.vm.findClass "SeriesVault" = some m.cls := hown
  have hin : meth.name = "count" := hin
  have hl : lv_has ls 2 [(0, .ref a), (1, .int 3)] := hl
  obtain ⟨H, hH⟩ : ∃ z, z = s.heap := ⟨_, rfl⟩
  have hP : va_P D vwCl [(a, .inr (0, fs)), (b2, .inr (3, is))] H := by rw [hH]; exact hP
  have hS : va_S A s.heap H [] := by rw [hH]; exact hS
  rw [← hH]
  refine lv_aload_n hx hb d_V_count_0 rfl (lv_at hl 0 rfl) ?_
  have hPc := hP.sub (ws' := [(a, .inr (0, fs))]) [0] rfl
  have hDc := hD.sub (ws' := [(a, .inr (0, fs))]) [0] (by decide) rfl
  refine jnV (rnV (As := []) (rest := []) hx hb hml hown hE hK (hN _ _ hS) hPc hDc (c_V_checkPower l D dA H.size a fs h_fs_powered hl_fs) (q0 := 0) rfl rfl w278 w276 w279 w280 w277 rfl rfl ⟨⟨by decide, by decide⟩, rfl⟩ ⟨(Nat.le_of_ble_eq_true rfl), (Nat.le_of_ble_eq_true rfl)⟩ rfl hl.1 rfl (Nat.le_of_ble_eq_true rfl) d_V_count_1 ⟨(Nat.le_of_ble_eq_true rfl), (Nat.le_of_ble_eq_true rfl)⟩) hP hD hS hA [0] [1] (wr := [(b2, .inr (3, is))]) rfl rfl (by decide) (by decide) (fun u9 H locs hp9 hP hD hS => ?_)
  have hP : va_P D vwCl [(b2, .inr (3, is)), (a, .inr (0, fs))] H := hP
  have hD : va_D A [(b2, .inr (3, is)), (a, .inr (0, fs))] := hD
  refine lv_iload_n hx hb d_V_count_4 rfl (lv_at hl 1 rfl) ?_
  refine lv_tableIn (x := 3) (off := 75) (tgt := 80) hx hb d_V_count_5 (by decide) (by decide) (by decide) rfl ?_
  refine lv_aload_n hx hb d_V_count_80 rfl (lv_at hl 0 rfl) ?_
  refine gF (v := .ref b2) hx hb hown hE hK hP 1 rfl rfl layV 11 (by decide) w297 h_fs_now d_V_count_81 ?_
  refine gFN (v := .int 0) hx hb hown hE hK hP 0 rfl rfl layH 6 (by decide) w642 h_is_scarCount d_V_count_84 ?_
  exact rtI hx hb hr hlk hP hD hS () rfl [1, 0] rfl rfl (by decide) (Nat.le_of_ble_eq_true rfl) (Nat.le_of_ble_eq_true rfl) d_V_count_87
theorem d_V_count_88 : decode prog_1_method_43_code 88 = .ok (.aload_n 0, 1) := by decide +kernel
theorem d_V_count_89 : decode prog_1_method_43_code 89 = .ok (.invokevirtual 308, 3) := by decide +kernel
theorem d_V_count_92 : decode prog_1_method_43_code 92 = .ok (.ireturn, 1) := by decide +kernel
theorem w643 : Cond.methodLink "SeriesVault" 308 ⟨"SeriesVault", "freeBlocks", "()I"⟩ ∈ aW := aw_of (tb_6 (List.mem_of_getElem? (i := 90) rfl)) rfl
theorem w644 : Cond.code ⟨"SeriesVault", "freeBlocks", "()I"⟩ prog_1_method_17_code 1 (some FieldType.int) ∈ aW := aw_of (tb_6 (List.mem_of_getElem? (i := 93) rfl)) rfl
theorem w645 : Cond.instanceMethod ⟨"SeriesVault", "freeBlocks", "()I"⟩ ∈ aW := aw_of (tb_6 (List.mem_of_getElem? (i := 92) rfl)) rfl
theorem w646 : Cond.selects "SeriesVault" ⟨"SeriesVault", "freeBlocks", "()I"⟩ ⟨"SeriesVault", "freeBlocks", "()I"⟩ ∈ aW := aw_pr (List.mem_map.mpr ⟨_, pv_2 (List.mem_of_getElem? (i := 13) rfl), rfl⟩) rfl
set_option maxHeartbeats 4000000 in
set_option maxRecDepth 100000 in
theorem c_V_count_4 (l : Launch) (D : va_G) (dA : Nat → ClassId) (sz : Nat) (a : Nat) (fs : List Value) (b : Nat) (gs : List Value) (b2 : Nat) (is : List Value) (h_fs_diskBlocks : fs[4]? = some (.int 64)) (h_fs_powered : fs[5]? = some (.int 1)) (h_fs_journal : fs[8]? = some (.ref b)) (h_fs_now : fs[11]? = some (.ref b2)) (hl_fs : fs.length = 18) (h_gs_blockLimit : gs[9]? = some (.int 8)) (hl_gs : gs.length = 13) (h_is_parcelCount : is[1]? = some (.int 0)) (h_is_catalogBlocks : is[10]? = some (.int 0)) (hl_is : is.length = 11) : Met l ⟨"SeriesVault", "count", "(I)I"⟩ [Cond.code ⟨"SeriesVault", "count", "(I)I"⟩ prog_1_method_43_code 2 (some FieldType.int)] { frames := 3, cells := 0, slots := 0, locals := 42 } (pC D dA [.ref a, .int 4] [(a, .inr (0, fs)), (b, .inr (1, gs)), (b2, .inr (3, is))] sz) (va_Qi (fun (r : Int32) (_ : Unit) => r = 54) (fun (u9 : Unit) t9 => bW D (va_A [(a, .inr (0, fs)), (b, .inr (1, gs)), (b2, .inr (3, is))] sz) [(a, .inr (0, fs)), (b, .inr (1, gs)), (b2, .inr (3, is))] t9) (va_A [(a, .inr (0, fs)), (b, .inr (1, gs)), (b2, .inr (3, is))] sz)) 0 0 (va_A [(a, .inr (0, fs)), (b, .inr (1, gs)), (b2, .inr (3, is))] sz) := by
  refine mkC (y := ⟨"SeriesVault", "count", "(I)I"⟩) (cc := prog_1_method_43_code) (maxL := 2) (av := [.ref a, .int 4]) (ws := [(a, .inr (0, fs)), (b, .inr (1, gs)), (b2, .inr (3, is))]) (sz := sz) (Qc := fun A => va_Qi (fun (r : Int32) (_ : Unit) => r = 54) (fun (u9 : Unit) t9 => bW D A [(a, .inr (0, fs)), (b, .inr (1, gs)), (b2, .inr (3, is))] t9) A) (by decide) (Nat.le_of_ble_eq_true rfl) ?_
  intro A p e s m below meth c ls hsz hB
  obtain ⟨hx, hb, hr, hml, hown, hin, hlk, hE, hK, hP, hD, hS, hA, hN, hl⟩ := hB
  have hown : s.vm.findClass "SeriesVault" = some m.cls := hown
  have hin : meth.name = "count" := hin
  have hl : lv_has ls 2 [(0, .ref a), (1, .int 4)] := hl
  obtain ⟨H, hH⟩ : ∃ z, z = s.heap := ⟨_, rfl⟩
  have hP : va_P D vwCl [(a, .inr (0, fs)), (b, .inr (1, gs)), (b2, .inr (3, is))] H := by rw [hH]; exact hP
  have hS : va_S A s.heap H [] := by rw [hH]; exact hS
  rw [← hH]
  refine lv_aload_n hx hb d_V_count_0 rfl (lv_at hl 0 rfl) ?_
  have hPc := hP.sub (ws' := [(a, .inr (0, fs))]) [0] rfl
  have hDc := hD.sub (ws' := [(a, .inr (0, fs))]) [0] (by decide) rfl
  refine jnV (rnV (As := []) (rest := []) hx hb hml hown hE hK (hN _ _ hS) hPc hDc (c_V_checkPower l D dA H.size a fs h_fs_powered hl_fs) (q0 := 0) rfl rfl w278 w276 w279 w280 w277 rfl rfl ⟨⟨by decide, by decide⟩, rfl⟩ ⟨(Nat.le_of_ble_eq_true rfl), (Nat.le_of_ble_eq_true rfl)⟩ rfl hl.1 rfl (Nat.le_of_ble_eq_true rfl) d_V_count_1 ⟨(Nat.le_of_ble_eq_true rfl), (Nat.le_of_ble_eq_true rfl)⟩) hP hD hS hA [0] [1, 2] (wr := [(b, .inr (1, gs)), (b2, .inr (3, is))]) rfl rfl (by decide) (by decide) (fun u9 H locs hp9 hP hD hS => ?_)
  have hP : va_P D vwCl [(b, .inr (1, gs)), (b2, .inr (3, is)), (a, .inr (0, fs))] H := hP
  have hD : va_D A [(b, .inr (1, gs)), (b2, .inr (3, is)), (a, .inr (0, fs))] := hD
  refine lv_iload_n hx hb d_V_count_4 rfl (lv_at hl 1 rfl) ?_
  refine lv_tableIn (x := 4) (off := 83) (tgt := 88) hx hb d_V_count_5 (by decide) (by decide) (by decide) rfl ?_
  refine lv_aload_n hx hb d_V_count_88 rfl (lv_at hl 0 rfl) ?_
  have hPc := hP.sub (ws' := [(a, .inr (0, fs)), (b, .inr (1, gs)), (b2, .inr (3, is))]) [2, 0, 1] rfl
  have hDc := hD.sub (ws' := [(a, .inr (0, fs)), (b, .inr (1, gs)), (b2, .inr (3, is))]) [2, 0, 1] (by decide) rfl
  refine jnI (rnV (As := []) (rest := []) hx hb hml hown hE hK (hN _ _ hS) hPc hDc (c_V_freeBlocks_0 l D dA H.size a fs b gs b2 is h_fs_diskBlocks h_fs_journal h_fs_now hl_fs h_gs_blockLimit hl_gs h_is_parcelCount h_is_catalogBlocks hl_is) (q0 := 0) rfl rfl w644 w643 w645 w646 w277 rfl rfl ⟨⟨by decide, by decide⟩, rfl⟩ ⟨(Nat.le_of_ble_eq_true rfl), (Nat.le_of_ble_eq_true rfl)⟩ rfl hl.1 rfl (Nat.le_of_ble_eq_true rfl) d_V_count_89 ⟨(Nat.le_of_ble_eq_true rfl), (Nat.le_of_ble_eq_true rfl)⟩) hP hD hS hA [2, 0, 1] [] (wr := []) rfl rfl (by decide) (by decide) (fun r2 u9 H locs hp9 hP hD hS => ?_)
  have hP : va_P D vwCl [(a, .inr (0, fs)), (b, .inr (1, gs)), (b2, .inr (3, is))] H := hP
  have hD : va_D A [(a, .inr (0, fs)), (b, .inr (1, gs)), (b2, .inr (3, is))] := hD
  have hp9 : 54 = r2 := Eq.symm hp9
  subst hp9
  exact rtI hx hb hr hlk hP hD hS () rfl [0, 1, 2] rfl rfl (by decide) (Nat.le_of_ble_eq_true rfl) (Nat.le_of_ble_eq_true rfl) d_V_count_92
theorem d_V_count_93 : decode prog_1_method_43_code 93 = .ok (.aload_n 0, 1) := by decide +kernel
theorem d_V_count_94 : decode prog_1_method_43_code 94 = .ok (.getfield 16, 3) := by decide +kernel
theorem d_V_count_97 : decode prog_1_method_43_code 97 = .ok (.getfield 361, 3) := by decide +kernel
theorem d_V_count_100 : decode prog_1_method_43_code 100 = .ok (.ireturn, 1) := by decide +kernel
theorem w647 : Cond.fieldLinkNest "SeriesVault" 361 "SeriesVault$Journal" "units" "I" "SeriesVault" ∈ aW := aw_of (tb_1 (List.mem_of_getElem? (i := 67) rfl)) rfl
set_option maxHeartbeats 4000000 in
set_option maxRecDepth 100000 in
theorem c_V_count_5 (l : Launch) (D : va_G) (dA : Nat → ClassId) (sz : Nat) (a : Nat) (fs : List Value) (b : Nat) (gs : List Value) (h_fs_powered : fs[5]? = some (.int 1)) (h_fs_journal : fs[8]? = some (.ref b)) (hl_fs : fs.length = 18) (h_gs_units : gs[8]? = some (.int 0)) (hl_gs : gs.length = 13) : Met l ⟨"SeriesVault", "count", "(I)I"⟩ [Cond.code ⟨"SeriesVault", "count", "(I)I"⟩ prog_1_method_43_code 2 (some FieldType.int)] { frames := 2, cells := 0, slots := 0, locals := 20 } (pC D dA [.ref a, .int 5] [(a, .inr (0, fs)), (b, .inr (1, gs))] sz) (va_Qi (fun (r : Int32) (_ : Unit) => r = 0) (fun (u9 : Unit) t9 => bW D (va_A [(a, .inr (0, fs)), (b, .inr (1, gs))] sz) [(a, .inr (0, fs)), (b, .inr (1, gs))] t9) (va_A [(a, .inr (0, fs)), (b, .inr (1, gs))] sz)) 0 0 (va_A [(a, .inr (0, fs)), (b, .inr (1, gs))] sz) := by
  refine mkC (y := ⟨"SeriesVault", "count", "(I)I"⟩) (cc := prog_1_method_43_code) (maxL := 2) (av := [.ref a, .int 5]) (ws := [(a, .inr (0, fs)), (b, .inr (1, gs))]) (sz := sz) (Qc := fun A => va_Qi (fun (r : Int32) (_ : Unit) => r = 0) (fun (u9 : Unit) t9 => bW D A [(a, .inr (0, fs)), (b, .inr (1, gs))] t9) A) (by decide) (Nat.le_of_ble_eq_true rfl) ?_
  intro A p e s m below meth c ls hsz hB
  obtain ⟨hx, hb, hr, hml, hown, hin, hlk, hE, hK, hP, hD, hS, hA, hN, hl⟩ := hB
  have hown : s.vm.findClass "SeriesVault" = some m.cls := hown
  have hin : meth.name = "count" := hin
  have hl : lv_has ls 2 [(0, .ref a), (1, .int 5)] := hl
  obtain ⟨H, hH⟩ : ∃ z, z = s.heap := ⟨_, rfl⟩
  have hP : va_P D vwCl [(a, .inr (0, fs)), (b, .inr (1, gs))] H := by rw [hH]; exact hP
  have hS : va_S A s.heap H [] := by rw [hH]; exact hS
  rw [← hH]
  refine lv_aload_n hx hb d_V_count_0 rfl (lv_at hl 0 rfl) ?_
  have hPc := hP.sub (ws' := [(a, .inr (0, fs))]) [0] rfl
  have hDc := hD.sub (ws' := [(a, .inr (0, fs))]) [0] (by decide) rfl
  refine jnV (rnV (As := []) (rest := []) hx hb hml hown hE hK (hN _ _ hS) hPc hDc (c_V_checkPower l D dA H.size a fs h_fs_powered hl_fs) (q0 := 0) rfl rfl w278 w276 w279 w280 w277 rfl rfl ⟨⟨by decide, by decide⟩, rfl⟩ ⟨(Nat.le_of_ble_eq_true rfl), (Nat.le_of_ble_eq_true rfl)⟩ rfl hl.1 rfl (Nat.le_of_ble_eq_true rfl) d_V_count_1 ⟨(Nat.le_of_ble_eq_true rfl), (Nat.le_of_ble_eq_true rfl)⟩) hP hD hS hA [0] [1] (wr := [(b, .inr (1, gs))]) rfl rfl (by decide) (by decide) (fun u9 H locs hp9 hP hD hS => ?_)
  have hP : va_P D vwCl [(b, .inr (1, gs)), (a, .inr (0, fs))] H := hP
  have hD : va_D A [(b, .inr (1, gs)), (a, .inr (0, fs))] := hD
  refine lv_iload_n hx hb d_V_count_4 rfl (lv_at hl 1 rfl) ?_
  refine lv_tableIn (x := 5) (off := 88) (tgt := 93) hx hb d_V_count_5 (by decide) (by decide) (by decide) rfl ?_
  refine lv_aload_n hx hb d_V_count_93 rfl (lv_at hl 0 rfl) ?_
  refine gF (v := .ref b) hx hb hown hE hK hP 1 rfl rfl layV 8 (by decide) w312 h_fs_journal d_V_count_94 ?_
  refine gFN (v := .int 0) hx hb hown hE hK hP 0 rfl rfl layJ 8 (by decide) w647 h_gs_units d_V_count_97 ?_
  exact rtI hx hb hr hlk hP hD hS () rfl [1, 0] rfl rfl (by decide) (Nat.le_of_ble_eq_true rfl) (Nat.le_of_ble_eq_true rfl) d_V_count_100
theorem d_V_count_101 : decode prog_1_method_43_code 101 = .ok (.aload_n 0, 1) := by decide +kernel
theorem d_V_count_102 : decode prog_1_method_43_code 102 = .ok (.getfield 16, 3) := by decide +kernel
theorem d_V_count_105 : decode prog_1_method_43_code 105 = .ok (.getfield 153, 3) := by decide +kernel
theorem d_V_count_108 : decode prog_1_method_43_code 108 = .ok (.ireturn, 1) := by decide +kernel
set_option maxHeartbeats 4000000 in
set_option maxRecDepth 100000 in
theorem c_V_count_6 (l : Launch) (D : va_G) (dA : Nat → ClassId) (sz : Nat) (a : Nat) (fs : List Value) (b : Nat) (gs : List Value) (h_fs_powered : fs[5]? = some (.int 1)) (h_fs_journal : fs[8]? = some (.ref b)) (hl_fs : fs.length = 18) (h_gs_size : gs[6]? = some (.int 0)) (hl_gs : gs.length = 13) : Met l ⟨"SeriesVault", "count", "(I)I"⟩ [Cond.code ⟨"SeriesVault", "count", "(I)I"⟩ prog_1_method_43_code 2 (some FieldType.int)] { frames := 2, cells := 0, slots := 0, locals := 20 } (pC D dA [.ref a, .int 6] [(a, .inr (0, fs)), (b, .inr (1, gs))] sz) (va_Qi (fun (r : Int32) (_ : Unit) => r = 0) (fun (u9 : Unit) t9 => bW D (va_A [(a, .inr (0, fs)), (b, .inr (1, gs))] sz) [(a, .inr (0, fs)), (b, .inr (1, gs))] t9) (va_A [(a, .inr (0, fs)), (b, .inr (1, gs))] sz)) 0 0 (va_A [(a, .inr (0, fs)), (b, .inr (1, gs))] sz) := by
  refine mkC (y := ⟨"SeriesVault", "count", "(I)I"⟩) (cc := prog_1_method_43_code) (maxL := 2) (av := [.ref a, .int 6]) (ws := [(a, .inr (0, fs)), (b, .inr (1, gs))]) (sz := sz) (Qc := fun A => va_Qi (fun (r : Int32) (_ : Unit) => r = 0) (fun (u9 : Unit) t9 => bW D A [(a, .inr (0, fs)), (b, .inr (1, gs))] t9) A) (by decide) (Nat.le_of_ble_eq_true rfl) ?_
  intro A p e s m below meth c ls hsz hB
  obtain ⟨hx, hb, hr, hml, hown, hin, hlk, hE, hK, hP, hD, hS, hA, hN, hl⟩ := hB
  have hown : s.vm.findClass "SeriesVault" = some m.cls := hown
  have hin : meth.name = "count" := hin
  have hl : lv_has ls 2 [(0, .ref a), (1, .int 6)] := hl
  obtain ⟨H, hH⟩ : ∃ z, z = s.heap := ⟨_, rfl⟩
  have hP : va_P D vwCl [(a, .inr (0, fs)), (b, .inr (1, gs))] H := by rw [hH]; exact hP
  have hS : va_S A s.heap H [] := by rw [hH]; exact hS
  rw [← hH]
  refine lv_aload_n hx hb d_V_count_0 rfl (lv_at hl 0 rfl) ?_
  have hPc := hP.sub (ws' := [(a, .inr (0, fs))]) [0] rfl
  have hDc := hD.sub (ws' := [(a, .inr (0, fs))]) [0] (by decide) rfl
  refine jnV (rnV (As := []) (rest := []) hx hb hml hown hE hK (hN _ _ hS) hPc hDc (c_V_checkPower l D dA H.size a fs h_fs_powered hl_fs) (q0 := 0) rfl rfl w278 w276 w279 w280 w277 rfl rfl ⟨⟨by decide, by decide⟩, rfl⟩ ⟨(Nat.le_of_ble_eq_true rfl), (Nat.le_of_ble_eq_true rfl)⟩ rfl hl.1 rfl (Nat.le_of_ble_eq_true rfl) d_V_count_1 ⟨(Nat.le_of_ble_eq_true rfl), (Nat.le_of_ble_eq_true rfl)⟩) hP hD hS hA [0] [1] (wr := [(b, .inr (1, gs))]) rfl rfl (by decide) (by decide) (fun u9 H locs hp9 hP hD hS => ?_)
  have hP : va_P D vwCl [(b, .inr (1, gs)), (a, .inr (0, fs))] H := hP
  have hD : va_D A [(b, .inr (1, gs)), (a, .inr (0, fs))] := hD
  refine lv_iload_n hx hb d_V_count_4 rfl (lv_at hl 1 rfl) ?_
  refine lv_tableIn (x := 6) (off := 96) (tgt := 101) hx hb d_V_count_5 (by decide) (by decide) (by decide) rfl ?_
  refine lv_aload_n hx hb d_V_count_101 rfl (lv_at hl 0 rfl) ?_
  refine gF (v := .ref b) hx hb hown hE hK hP 1 rfl rfl layV 8 (by decide) w312 h_fs_journal d_V_count_102 ?_
  refine gFN (v := .int 0) hx hb hown hE hK hP 0 rfl rfl layJ 6 (by decide) w318 h_gs_size d_V_count_105 ?_
  exact rtI hx hb hr hlk hP hD hS () rfl [1, 0] rfl rfl (by decide) (Nat.le_of_ble_eq_true rfl) (Nat.le_of_ble_eq_true rfl) d_V_count_108
theorem d_V_count_109 : decode prog_1_method_43_code 109 = .ok (.aload_n 0, 1) := by decide +kernel
theorem d_V_count_110 : decode prog_1_method_43_code 110 = .ok (.getfield 16, 3) := by decide +kernel
theorem d_V_count_113 : decode prog_1_method_43_code 113 = .ok (.getfield 363, 3) := by decide +kernel
theorem d_V_count_116 : decode prog_1_method_43_code 116 = .ok (.ireturn, 1) := by decide +kernel
theorem w648 : Cond.fieldLinkNest "SeriesVault" 363 "SeriesVault$Journal" "kept" "I" "SeriesVault" ∈ aW := aw_of (tb_1 (List.mem_of_getElem? (i := 65) rfl)) rfl
set_option maxHeartbeats 4000000 in
set_option maxRecDepth 100000 in
theorem c_V_count_7 (l : Launch) (D : va_G) (dA : Nat → ClassId) (sz : Nat) (a : Nat) (fs : List Value) (b : Nat) (gs : List Value) (h_fs_powered : fs[5]? = some (.int 1)) (h_fs_journal : fs[8]? = some (.ref b)) (hl_fs : fs.length = 18) (h_gs_kept : gs[7]? = some (.int 0)) (hl_gs : gs.length = 13) : Met l ⟨"SeriesVault", "count", "(I)I"⟩ [Cond.code ⟨"SeriesVault", "count", "(I)I"⟩ prog_1_method_43_code 2 (some FieldType.int)] { frames := 2, cells := 0, slots := 0, locals := 20 } (pC D dA [.ref a, .int 7] [(a, .inr (0, fs)), (b, .inr (1, gs))] sz) (va_Qi (fun (r : Int32) (_ : Unit) => r = 0) (fun (u9 : Unit) t9 => bW D (va_A [(a, .inr (0, fs)), (b, .inr (1, gs))] sz) [(a, .inr (0, fs)), (b, .inr (1, gs))] t9) (va_A [(a, .inr (0, fs)), (b, .inr (1, gs))] sz)) 0 0 (va_A [(a, .inr (0, fs)), (b, .inr (1, gs))] sz) := by
  refine mkC (y := ⟨"SeriesVault", "count", "(I)I"⟩) (cc := prog_1_method_43_code) (maxL := 2) (av := [.ref a, .int 7]) (ws := [(a, .inr (0, fs)), (b, .inr (1, gs))]) (sz := sz) (Qc := fun A => va_Qi (fun (r : Int32) (_ : Unit) => r = 0) (fun (u9 : Unit) t9 => bW D A [(a, .inr (0, fs)), (b, .inr (1, gs))] t9) A) (by decide) (Nat.le_of_ble_eq_true rfl) ?_
  intro A p e s m below meth c ls hsz hB
  obtain ⟨hx, hb, hr, hml, hown, hin, hlk, hE, hK, hP, hD, hS, hA, hN, hl⟩ := hB
  have hown : s.vm.findClass "SeriesVault" = some m.cls := hown
  have hin : meth.name = "count" := hin
  have hl : lv_has ls 2 [(0, .ref a), (1, .int 7)] := hl
  obtain ⟨H, hH⟩ : ∃ z, z = s.heap := ⟨_, rfl⟩
  have hP : va_P D vwCl [(a, .inr (0, fs)), (b, .inr (1, gs))] H := by rw [hH]; exact hP
  have hS : va_S A s.heap H [] := by rw [hH]; exact hS
  rw [← hH]
  refine lv_aload_n hx hb d_V_count_0 rfl (lv_at hl 0 rfl) ?_
  have hPc := hP.sub (ws' := [(a, .inr (0, fs))]) [0] rfl
  have hDc := hD.sub (ws' := [(a, .inr (0, fs))]) [0] (by decide) rfl
  refine jnV (rnV (As := []) (rest := []) hx hb hml hown hE hK (hN _ _ hS) hPc hDc (c_V_checkPower l D dA H.size a fs h_fs_powered hl_fs) (q0 := 0) rfl rfl w278 w276 w279 w280 w277 rfl rfl ⟨⟨by decide, by decide⟩, rfl⟩ ⟨(Nat.le_of_ble_eq_true rfl), (Nat.le_of_ble_eq_true rfl)⟩ rfl hl.1 rfl (Nat.le_of_ble_eq_true rfl) d_V_count_1 ⟨(Nat.le_of_ble_eq_true rfl), (Nat.le_of_ble_eq_true rfl)⟩) hP hD hS hA [0] [1] (wr := [(b, .inr (1, gs))]) rfl rfl (by decide) (by decide) (fun u9 H locs hp9 hP hD hS => ?_)
  have hP : va_P D vwCl [(b, .inr (1, gs)), (a, .inr (0, fs))] H := hP
  have hD : va_D A [(b, .inr (1, gs)), (a, .inr (0, fs))] := hD
  refine lv_iload_n hx hb d_V_count_4 rfl (lv_at hl 1 rfl) ?_
  refine lv_tableIn (x := 7) (off := 104) (tgt := 109) hx hb d_V_count_5 (by decide) (by decide) (by decide) rfl ?_
  refine lv_aload_n hx hb d_V_count_109 rfl (lv_at hl 0 rfl) ?_
  refine gF (v := .ref b) hx hb hown hE hK hP 1 rfl rfl layV 8 (by decide) w312 h_fs_journal d_V_count_110 ?_
  refine gFN (v := .int 0) hx hb hown hE hK hP 0 rfl rfl layJ 7 (by decide) w648 h_gs_kept d_V_count_113 ?_
  exact rtI hx hb hr hlk hP hD hS () rfl [1, 0] rfl rfl (by decide) (Nat.le_of_ble_eq_true rfl) (Nat.le_of_ble_eq_true rfl) d_V_count_116
theorem d_V_count_117 : decode prog_1_method_43_code 117 = .ok (.aload_n 0, 1) := by decide +kernel
theorem d_V_count_118 : decode prog_1_method_43_code 118 = .ok (.getfield 33, 3) := by decide +kernel
theorem d_V_count_121 : decode prog_1_method_43_code 121 = .ok (.invokevirtual 366, 3) := by decide +kernel
theorem d_V_count_124 : decode prog_1_method_43_code 124 = .ok (.aload_n 0, 1) := by decide +kernel
theorem d_V_count_125 : decode prog_1_method_43_code 125 = .ok (.getfield 23, 3) := by decide +kernel
theorem d_V_count_128 : decode prog_1_method_43_code 128 = .ok (.getfield 261, 3) := by decide +kernel
theorem d_V_count_131 : decode prog_1_method_43_code 131 = .ok (.iadd, 1) := by decide +kernel
theorem d_V_count_132 : decode prog_1_method_43_code 132 = .ok (.ireturn, 1) := by decide +kernel
theorem w649 : Cond.methodLink "SeriesVault" 366 ⟨"SeriesVault$Shelf", "countAllSeen", "()I"⟩ ∈ aW := aw_of (tb_8 (List.mem_of_getElem? (i := 113) rfl)) rfl
theorem w650 : Cond.code ⟨"SeriesVault$Shelf", "countAllSeen", "()I"⟩ prog_9_method_17_code 1 (some FieldType.int) ∈ aW := aw_of (tb_8 (List.mem_of_getElem? (i := 116) rfl)) rfl
theorem w651 : Cond.instanceMethod ⟨"SeriesVault$Shelf", "countAllSeen", "()I"⟩ ∈ aW := aw_of (tb_8 (List.mem_of_getElem? (i := 114) rfl)) rfl
theorem w652 : Cond.selects "SeriesVault$Shelf" ⟨"SeriesVault$Shelf", "countAllSeen", "()I"⟩ ⟨"SeriesVault$Shelf", "countAllSeen", "()I"⟩ ∈ aW := aw_of (tb_8 (List.mem_of_getElem? (i := 115) rfl)) rfl
set_option maxHeartbeats 4000000 in
set_option maxRecDepth 100000 in
theorem c_V_count_8 (l : Launch) (D : va_G) (dA : Nat → ClassId) (sz : Nat) (a : Nat) (fs : List Value) (b1 : Nat) (hs : List Value) (b2 : Nat) (is : List Value) (h_fs_powered : fs[5]? = some (.int 1)) (h_fs_head : fs[9]? = some (.ref b1)) (h_fs_now : fs[11]? = some (.ref b2)) (hl_fs : fs.length = 18) (h_hs_size : hs[3]? = some (.int 0)) (hl_hs : hs.length = 4) (h_is_parcelCount : is[1]? = some (.int 0)) (hl_is : is.length = 11) : Met l ⟨"SeriesVault", "count", "(I)I"⟩ [Cond.code ⟨"SeriesVault", "count", "(I)I"⟩ prog_1_method_43_code 2 (some FieldType.int)] { frames := 3, cells := 0, slots := 0, locals := 44 } (pC D dA [.ref a, .int 8] [(a, .inr (0, fs)), (b1, .inr (2, hs)), (b2, .inr (3, is))] sz) (va_Qi (fun (r : Int32) (_ : Unit) => r = 0) (fun (u9 : Unit) t9 => bW D (va_A [(a, .inr (0, fs)), (b1, .inr (2, hs)), (b2, .inr (3, is))] sz) [(a, .inr (0, fs)), (b1, .inr (2, hs)), (b2, .inr (3, is))] t9) (va_A [(a, .inr (0, fs)), (b1, .inr (2, hs)), (b2, .inr (3, is))] sz)) 0 0 (va_A [(a, .inr (0, fs)), (b1, .inr (2, hs)), (b2, .inr (3, is))] sz) := by
  refine mkC (y := ⟨"SeriesVault", "count", "(I)I"⟩) (cc := prog_1_method_43_code) (maxL := 2) (av := [.ref a, .int 8]) (ws := [(a, .inr (0, fs)), (b1, .inr (2, hs)), (b2, .inr (3, is))]) (sz := sz) (Qc := fun A => va_Qi (fun (r : Int32) (_ : Unit) => r = 0) (fun (u9 : Unit) t9 => bW D A [(a, .inr (0, fs)), (b1, .inr (2, hs)), (b2, .inr (3, is))] t9) A) (by decide) (Nat.le_of_ble_eq_true rfl) ?_
  intro A p e s m below meth c ls hsz hB
  obtain ⟨hx, hb, hr, hml, hown, hin, hlk, hE, hK, hP, hD, hS, hA, hN, hl⟩ := hB
  have hown : s.vm.findClass "SeriesVault" = some m.cls := hown
  have hin : meth.name = "count" := hin
  have hl : lv_has ls 2 [(0, .ref a), (1, .int 8)] := hl
  obtain ⟨H, hH⟩ : ∃ z, z = s.heap := ⟨_, rfl⟩
  have hP : va_P D vwCl [(a, .inr (0, fs)), (b1, .inr (2, hs)), (b2, .inr (3, is))] H := by rw [hH]; exact hP
  have hS : va_S A s.heap H [] := by rw [hH]; exact hS
  rw [← hH]
  refine lv_aload_n hx hb d_V_count_0 rfl (lv_at hl 0 rfl) ?_
  have hPc := hP.sub (ws' := [(a, .inr (0, fs))]) [0] rfl
  have hDc := hD.sub (ws' := [(a, .inr (0, fs))]) [0] (by decide) rfl
  refine jnV (rnV (As := []) (rest := []) hx hb hml hown hE hK (hN _ _ hS) hPc hDc (c_V_checkPower l D dA H.size a fs h_fs_powered hl_fs) (q0 := 0) rfl rfl w278 w276 w279 w280 w277 rfl rfl ⟨⟨by decide, by decide⟩, rfl⟩ ⟨(Nat.le_of_ble_eq_true rfl), (Nat.le_of_ble_eq_true rfl)⟩ rfl hl.1 rfl (Nat.le_of_ble_eq_true rfl) d_V_count_1 ⟨(Nat.le_of_ble_eq_true rfl), (Nat.le_of_ble_eq_true rfl)⟩) hP hD hS hA [0] [1, 2] (wr := [(b1, .inr (2, hs)), (b2, .inr (3, is))]) rfl rfl (by decide) (by decide) (fun u9 H locs hp9 hP hD hS => ?_)
  have hP : va_P D vwCl [(b1, .inr (2, hs)), (b2, .inr (3, is)), (a, .inr (0, fs))] H := hP
  have hD : va_D A [(b1, .inr (2, hs)), (b2, .inr (3, is)), (a, .inr (0, fs))] := hD
  refine lv_iload_n hx hb d_V_count_4 rfl (lv_at hl 1 rfl) ?_
  refine lv_tableIn (x := 8) (off := 112) (tgt := 117) hx hb d_V_count_5 (by decide) (by decide) (by decide) rfl ?_
  refine lv_aload_n hx hb d_V_count_117 rfl (lv_at hl 0 rfl) ?_
  refine gF (v := .ref b2) hx hb hown hE hK hP 2 rfl rfl layV 11 (by decide) w297 h_fs_now d_V_count_118 ?_
  have hPc := hP.sub (ws' := [(b2, .inr (3, is))]) [1] rfl
  have hDc := hD.sub (ws' := [(b2, .inr (3, is))]) [1] (by decide) rfl
  refine jnI (rnV (As := []) (rest := []) hx hb hml hown hE hK (hN _ _ hS) hPc hDc (c_H_countAllSeen_0 l D dA H.size b2 is h_is_parcelCount hl_is) (q0 := 0) rfl rfl w650 w649 w651 w652 w583 rfl rfl ⟨⟨by decide, by decide⟩, rfl⟩ ⟨(Nat.le_of_ble_eq_true rfl), (Nat.le_of_ble_eq_true rfl)⟩ rfl hl.1 rfl (Nat.le_of_ble_eq_true rfl) d_V_count_121 ⟨(Nat.le_of_ble_eq_true rfl), (Nat.le_of_ble_eq_true rfl)⟩) hP hD hS hA [1] [0, 2] (wr := [(b1, .inr (2, hs)), (a, .inr (0, fs))]) rfl rfl (by decide) (by decide) (fun r2 u9 H locs hp9 hP hD hS => ?_)
  have hP : va_P D vwCl [(b1, .inr (2, hs)), (a, .inr (0, fs)), (b2, .inr (3, is))] H := hP
  have hD : va_D A [(b1, .inr (2, hs)), (a, .inr (0, fs)), (b2, .inr (3, is))] := hD
  have hp9 : 0 = r2 := Eq.symm hp9
  subst hp9
  refine lv_aload_n hx hb d_V_count_124 rfl (lv_at hl 0 rfl) ?_
  refine gF (v := .ref b1) hx hb hown hE hK hP 1 rfl rfl layV 9 (by decide) w576 h_fs_head d_V_count_125 ?_
  refine gFN (v := .int 0) hx hb hown hE hK hP 0 rfl rfl layP 3 (by decide) w641 h_hs_size d_V_count_128 ?_
  refine lv_iadd hx hb d_V_count_131 (tpi (y := 0) (by decide) ?_)
  exact rtI hx hb hr hlk hP hD hS () rfl [1, 0, 2] rfl rfl (by decide) (Nat.le_of_ble_eq_true rfl) (Nat.le_of_ble_eq_true rfl) d_V_count_132
theorem d_V_count_133 : decode prog_1_method_43_code 133 = .ok (.new 89, 3) := by decide +kernel
theorem d_V_count_136 : decode prog_1_method_43_code 136 = .ok (.dup, 1) := by decide +kernel
theorem d_V_count_137 : decode prog_1_method_43_code 137 = .ok (.invokespecial 91, 3) := by decide +kernel
theorem d_V_count_140 : decode prog_1_method_43_code 140 = .ok (.athrow, 1) := by decide +kernel
set_option maxHeartbeats 4000000 in
set_option maxRecDepth 100000 in
theorem c_V_count_x (l : Launch) (htr : l.stackTraces = false) (D : va_G) (dA : Nat → ClassId) (sz : Nat) (a : Nat) (fs : List Value) (n : Int32) (h0 : n < 0 ∨ 8 < n) (h_fs_powered : fs[5]? = some (.int 1)) (hl_fs : fs.length = 18) : mX l ⟨"SeriesVault", "count", "(I)I"⟩ [Cond.code ⟨"SeriesVault", "count", "(I)I"⟩ prog_1_method_43_code 2 (some FieldType.int)] { frames := 6, cells := 1, slots := 6, locals := 81 } (pC D dA [.ref a, .int n] [(a, .inr (0, fs))] sz) "java/lang/IllegalArgumentException" (fun st9 t9 => va_F (va_A [(a, .inr (0, fs))] sz) st9 t9 ∧ bW D (va_A [(a, .inr (0, fs))] sz) [(a, .inr (0, fs))] t9) 1 6 (va_A [(a, .inr (0, fs))] sz) := by
  refine mkX (y := ⟨"SeriesVault", "count", "(I)I"⟩) (cc := prog_1_method_43_code) (maxL := 2) (av := [.ref a, .int n]) (B := fun A => fun st9 t9 => va_F A st9 t9 ∧ bW D A [(a, .inr (0, fs))] t9) (by decide) (Nat.le_of_ble_eq_true rfl) ?_
  intro A p e s m below meth c ls hsz hno hB
  obtain ⟨hx, hb, hr, hml, hown, hin, hlk, hE, hK, hP, hD, hS, hA, hN, hl⟩ := hB
  have hown : s.vm.findClass "SeriesVault" = some m.cls := hown
  have hin : meth.name = "count" := hin
  have hl : lv_has ls 2 [(0, .ref a), (1, .int n)] := hl
  obtain ⟨H, hH⟩ : ∃ z, z = s.heap := ⟨_, rfl⟩
  have hP : va_P D vwCl [(a, .inr (0, fs))] H := by rw [hH]; exact hP
  have hS : va_S A s.heap H [] := by rw [hH]; exact hS
  rw [← hH]
  refine lv_aload_n hx hb d_V_count_0 rfl (lv_at hl 0 rfl) ?_
  have hPc := hP.sub (ws' := [(a, .inr (0, fs))]) [0] rfl
  have hDc := hD.sub (ws' := [(a, .inr (0, fs))]) [0] (by decide) rfl
  refine jnV (rnV (As := []) (rest := []) hx hb hml hown hE hK (hN _ _ hS) hPc hDc (c_V_checkPower l D dA H.size a fs h_fs_powered hl_fs) (q0 := 0) rfl rfl w278 w276 w279 w280 w277 rfl rfl ⟨⟨by decide, by decide⟩, rfl⟩ ⟨(Nat.le_of_ble_eq_true rfl), (Nat.le_of_ble_eq_true rfl)⟩ rfl hl.1 rfl (Nat.le_of_ble_eq_true rfl) d_V_count_1 ⟨(Nat.le_of_ble_eq_true rfl), (Nat.le_of_ble_eq_true rfl)⟩) hP hD hS hA [0] [] (wr := []) rfl rfl (by decide) (by decide) (fun u9 H locs hp9 hP hD hS => ?_)
  have hP : va_P D vwCl [(a, .inr (0, fs))] H := hP
  have hD : va_D A [(a, .inr (0, fs))] := hD
  refine lv_iload_n hx hb d_V_count_4 rfl (lv_at hl 1 rfl) ?_
  refine lv_tableOut (tgt := 133) hx hb d_V_count_5 (tb_out h0) rfl ?_
  exact xNew (E := "java/lang/IllegalArgumentException") (names := ["java/lang/RuntimeException", "java/lang/Exception"]) hx hb htr hown (by decide) (by decide) hE w273 w274 (fun U hU => at_V_IAE hU) (hN _ _ hS) (hl.1.trans hml.symm) d_V_count_133 d_V_count_136 d_V_count_137 d_V_count_140 hno (by decide) (Nat.le_of_ble_eq_true rfl) (Nat.le_of_ble_eq_true rfl) (Nat.le_of_ble_eq_true rfl) hlk (fun t h1 h2 => xEnd hP hD hS [0] rfl rfl (by decide) t h1 h2) hS.2.2 (Nat.le_of_ble_eq_true rfl) (Nat.le_of_ble_eq_true rfl)
theorem d_V_isTime_0 : decode prog_1_method_30_code 0 = .ok (.lload_n 0, 1) := by decide +kernel
theorem d_V_isTime_1 : decode prog_1_method_30_code 1 = .ok (.lconst 0, 1) := by decide +kernel
theorem d_V_isTime_2 : decode prog_1_method_30_code 2 = .ok (.lcmp, 1) := by decide +kernel
theorem d_V_isTime_3 : decode prog_1_method_30_code 3 = .ok (.ifCond .lt 15, 3) := by decide +kernel
theorem d_V_isTime_6 : decode prog_1_method_30_code 6 = .ok (.lload_n 0, 1) := by decide +kernel
theorem d_V_isTime_7 : decode prog_1_method_30_code 7 = .ok (.ldc2_w 270, 3) := by decide +kernel
theorem d_V_isTime_10 : decode prog_1_method_30_code 10 = .ok (.lcmp, 1) := by decide +kernel
theorem d_V_isTime_11 : decode prog_1_method_30_code 11 = .ok (.ifCond .gt 7, 3) := by decide +kernel
theorem d_V_isTime_14 : decode prog_1_method_30_code 14 = .ok (.iconst 1, 1) := by decide +kernel
theorem d_V_isTime_15 : decode prog_1_method_30_code 15 = .ok (.goto 4, 3) := by decide +kernel
theorem d_V_isTime_19 : decode prog_1_method_30_code 19 = .ok (.ireturn, 1) := by decide +kernel
theorem w653 : Cond.constantLong "SeriesVault" 270 1099511627775 ∈ aW := aw_of (tb_5 (List.mem_of_getElem? (i := 144) rfl)) rfl
set_option maxHeartbeats 4000000 in
set_option maxRecDepth 100000 in
theorem c_V_isTime_1 (l : Launch) (D : va_G) (dA : Nat → ClassId) (sz : Nat) (t : Int64) (h1 : ¬ t < 0) (h2 : t ≤ 1099511627775) : Met l ⟨"SeriesVault", "isTime", "(J)Z"⟩ [Cond.code ⟨"SeriesVault", "isTime", "(J)Z"⟩ prog_1_method_30_code 2 (some FieldType.boolean)] { frames := 1, cells := 0, slots := 0, locals := 0 } (pC D dA [.long t] [] sz) (va_Qi (fun (r : Int32) (_ : Unit) => r = 1) (fun (u9 : Unit) t9 => bW D (va_A [] sz) [] t9) (va_A [] sz)) 0 0 (va_A [] sz) := by
  refine mkC (y := ⟨"SeriesVault", "isTime", "(J)Z"⟩) (cc := prog_1_method_30_code) (maxL := 2) (av := [.long t]) (ws := []) (sz := sz) (Qc := fun A => va_Qi (fun (r : Int32) (_ : Unit) => r = 1) (fun (u9 : Unit) t9 => bW D A [] t9) A) (by decide) (Nat.le_of_ble_eq_true rfl) ?_
  intro A p e s m below meth c ls hsz hB
  obtain ⟨hx, hb, hr, hml, hown, hin, hlk, hE, hK, hP, hD, hS, hA, hN, hl⟩ := hB
  have hown : s.vm.findClass "SeriesVault" = some m.cls := hown
  have hin : meth.name = "isTime" := hin
  have hl : lv_has ls 2 [(0, .long t)] := hl
  obtain ⟨H, hH⟩ : ∃ z, z = s.heap := ⟨_, rfl⟩
  have hP : va_P D vwCl [] H := by rw [hH]; exact hP
  have hS : va_S A s.heap H [] := by rw [hH]; exact hS
  rw [← hH]
  refine lv_lload_n hx hb d_V_isTime_0 rfl (lv_at hl 0 rfl) ?_
  refine lv_lconst (v := 0) hx hb d_V_isTime_1 (by decide) ?_
  refine W.lcmp hx hb d_V_isTime_2 ?_
  refine lv_if_lt hx hb d_V_isTime_3 (tgt := 18) rfl (fun h9 => absurd h9 (mt (lg_cmp_lt _ _).mp (h1))) (fun _ => ?_)
  refine lv_lload_n hx hb d_V_isTime_6 rfl (lv_at hl 0 rfl) ?_
  refine lv_ldc2 (v := 1099511627775) hx hb hown (hE.t w653 rfl) d_V_isTime_7 ?_
  refine W.lcmp hx hb d_V_isTime_10 ?_
  refine lv_if_gt hx hb d_V_isTime_11 (tgt := 18) rfl (fun h9 => absurd h9 (mt (lg_cmp_gt _ _).mp (Int64.not_lt.mpr (h2)))) (fun _ => ?_)
  refine lv_iconst (v := 1) hx hb d_V_isTime_14 (by decide) ?_
  refine lv_goto hx hb d_V_isTime_15 (tgt := 19) rfl ?_
  exact rtZ hx hb hr (by decide) hlk hP hD hS () rfl [] rfl rfl (by decide) (Nat.le_of_ble_eq_true rfl) (Nat.le_of_ble_eq_true rfl) d_V_isTime_19
theorem d_V_isTime_18 : decode prog_1_method_30_code 18 = .ok (.iconst 0, 1) := by decide +kernel
set_option maxHeartbeats 4000000 in
set_option maxRecDepth 100000 in
theorem c_V_isTime_0 (l : Launch) (D : va_G) (dA : Nat → ClassId) (sz : Nat) (t : Int64) (h0 : t < 0 ∨ 1099511627775 < t) : Met l ⟨"SeriesVault", "isTime", "(J)Z"⟩ [Cond.code ⟨"SeriesVault", "isTime", "(J)Z"⟩ prog_1_method_30_code 2 (some FieldType.boolean)] { frames := 1, cells := 0, slots := 0, locals := 0 } (pC D dA [.long t] [] sz) (va_Qi (fun (r : Int32) (_ : Unit) => r = 0) (fun (u9 : Unit) t9 => bW D (va_A [] sz) [] t9) (va_A [] sz)) 0 0 (va_A [] sz) := by
  refine mkC (y := ⟨"SeriesVault", "isTime", "(J)Z"⟩) (cc := prog_1_method_30_code) (maxL := 2) (av := [.long t]) (ws := []) (sz := sz) (Qc := fun A => va_Qi (fun (r : Int32) (_ : Unit) => r = 0) (fun (u9 : Unit) t9 => bW D A [] t9) A) (by decide) (Nat.le_of_ble_eq_true rfl) ?_
  intro A p e s m below meth c ls hsz hB
  obtain ⟨hx, hb, hr, hml, hown, hin, hlk, hE, hK, hP, hD, hS, hA, hN, hl⟩ := hB
  have hown : s.vm.findClass "SeriesVault" = some m.cls := hown
  have hin : meth.name = "isTime" := hin
  have hl : lv_has ls 2 [(0, .long t)] := hl
  obtain ⟨H, hH⟩ : ∃ z, z = s.heap := ⟨_, rfl⟩
  have hP : va_P D vwCl [] H := by rw [hH]; exact hP
  have hS : va_S A s.heap H [] := by rw [hH]; exact hS
  rw [← hH]
  refine lv_lload_n hx hb d_V_isTime_0 rfl (lv_at hl 0 rfl) ?_
  refine lv_lconst (v := 0) hx hb d_V_isTime_1 (by decide) ?_
  refine W.lcmp hx hb d_V_isTime_2 ?_
  refine lv_if_lt hx hb d_V_isTime_3 (tgt := 18) rfl (fun hc => ?_) (fun hc => ?_)
  · refine lv_iconst (v := 0) hx hb d_V_isTime_18 (by decide) ?_
    exact rtZ hx hb hr (by decide) hlk hP hD hS () rfl [] rfl rfl (by decide) (Nat.le_of_ble_eq_true rfl) (Nat.le_of_ble_eq_true rfl) d_V_isTime_19
  · refine lv_lload_n hx hb d_V_isTime_6 rfl (lv_at hl 0 rfl) ?_
    refine lv_ldc2 (v := 1099511627775) hx hb hown (hE.t w653 rfl) d_V_isTime_7 ?_
    refine W.lcmp hx hb d_V_isTime_10 ?_
    refine lv_if_gt hx hb d_V_isTime_11 (tgt := 18) rfl (fun _ => ?_) (fun h9 => absurd ((lg_cmp_gt _ _).mpr (h0.resolve_left (mt (lg_cmp_lt _ _).mpr hc))) h9)
    refine lv_iconst (v := 0) hx hb d_V_isTime_18 (by decide) ?_
    exact rtZ hx hb hr (by decide) hlk hP hD hS () rfl [] rfl rfl (by decide) (Nat.le_of_ble_eq_true rfl) (Nat.le_of_ble_eq_true rfl) d_V_isTime_19
theorem d_L_clear_0 : decode prog_37_method_40_code 0 = .ok (.aload_n 0, 1) := by decide +kernel
theorem d_L_clear_1 : decode prog_37_method_40_code 1 = .ok (.dup, 1) := by decide +kernel
theorem d_L_clear_2 : decode prog_37_method_40_code 2 = .ok (.getfield 63, 3) := by decide +kernel
theorem d_L_clear_5 : decode prog_37_method_40_code 5 = .ok (.iconst 1, 1) := by decide +kernel
theorem d_L_clear_6 : decode prog_37_method_40_code 6 = .ok (.iadd, 1) := by decide +kernel
theorem d_L_clear_7 : decode prog_37_method_40_code 7 = .ok (.putfield 63, 3) := by decide +kernel
theorem d_L_clear_10 : decode prog_37_method_40_code 10 = .ok (.aload_n 0, 1) := by decide +kernel
theorem d_L_clear_11 : decode prog_37_method_40_code 11 = .ok (.getfield 9, 3) := by decide +kernel
theorem d_L_clear_14 : decode prog_37_method_40_code 14 = .ok (.astore_n 1, 1) := by decide +kernel
theorem d_L_clear_15 : decode prog_37_method_40_code 15 = .ok (.aload_n 0, 1) := by decide +kernel
theorem d_L_clear_16 : decode prog_37_method_40_code 16 = .ok (.getfield 48, 3) := by decide +kernel
theorem d_L_clear_19 : decode prog_37_method_40_code 19 = .ok (.istore_n 2, 1) := by decide +kernel
theorem d_L_clear_20 : decode prog_37_method_40_code 20 = .ok (.aload_n 0, 1) := by decide +kernel
theorem d_L_clear_21 : decode prog_37_method_40_code 21 = .ok (.iconst 0, 1) := by decide +kernel
theorem d_L_clear_22 : decode prog_37_method_40_code 22 = .ok (.dup_x1, 1) := by decide +kernel
theorem d_L_clear_23 : decode prog_37_method_40_code 23 = .ok (.putfield 48, 3) := by decide +kernel
theorem d_L_clear_26 : decode prog_37_method_40_code 26 = .ok (.istore_n 3, 1) := by decide +kernel
theorem d_L_clear_27 : decode prog_37_method_40_code 27 = .ok (.iload_n 3, 1) := by decide +kernel
theorem d_L_clear_28 : decode prog_37_method_40_code 28 = .ok (.iload_n 2, 1) := by decide +kernel
theorem d_L_clear_29 : decode prog_37_method_40_code 29 = .ok (.if_icmp .ge 13, 3) := by decide +kernel
theorem d_L_clear_42 : decode prog_37_method_40_code 42 = .ok (.return_, 1) := by decide +kernel
theorem w654 : Cond.fieldLink "java/util/ArrayList" 63 "java/util/ArrayList" "modCount" "I" ∈ aW := aw_of (tb_1 (List.mem_of_getElem? (i := 236) rfl)) rfl
theorem w655 : Cond.sameField "java/util/ArrayList" "java/util/AbstractList" "modCount" "I" ∈ aW := aw_of (tb_1 (List.mem_of_getElem? (i := 237) rfl)) rfl
theorem w656 : Cond.fieldLink "java/util/ArrayList" 9 "java/util/ArrayList" "elementData" "[Ljava/lang/Object;" ∈ aW := aw_of (tb_1 (List.mem_of_getElem? (i := 233) rfl)) rfl
theorem w657 : Cond.fieldLink "java/util/ArrayList" 48 "java/util/ArrayList" "size" "I" ∈ aW := aw_of (tb_1 (List.mem_of_getElem? (i := 234) rfl)) rfl
set_option maxHeartbeats 4000000 in
set_option maxRecDepth 100000 in
theorem c_L_clear_0 (l : Launch) (D : va_G) (dA : Nat → ClassId) (sz : Nat) (a : Nat) (fs : List Value) (k : Int32) (b : Nat) (h_fs_elementData : fs[0]? = some (.ref b)) (h_fs_size : fs[1]? = some (.int 0)) (h_fs_modCount : fs[2]? = some (.int k)) (hl_fs : fs.length = 3) : Met l ⟨"java/util/ArrayList", "clear", "()V"⟩ [Cond.code ⟨"java/util/ArrayList", "clear", "()V"⟩ prog_37_method_40_code 4 none] { frames := 1, cells := 0, slots := 0, locals := 0 } (pC D dA [.ref a] [(a, .inr (6, fs))] sz) (va_Qv (fun (_ : Unit) => True) (fun (u9 : Unit) t9 => bW D (va_A [(a, .inr (6, fs))] sz) [(a, .inr (6, ((fs.set 2 (.int (k + 1))).set 1 (.int 0))))] t9) (va_A [(a, .inr (6, fs))] sz)) 0 0 (va_A [(a, .inr (6, fs))] sz) := by
  refine mkC (y := ⟨"java/util/ArrayList", "clear", "()V"⟩) (cc := prog_37_method_40_code) (maxL := 4) (av := [.ref a]) (ws := [(a, .inr (6, fs))]) (sz := sz) (Qc := fun A => va_Qv (fun (_ : Unit) => True) (fun (u9 : Unit) t9 => bW D A [(a, .inr (6, ((fs.set 2 (.int (k + 1))).set 1 (.int 0))))] t9) A) (by decide) (Nat.le_of_ble_eq_true rfl) ?_
  intro A p e s m below meth c ls hsz hB
  obtain ⟨hx, hb, hr, hml, hown, hin, hlk, hE, hK, hP, hD, hS, hA, hN, hl⟩ := hB
  have hown : s.vm.findClass "java/util/ArrayList" = some m.cls := hown
  have hin : meth.name = "clear" := hin
  have hl : lv_has ls 4 [(0, .ref a)] := hl
  obtain ⟨H, hH⟩ : ∃ z, z = s.heap := ⟨_, rfl⟩
  have hP : va_P D vwCl [(a, .inr (6, fs))] H := by rw [hH]; exact hP
  have hS : va_S A s.heap H [] := by rw [hH]; exact hS
  rw [← hH]
  refine lv_aload_n hx hb d_L_clear_0 rfl (lv_at hl 0 rfl) ?_
  refine lv_dup hx hb d_L_clear_1 rfl ?_
  refine gFU (v := .int k) hx hb hown hE hK hP 0 rfl rfl layL 2 (by decide) w654 w655 h_fs_modCount d_L_clear_2 ?_
  refine lv_iconst (v := 1) hx hb d_L_clear_5 (by decide) ?_
  refine lv_iadd hx hb d_L_clear_6 ?_
  refine pFU hx hb hown hE hK hP hD hS 0 rfl rfl layL tyL tokL nmL 2 (by decide) w654 w655 rfl rfl rfl (by simp [hl_fs]) d_L_clear_7 (fun H locs hP hD hS => ?_)
  have hP : va_P D vwCl [(a, .inr (6, (fs.set 2 (.int (k + 1)))))] H := hP
  have hD : va_D A [(a, .inr (6, (fs.set 2 (.int (k + 1)))))] := hD
  refine lv_aload_n hx hb d_L_clear_10 rfl (lv_at hl 0 rfl) ?_
  refine gF (v := .ref b) hx hb hown hE hK hP 0 rfl rfl layL 0 (by decide) w656 (by simp [h_fs_elementData]) d_L_clear_11 ?_
  refine lv_astore_n hx hb d_L_clear_14 rfl hl (by decide) rfl (fun ls hl => ?_)
  have hl : lv_has ls 4 [(1, .ref b), (0, .ref a)] := hl
  refine lv_aload_n hx hb d_L_clear_15 rfl (lv_at hl 1 rfl) ?_
  refine gF (v := .int 0) hx hb hown hE hK hP 0 rfl rfl layL 1 (by decide) w657 (by simp [h_fs_size]) d_L_clear_16 ?_
  refine lv_istore_n hx hb d_L_clear_19 rfl hl (by decide) rfl (fun ls hl => ?_)
  have hl : lv_has ls 4 [(2, .int 0), (1, .ref b), (0, .ref a)] := hl
  refine lv_aload_n hx hb d_L_clear_20 rfl (lv_at hl 2 rfl) ?_
  refine lv_iconst (v := 0) hx hb d_L_clear_21 (by decide) ?_
  refine lv_dup_x1 hx hb d_L_clear_22 rfl rfl ?_
  refine pF hx hb hown hE hK hP hD hS 0 rfl rfl layL tyL tokL nmL 1 (by decide) w657 rfl rfl rfl (by simp [hl_fs]) d_L_clear_23 (fun H locs hP hD hS => ?_)
  have hP : va_P D vwCl [(a, .inr (6, ((fs.set 2 (.int (k + 1))).set 1 (.int 0))))] H := hP
  have hD : va_D A [(a, .inr (6, ((fs.set 2 (.int (k + 1))).set 1 (.int 0))))] := hD
  refine lv_istore_n hx hb d_L_clear_26 rfl hl (by decide) rfl (fun ls hl => ?_)
  have hl : lv_has ls 4 [(3, .int 0), (2, .int 0), (1, .ref b), (0, .ref a)] := hl
  refine lv_iload_n hx hb d_L_clear_27 rfl (lv_at hl 0 rfl) ?_
  refine lv_iload_n hx hb d_L_clear_28 rfl (lv_at hl 1 rfl) ?_
  refine lv_icmp_ge hx hb d_L_clear_29 (tgt := 42) rfl (fun _ => ?_) (fun h9 => absurd (by decide) h9)
  exact rtV hx hb hr hlk hP hD hS () trivial [0] rfl rfl (by decide) (Nat.le_of_ble_eq_true rfl) (Nat.le_of_ble_eq_true rfl) d_L_clear_42
theorem d_Q_refuse_0 : decode prog_6_method_3_code 0 = .ok (.aload_n 0, 1) := by decide +kernel
theorem d_Q_refuse_1 : decode prog_6_method_3_code 1 = .ok (.getfield 26, 3) := by decide +kernel
theorem d_Q_refuse_4 : decode prog_6_method_3_code 4 = .ok (.ifCond .ne 13, 3) := by decide +kernel
theorem d_Q_refuse_7 : decode prog_6_method_3_code 7 = .ok (.aload_n 0, 1) := by decide +kernel
theorem d_Q_refuse_8 : decode prog_6_method_3_code 8 = .ok (.iload_n 1, 1) := by decide +kernel
theorem d_Q_refuse_9 : decode prog_6_method_3_code 9 = .ok (.putfield 26, 3) := by decide +kernel
theorem d_Q_refuse_12 : decode prog_6_method_3_code 12 = .ok (.aload_n 0, 1) := by decide +kernel
theorem d_Q_refuse_13 : decode prog_6_method_3_code 13 = .ok (.iload_n 2, 1) := by decide +kernel
theorem d_Q_refuse_14 : decode prog_6_method_3_code 14 = .ok (.putfield 29, 3) := by decide +kernel
theorem d_Q_refuse_17 : decode prog_6_method_3_code 17 = .ok (.iconst 0, 1) := by decide +kernel
theorem d_Q_refuse_18 : decode prog_6_method_3_code 18 = .ok (.ireturn, 1) := by decide +kernel
theorem w658 : Cond.fieldLink "SeriesVault$Question" 26 "SeriesVault$Question" "faultCode" "I" ∈ aW := aw_of (tb_2 (List.mem_of_getElem? (i := 11) rfl)) rfl
theorem w659 : Cond.fieldLink "SeriesVault$Question" 29 "SeriesVault$Question" "faultPlace" "I" ∈ aW := aw_of (tb_2 (List.mem_of_getElem? (i := 13) rfl)) rfl
set_option maxHeartbeats 4000000 in
set_option maxRecDepth 100000 in
theorem c_Q_refuse (l : Launch) (D : va_G) (dA : Nat → ClassId) (sz : Nat) (a : Nat) (fs : List Value) (n : Int32) (j : Int32) (h_fs_faultCode : fs[6]? = some (.int 0)) (hl_fs : fs.length = 9) : Met l ⟨"SeriesVault$Question", "refuse", "(II)Z"⟩ [Cond.code ⟨"SeriesVault$Question", "refuse", "(II)Z"⟩ prog_6_method_3_code 3 (some FieldType.boolean)] { frames := 1, cells := 0, slots := 0, locals := 0 } (pC D dA [.ref a, .int n, .int j] [(a, .inr (5, fs))] sz) (va_Qi (fun (r : Int32) (_ : Unit) => r = 0) (fun (u9 : Unit) t9 => bW D (va_A [(a, .inr (5, fs))] sz) [(a, .inr (5, ((fs.set 6 (.int n)).set 7 (.int j))))] t9) (va_A [(a, .inr (5, fs))] sz)) 0 0 (va_A [(a, .inr (5, fs))] sz) := by
  refine mkC (y := ⟨"SeriesVault$Question", "refuse", "(II)Z"⟩) (cc := prog_6_method_3_code) (maxL := 3) (av := [.ref a, .int n, .int j]) (ws := [(a, .inr (5, fs))]) (sz := sz) (Qc := fun A => va_Qi (fun (r : Int32) (_ : Unit) => r = 0) (fun (u9 : Unit) t9 => bW D A [(a, .inr (5, ((fs.set 6 (.int n)).set 7 (.int j))))] t9) A) (by decide) (Nat.le_of_ble_eq_true rfl) ?_
  intro A p e s m below meth c ls hsz hB
  obtain ⟨hx, hb, hr, hml, hown, hin, hlk, hE, hK, hP, hD, hS, hA, hN, hl⟩ := hB
  have hown : s.vm.findClass "SeriesVault$Question" = some m.cls := hown
  have hin : meth.name = "refuse" := hin
  have hl : lv_has ls 3 [(0, .ref a), (1, .int n), (2, .int j)] := hl
  obtain ⟨H, hH⟩ : ∃ z, z = s.heap := ⟨_, rfl⟩
  have hP : va_P D vwCl [(a, .inr (5, fs))] H := by rw [hH]; exact hP
  have hS : va_S A s.heap H [] := by rw [hH]; exact hS
  rw [← hH]
  refine lv_aload_n hx hb d_Q_refuse_0 rfl (lv_at hl 0 rfl) ?_
  refine gF (v := .int 0) hx hb hown hE hK hP 0 rfl rfl layQ 6 (by decide) w658 h_fs_faultCode d_Q_refuse_1 ?_
  refine lv_if_ne hx hb d_Q_refuse_4 (tgt := 17) rfl (fun h9 => absurd (by decide) h9) (fun _ => ?_)
  refine lv_aload_n hx hb d_Q_refuse_7 rfl (lv_at hl 0 rfl) ?_
  refine lv_iload_n hx hb d_Q_refuse_8 rfl (lv_at hl 1 rfl) ?_
  refine pF hx hb hown hE hK hP hD hS 0 rfl rfl layQ tyQ tokQ nmQ 6 (by decide) w658 rfl rfl rfl (by simp [hl_fs]) d_Q_refuse_9 (fun H locs hP hD hS => ?_)
  have hP : va_P D vwCl [(a, .inr (5, (fs.set 6 (.int n))))] H := hP
  have hD : va_D A [(a, .inr (5, (fs.set 6 (.int n))))] := hD
  refine lv_aload_n hx hb d_Q_refuse_12 rfl (lv_at hl 0 rfl) ?_
  refine lv_iload_n hx hb d_Q_refuse_13 rfl (lv_at hl 2 rfl) ?_
  refine pF hx hb hown hE hK hP hD hS 0 rfl rfl layQ tyQ tokQ nmQ 7 (by decide) w659 rfl rfl rfl (by simp [hl_fs]) d_Q_refuse_14 (fun H locs hP hD hS => ?_)
  have hP : va_P D vwCl [(a, .inr (5, ((fs.set 6 (.int n)).set 7 (.int j))))] H := hP
  have hD : va_D A [(a, .inr (5, ((fs.set 6 (.int n)).set 7 (.int j))))] := hD
  refine lv_iconst (v := 0) hx hb d_Q_refuse_17 (by decide) ?_
  exact rtZ hx hb hr (by decide) hlk hP hD hS () rfl [0] rfl rfl (by decide) (Nat.le_of_ble_eq_true rfl) (Nat.le_of_ble_eq_true rfl) d_Q_refuse_18
theorem d_Q_advance_0 : decode prog_6_method_16_code 0 = .ok (.aload_n 0, 1) := by decide +kernel
theorem d_Q_advance_1 : decode prog_6_method_16_code 1 = .ok (.getfield 32, 3) := by decide +kernel
theorem d_Q_advance_4 : decode prog_6_method_16_code 4 = .ok (.istore_n 1, 1) := by decide +kernel
theorem d_Q_advance_5 : decode prog_6_method_16_code 5 = .ok (.iload_n 1, 1) := by decide +kernel
theorem d_Q_advance_6 : decode prog_6_method_16_code 6 = .ok (.aload_n 0, 1) := by decide +kernel
theorem d_Q_advance_7 : decode prog_6_method_16_code 7 = .ok (.getfield 22, 3) := by decide +kernel
theorem d_Q_advance_10 : decode prog_6_method_16_code 10 = .ok (.if_icmp .ge 20, 3) := by decide +kernel
theorem d_Q_advance_30 : decode prog_6_method_16_code 30 = .ok (.aload_n 0, 1) := by decide +kernel
theorem d_Q_advance_31 : decode prog_6_method_16_code 31 = .ok (.iload_n 1, 1) := by decide +kernel
theorem d_Q_advance_32 : decode prog_6_method_16_code 32 = .ok (.putfield 48, 3) := by decide +kernel
theorem d_Q_advance_35 : decode prog_6_method_16_code 35 = .ok (.iload_n 1, 1) := by decide +kernel
theorem d_Q_advance_36 : decode prog_6_method_16_code 36 = .ok (.aload_n 0, 1) := by decide +kernel
theorem d_Q_advance_37 : decode prog_6_method_16_code 37 = .ok (.getfield 22, 3) := by decide +kernel
theorem d_Q_advance_40 : decode prog_6_method_16_code 40 = .ok (.if_icmp .ne 19, 3) := by decide +kernel
theorem d_Q_advance_43 : decode prog_6_method_16_code 43 = .ok (.aload_n 0, 1) := by decide +kernel
theorem d_Q_advance_44 : decode prog_6_method_16_code 44 = .ok (.aload_n 0, 1) := by decide +kernel
theorem d_Q_advance_45 : decode prog_6_method_16_code 45 = .ok (.getfield 22, 3) := by decide +kernel
theorem d_Q_advance_48 : decode prog_6_method_16_code 48 = .ok (.putfield 32, 3) := by decide +kernel
theorem d_Q_advance_51 : decode prog_6_method_16_code 51 = .ok (.aload_n 0, 1) := by decide +kernel
theorem d_Q_advance_52 : decode prog_6_method_16_code 52 = .ok (.sipush 256, 3) := by decide +kernel
theorem d_Q_advance_55 : decode prog_6_method_16_code 55 = .ok (.putfield 45, 3) := by decide +kernel
theorem d_Q_advance_58 : decode prog_6_method_16_code 58 = .ok (.return_, 1) := by decide +kernel
theorem w660 : Cond.fieldLink "SeriesVault$Question" 32 "SeriesVault$Question" "tokenEnd" "I" ∈ aW := aw_of (tb_2 (List.mem_of_getElem? (i := 9) rfl)) rfl
theorem w661 : Cond.fieldLink "SeriesVault$Question" 22 "SeriesVault$Question" "length" "I" ∈ aW := aw_of (tb_2 (List.mem_of_getElem? (i := 6) rfl)) rfl
theorem w662 : Cond.fieldLink "SeriesVault$Question" 48 "SeriesVault$Question" "tokenStart" "I" ∈ aW := aw_of (tb_2 (List.mem_of_getElem? (i := 8) rfl)) rfl
theorem w663 : Cond.fieldLink "SeriesVault$Question" 45 "SeriesVault$Question" "tokenKind" "I" ∈ aW := aw_of (tb_2 (List.mem_of_getElem? (i := 7) rfl)) rfl
set_option maxHeartbeats 4000000 in
set_option maxRecDepth 100000 in
theorem c_Q_advance_0 (l : Launch) (D : va_G) (dA : Nat → ClassId) (sz : Nat) (a : Nat) (fs : List Value) (h_fs_length : fs[1]? = some (.int 0)) (h_fs_tokenEnd : fs[4]? = some (.int 0)) (hl_fs : fs.length = 9) : Met l ⟨"SeriesVault$Question", "advance", "()V"⟩ [Cond.code ⟨"SeriesVault$Question", "advance", "()V"⟩ prog_6_method_16_code 3 none] { frames := 1, cells := 0, slots := 0, locals := 0 } (pC D dA [.ref a] [(a, .inr (5, fs))] sz) (va_Qv (fun (_ : Unit) => True) (fun (u9 : Unit) t9 => bW D (va_A [(a, .inr (5, fs))] sz) [(a, .inr (5, (((fs.set 3 (.int 0)).set 4 (.int 0)).set 2 (.int 256))))] t9) (va_A [(a, .inr (5, fs))] sz)) 0 0 (va_A [(a, .inr (5, fs))] sz) := by
  refine mkC (y := ⟨"SeriesVault$Question", "advance", "()V"⟩) (cc := prog_6_method_16_code) (maxL := 3) (av := [.ref a]) (ws := [(a, .inr (5, fs))]) (sz := sz) (Qc := fun A => va_Qv (fun (_ : Unit) => True) (fun (u9 : Unit) t9 => bW D A [(a, .inr (5, (((fs.set 3 (.int 0)).set 4 (.int 0)).set 2 (.int 256))))] t9) A) (by decide) (Nat.le_of_ble_eq_true rfl) ?_
  intro A p e s m below meth c ls hsz hB
  obtain ⟨hx, hb, hr, hml, hown, hin, hlk, hE, hK, hP, hD, hS, hA, hN, hl⟩ := hB
  have hown : s.vm.findClass "SeriesVault$Question" = some m.cls := hown
  have hin : meth.name = "advance" := hin
  have hl : lv_has ls 3 [(0, .ref a)] := hl
  obtain ⟨H, hH⟩ : ∃ z, z = s.heap := ⟨_, rfl⟩
  have hP : va_P D vwCl [(a, .inr (5, fs))] H := by rw [hH]; exact hP
  have hS : va_S A s.heap H [] := by rw [hH]; exact hS
  rw [← hH]
  refine lv_aload_n hx hb d_Q_advance_0 rfl (lv_at hl 0 rfl) ?_
  refine gF (v := .int 0) hx hb hown hE hK hP 0 rfl rfl layQ 4 (by decide) w660 h_fs_tokenEnd d_Q_advance_1 ?_
  refine lv_istore_n hx hb d_Q_advance_4 rfl hl (by decide) rfl (fun ls hl => ?_)
  have hl : lv_has ls 3 [(1, .int 0), (0, .ref a)] := hl
  refine lv_iload_n hx hb d_Q_advance_5 rfl (lv_at hl 0 rfl) ?_
  refine lv_aload_n hx hb d_Q_advance_6 rfl (lv_at hl 1 rfl) ?_
  refine gF (v := .int 0) hx hb hown hE hK hP 0 rfl rfl layQ 1 (by decide) w661 h_fs_length d_Q_advance_7 ?_
  refine lv_icmp_ge hx hb d_Q_advance_10 (tgt := 30) rfl (fun _ => ?_) (fun h9 => absurd (by decide) h9)
  refine lv_aload_n hx hb d_Q_advance_30 rfl (lv_at hl 1 rfl) ?_
  refine lv_iload_n hx hb d_Q_advance_31 rfl (lv_at hl 0 rfl) ?_
  refine pF hx hb hown hE hK hP hD hS 0 rfl rfl layQ tyQ tokQ nmQ 3 (by decide) w662 rfl rfl rfl (by simp [hl_fs]) d_Q_advance_32 (fun H locs hP hD hS => ?_)
  have hP : va_P D vwCl [(a, .inr (5, (fs.set 3 (.int 0))))] H := hP
  have hD : va_D A [(a, .inr (5, (fs.set 3 (.int 0))))] := hD
  refine lv_iload_n hx hb d_Q_advance_35 rfl (lv_at hl 0 rfl) ?_
  refine lv_aload_n hx hb d_Q_advance_36 rfl (lv_at hl 1 rfl) ?_
  refine gF (v := .int 0) hx hb hown hE hK hP 0 rfl rfl layQ 1 (by decide) w661 (by simp [h_fs_length]) d_Q_advance_37 ?_
  refine lv_icmp_ne hx hb d_Q_advance_40 (tgt := 59) rfl (fun h9 => absurd (by decide) h9) (fun _ => ?_)
  refine lv_aload_n hx hb d_Q_advance_43 rfl (lv_at hl 1 rfl) ?_
  refine lv_aload_n hx hb d_Q_advance_44 rfl (lv_at hl 1 rfl) ?_
  refine gF (v := .int 0) hx hb hown hE hK hP 0 rfl rfl layQ 1 (by decide) w661 (by simp [h_fs_length]) d_Q_advance_45 ?_
  refine pF hx hb hown hE hK hP hD hS 0 rfl rfl layQ tyQ tokQ nmQ 4 (by decide) w660 rfl rfl rfl (by simp [hl_fs]) d_Q_advance_48 (fun H locs hP hD hS => ?_)
  have hP : va_P D vwCl [(a, .inr (5, ((fs.set 3 (.int 0)).set 4 (.int 0))))] H := hP
  have hD : va_D A [(a, .inr (5, ((fs.set 3 (.int 0)).set 4 (.int 0))))] := hD
  refine lv_aload_n hx hb d_Q_advance_51 rfl (lv_at hl 1 rfl) ?_
  refine lv_sipush (v := 256) hx hb d_Q_advance_52 (by decide) ?_
  refine pF hx hb hown hE hK hP hD hS 0 rfl rfl layQ tyQ tokQ nmQ 2 (by decide) w663 rfl rfl rfl (by simp [hl_fs]) d_Q_advance_55 (fun H locs hP hD hS => ?_)
  have hP : va_P D vwCl [(a, .inr (5, (((fs.set 3 (.int 0)).set 4 (.int 0)).set 2 (.int 256))))] H := hP
  have hD : va_D A [(a, .inr (5, (((fs.set 3 (.int 0)).set 4 (.int 0)).set 2 (.int 256))))] := hD
  exact rtV hx hb hr hlk hP hD hS () trivial [0] rfl rfl (by decide) (Nat.le_of_ble_eq_true rfl) (Nat.le_of_ble_eq_true rfl) d_Q_advance_58
theorem d_Q_readFactor_0 : decode prog_6_method_7_code 0 = .ok (.aload_n 0, 1) := by decide +kernel
theorem d_Q_readFactor_1 : decode prog_6_method_7_code 1 = .ok (.getfield 45, 3) := by decide +kernel
theorem d_Q_readFactor_4 : decode prog_6_method_7_code 4 = .ok (.lookupswitch 107 #[(40, 81), (45, 81), (257, 44), (258, 76)], 44) := by decide +kernel
theorem d_Q_readFactor_111 : decode prog_6_method_7_code 111 = .ok (.aload_n 0, 1) := by decide +kernel
theorem d_Q_readFactor_112 : decode prog_6_method_7_code 112 = .ok (.iconst 2, 1) := by decide +kernel
theorem d_Q_readFactor_113 : decode prog_6_method_7_code 113 = .ok (.aload_n 0, 1) := by decide +kernel
theorem d_Q_readFactor_114 : decode prog_6_method_7_code 114 = .ok (.getfield 48, 3) := by decide +kernel
theorem d_Q_readFactor_117 : decode prog_6_method_7_code 117 = .ok (.invokevirtual 51, 3) := by decide +kernel
theorem d_Q_readFactor_120 : decode prog_6_method_7_code 120 = .ok (.ireturn, 1) := by decide +kernel
theorem w664 : Cond.methodLink "SeriesVault$Question" 51 ⟨"SeriesVault$Question", "refuse", "(II)Z"⟩ ∈ aW := aw_of (tb_6 (List.mem_of_getElem? (i := 225) rfl)) rfl
theorem w665 : Cond.initialized "SeriesVault$Question" ∈ aW := aw_of (tb_1 (List.mem_of_getElem? (i := 6) rfl)) rfl
theorem w666 : Cond.code ⟨"SeriesVault$Question", "refuse", "(II)Z"⟩ prog_6_method_3_code 3 (some FieldType.boolean) ∈ aW := aw_of (tb_6 (List.mem_of_getElem? (i := 228) rfl)) rfl
theorem w667 : Cond.instanceMethod ⟨"SeriesVault$Question", "refuse", "(II)Z"⟩ ∈ aW := aw_of (tb_6 (List.mem_of_getElem? (i := 227) rfl)) rfl
theorem w668 : Cond.selects "SeriesVault$Question" ⟨"SeriesVault$Question", "refuse", "(II)Z"⟩ ⟨"SeriesVault$Question", "refuse", "(II)Z"⟩ ∈ aW := aw_pr (List.mem_map.mpr ⟨_, pv_3 (List.mem_of_getElem? (i := 9) rfl), rfl⟩) rfl
set_option maxHeartbeats 4000000 in
set_option maxRecDepth 100000 in
theorem c_Q_readFactor_0 (l : Launch) (D : va_G) (dA : Nat → ClassId) (sz : Nat) (a : Nat) (fs : List Value) (n : Int32) (h_fs_tokenKind : fs[2]? = some (.int 256)) (h_fs_tokenStart : fs[3]? = some (.int 0)) (h_fs_faultCode : fs[6]? = some (.int 0)) (hl_fs : fs.length = 9) : Met l ⟨"SeriesVault$Question", "readFactor", "(I)Z"⟩ [Cond.code ⟨"SeriesVault$Question", "readFactor", "(I)Z"⟩ prog_6_method_7_code 2 (some FieldType.boolean)] { frames := 2, cells := 0, slots := 0, locals := 22 } (pC D dA [.ref a, .int n] [(a, .inr (5, fs))] sz) (va_Qi (fun (r : Int32) (_ : Unit) => r = 0) (fun (u9 : Unit) t9 => bW D (va_A [(a, .inr (5, fs))] sz) [(a, .inr (5, ((fs.set 6 (.int 2)).set 7 (.int 0))))] t9) (va_A [(a, .inr (5, fs))] sz)) 0 0 (va_A [(a, .inr (5, fs))] sz) := by
  refine mkC (y := ⟨"SeriesVault$Question", "readFactor", "(I)Z"⟩) (cc := prog_6_method_7_code) (maxL := 2) (av := [.ref a, .int n]) (ws := [(a, .inr (5, fs))]) (sz := sz) (Qc := fun A => va_Qi (fun (r : Int32) (_ : Unit) => r = 0) (fun (u9 : Unit) t9 => bW D A [(a, .inr (5, ((fs.set 6 (.int 2)).set 7 (.int 0))))] t9) A) (by decide) (Nat.le_of_ble_eq_true rfl) ?_
  intro A p e s m below meth c ls hsz hB
  obtain ⟨hx, hb, hr, hml, hown, hin, hlk, hE, hK, hP, hD, hS, hA, hN, hl⟩ := hB
  have hown : s.vm.findClass "SeriesVault$Question" = some m.cls := hown
  have hin : meth.name = "readFactor" := hin
  have hl : lv_has ls 2 [(0, .ref a), (1, .int n)] := hl
  obtain ⟨H, hH⟩ : ∃ z, z = s.heap := ⟨_, rfl⟩
  have hP : va_P D vwCl [(a, .inr (5, fs))] H := by rw [hH]; exact hP
  have hS : va_S A s.heap H [] := by rw [hH]; exact hS
  rw [← hH]
  refine lv_aload_n hx hb d_Q_readFactor_0 rfl (lv_at hl 0 rfl) ?_
  refine gF (v := .int 256) hx hb hown hE hK hP 0 rfl rfl layQ 2 (by decide) w663 h_fs_tokenKind d_Q_readFactor_1 ?_
  refine lv_lookup (x := 256) (off := 107) (tgt := 111) hx hb d_Q_readFactor_4 (by decide) (by decide) rfl ?_
  refine lv_aload_n hx hb d_Q_readFactor_111 rfl (lv_at hl 0 rfl) ?_
  refine lv_iconst (v := 2) hx hb d_Q_readFactor_112 (by decide) ?_
  refine lv_aload_n hx hb d_Q_readFactor_113 rfl (lv_at hl 0 rfl) ?_
  refine gF (v := .int 0) hx hb hown hE hK hP 0 rfl rfl layQ 3 (by decide) w662 h_fs_tokenStart d_Q_readFactor_114 ?_
  have hPc := hP.sub (ws' := [(a, .inr (5, fs))]) [0] rfl
  have hDc := hD.sub (ws' := [(a, .inr (5, fs))]) [0] (by decide) rfl
  refine jnI (rnV (As := [.int 2, .int 0]) (rest := []) hx hb hml hown hE hK (hN _ _ hS) hPc hDc (c_Q_refuse l D dA H.size a fs 2 0 h_fs_faultCode hl_fs) (q0 := 0) rfl rfl w666 w664 w667 w668 w665 rfl rfl ⟨⟨by decide, by decide⟩, rfl⟩ ⟨(Nat.le_of_ble_eq_true rfl), (Nat.le_of_ble_eq_true rfl)⟩ rfl hl.1 rfl (Nat.le_of_ble_eq_true rfl) d_Q_readFactor_117 ⟨(Nat.le_of_ble_eq_true rfl), (Nat.le_of_ble_eq_true rfl)⟩) hP hD hS hA [0] [] (wr := []) rfl rfl (by decide) (by decide) (fun r1 u9 H locs hp9 hP hD hS => ?_)
  have hP : va_P D vwCl [(a, .inr (5, ((fs.set 6 (.int 2)).set 7 (.int 0))))] H := hP
  have hD : va_D A [(a, .inr (5, ((fs.set 6 (.int 2)).set 7 (.int 0))))] := hD
  have hp9 : 0 = r1 := Eq.symm hp9
  subst hp9
  exact rtZ hx hb hr (by decide) hlk hP hD hS () rfl [0] rfl rfl (by decide) (Nat.le_of_ble_eq_true rfl) (Nat.le_of_ble_eq_true rfl) d_Q_readFactor_120
theorem d_Q_readTerm_0 : decode prog_6_method_5_code 0 = .ok (.aload_n 0, 1) := by decide +kernel
theorem d_Q_readTerm_1 : decode prog_6_method_5_code 1 = .ok (.iload_n 1, 1) := by decide +kernel
theorem d_Q_readTerm_2 : decode prog_6_method_5_code 2 = .ok (.invokevirtual 67, 3) := by decide +kernel
theorem d_Q_readTerm_5 : decode prog_6_method_5_code 5 = .ok (.istore_n 2, 1) := by decide +kernel
theorem d_Q_readTerm_6 : decode prog_6_method_5_code 6 = .ok (.iconst 0, 1) := by decide +kernel
theorem d_Q_readTerm_7 : decode prog_6_method_5_code 7 = .ok (.istore_n 3, 1) := by decide +kernel
theorem d_Q_readTerm_8 : decode prog_6_method_5_code 8 = .ok (.iload_n 2, 1) := by decide +kernel
theorem d_Q_readTerm_9 : decode prog_6_method_5_code 9 = .ok (.ifCond .eq 65, 3) := by decide +kernel
theorem d_Q_readTerm_74 : decode prog_6_method_5_code 74 = .ok (.iload_n 2, 1) := by decide +kernel
theorem d_Q_readTerm_75 : decode prog_6_method_5_code 75 = .ok (.ireturn, 1) := by decide +kernel
theorem w669 : Cond.methodLink "SeriesVault$Question" 67 ⟨"SeriesVault$Question", "readFactor", "(I)Z"⟩ ∈ aW := aw_of (tb_6 (List.mem_of_getElem? (i := 237) rfl)) rfl
theorem w670 : Cond.code ⟨"SeriesVault$Question", "readFactor", "(I)Z"⟩ prog_6_method_7_code 2 (some FieldType.boolean) ∈ aW := aw_of (tb_7 (List.mem_of_getElem? (i := 0) rfl)) rfl
theorem w671 : Cond.instanceMethod ⟨"SeriesVault$Question", "readFactor", "(I)Z"⟩ ∈ aW := aw_of (tb_6 (List.mem_of_getElem? (i := 239) rfl)) rfl
theorem w672 : Cond.selects "SeriesVault$Question" ⟨"SeriesVault$Question", "readFactor", "(I)Z"⟩ ⟨"SeriesVault$Question", "readFactor", "(I)Z"⟩ ∈ aW := aw_pr (List.mem_map.mpr ⟨_, pv_3 (List.mem_of_getElem? (i := 12) rfl), rfl⟩) rfl
set_option maxHeartbeats 4000000 in
set_option maxRecDepth 100000 in
theorem c_Q_readTerm_0 (l : Launch) (D : va_G) (dA : Nat → ClassId) (sz : Nat) (a : Nat) (fs : List Value) (n : Int32) (h_fs_tokenKind : fs[2]? = some (.int 256)) (h_fs_tokenStart : fs[3]? = some (.int 0)) (h_fs_faultCode : fs[6]? = some (.int 0)) (hl_fs : fs.length = 9) : Met l ⟨"SeriesVault$Question", "readTerm", "(I)Z"⟩ [Cond.code ⟨"SeriesVault$Question", "readTerm", "(I)Z"⟩ prog_6_method_5_code 5 (some FieldType.boolean)] { frames := 3, cells := 0, slots := 0, locals := 43 } (pC D dA [.ref a, .int n] [(a, .inr (5, fs))] sz) (va_Qi (fun (r : Int32) (_ : Unit) => r = 0) (fun (u9 : Unit) t9 => bW D (va_A [(a, .inr (5, fs))] sz) [(a, .inr (5, ((fs.set 6 (.int 2)).set 7 (.int 0))))] t9) (va_A [(a, .inr (5, fs))] sz)) 0 0 (va_A [(a, .inr (5, fs))] sz) := by
  refine mkC (y := ⟨"SeriesVault$Question", "readTerm", "(I)Z"⟩) (cc := prog_6_method_5_code) (maxL := 5) (av := [.ref a, .int n]) (ws := [(a, .inr (5, fs))]) (sz := sz) (Qc := fun A => va_Qi (fun (r : Int32) (_ : Unit) => r = 0) (fun (u9 : Unit) t9 => bW D A [(a, .inr (5, ((fs.set 6 (.int 2)).set 7 (.int 0))))] t9) A) (by decide) (Nat.le_of_ble_eq_true rfl) ?_
  intro A p e s m below meth c ls hsz hB
  obtain ⟨hx, hb, hr, hml, hown, hin, hlk, hE, hK, hP, hD, hS, hA, hN, hl⟩ := hB
  have hown : s.vm.findClass "SeriesVault$Question" = some m.cls := hown
  have hin : meth.name = "readTerm" := hin
  have hl : lv_has ls 5 [(0, .ref a), (1, .int n)] := hl
  obtain ⟨H, hH⟩ : ∃ z, z = s.heap := ⟨_, rfl⟩
  have hP : va_P D vwCl [(a, .inr (5, fs))] H := by rw [hH]; exact hP
  have hS : va_S A s.heap H [] := by rw [hH]; exact hS
  rw [← hH]
  refine lv_aload_n hx hb d_Q_readTerm_0 rfl (lv_at hl 0 rfl) ?_
  refine lv_iload_n hx hb d_Q_readTerm_1 rfl (lv_at hl 1 rfl) ?_
  have hPc := hP.sub (ws' := [(a, .inr (5, fs))]) [0] rfl
  have hDc := hD.sub (ws' := [(a, .inr (5, fs))]) [0] (by decide) rfl
  refine jnI (rnV (As := [.int n]) (rest := []) hx hb hml hown hE hK (hN _ _ hS) hPc hDc (c_Q_readFactor_0 l D dA H.size a fs n h_fs_tokenKind h_fs_tokenStart h_fs_faultCode hl_fs) (q0 := 0) rfl rfl w670 w669 w671 w672 w665 rfl rfl ⟨⟨by decide, by decide⟩, rfl⟩ ⟨(Nat.le_of_ble_eq_true rfl), (Nat.le_of_ble_eq_true rfl)⟩ rfl hl.1 rfl (Nat.le_of_ble_eq_true rfl) d_Q_readTerm_2 ⟨(Nat.le_of_ble_eq_true rfl), (Nat.le_of_ble_eq_true rfl)⟩) hP hD hS hA [0] [] (wr := []) rfl rfl (by decide) (by decide) (fun r1 u9 H locs hp9 hP hD hS => ?_)
  have hP : va_P D vwCl [(a, .inr (5, ((fs.set 6 (.int 2)).set 7 (.int 0))))] H := hP
  have hD : va_D A [(a, .inr (5, ((fs.set 6 (.int 2)).set 7 (.int 0))))] := hD
  have hp9 : 0 = r1 := Eq.symm hp9
  subst hp9
  refine lv_istore_n hx hb d_Q_readTerm_5 rfl hl (by decide) rfl (fun ls hl => ?_)
  have hl : lv_has ls 5 [(2, .int 0), (0, .ref a), (1, .int n)] := hl
  refine lv_iconst (v := 0) hx hb d_Q_readTerm_6 (by decide) ?_
  refine lv_istore_n hx hb d_Q_readTerm_7 rfl hl (by decide) rfl (fun ls hl => ?_)
  have hl : lv_has ls 5 [(3, .int 0), (2, .int 0), (0, .ref a), (1, .int n)] := hl
  refine lv_iload_n hx hb d_Q_readTerm_8 rfl (lv_at hl 1 rfl) ?_
  refine lv_if_eq hx hb d_Q_readTerm_9 (tgt := 74) rfl (fun _ => ?_) (fun h9 => absurd (by decide) h9)
  refine lv_iload_n hx hb d_Q_readTerm_74 rfl (lv_at hl 1 rfl) ?_
  exact rtZ hx hb hr (by decide) hlk hP hD hS () rfl [0] rfl rfl (by decide) (Nat.le_of_ble_eq_true rfl) (Nat.le_of_ble_eq_true rfl) d_Q_readTerm_75
theorem d_Q_readExp_0 : decode prog_6_method_4_code 0 = .ok (.aload_n 0, 1) := by decide +kernel
theorem d_Q_readExp_1 : decode prog_6_method_4_code 1 = .ok (.iload_n 1, 1) := by decide +kernel
theorem d_Q_readExp_2 : decode prog_6_method_4_code 2 = .ok (.invokevirtual 55, 3) := by decide +kernel
theorem d_Q_readExp_5 : decode prog_6_method_4_code 5 = .ok (.istore_n 2, 1) := by decide +kernel
theorem d_Q_readExp_6 : decode prog_6_method_4_code 6 = .ok (.iconst 0, 1) := by decide +kernel
theorem d_Q_readExp_7 : decode prog_6_method_4_code 7 = .ok (.istore_n 3, 1) := by decide +kernel
theorem d_Q_readExp_8 : decode prog_6_method_4_code 8 = .ok (.iload_n 2, 1) := by decide +kernel
theorem d_Q_readExp_9 : decode prog_6_method_4_code 9 = .ok (.ifCond .eq 73, 3) := by decide +kernel
theorem d_Q_readExp_82 : decode prog_6_method_4_code 82 = .ok (.iload_n 2, 1) := by decide +kernel
theorem d_Q_readExp_83 : decode prog_6_method_4_code 83 = .ok (.ireturn, 1) := by decide +kernel
theorem w673 : Cond.methodLink "SeriesVault$Question" 55 ⟨"SeriesVault$Question", "readTerm", "(I)Z"⟩ ∈ aW := aw_of (tb_6 (List.mem_of_getElem? (i := 233) rfl)) rfl
theorem w674 : Cond.code ⟨"SeriesVault$Question", "readTerm", "(I)Z"⟩ prog_6_method_5_code 5 (some FieldType.boolean) ∈ aW := aw_of (tb_6 (List.mem_of_getElem? (i := 236) rfl)) rfl
theorem w675 : Cond.instanceMethod ⟨"SeriesVault$Question", "readTerm", "(I)Z"⟩ ∈ aW := aw_of (tb_6 (List.mem_of_getElem? (i := 235) rfl)) rfl
theorem w676 : Cond.selects "SeriesVault$Question" ⟨"SeriesVault$Question", "readTerm", "(I)Z"⟩ ⟨"SeriesVault$Question", "readTerm", "(I)Z"⟩ ∈ aW := aw_pr (List.mem_map.mpr ⟨_, pv_3 (List.mem_of_getElem? (i := 11) rfl), rfl⟩) rfl
set_option maxHeartbeats 4000000 in
set_option maxRecDepth 100000 in
theorem c_Q_readExp_0 (l : Launch) (D : va_G) (dA : Nat → ClassId) (sz : Nat) (a : Nat) (fs : List Value) (n : Int32) (h_fs_tokenKind : fs[2]? = some (.int 256)) (h_fs_tokenStart : fs[3]? = some (.int 0)) (h_fs_faultCode : fs[6]? = some (.int 0)) (hl_fs : fs.length = 9) : Met l ⟨"SeriesVault$Question", "readExp", "(I)Z"⟩ [Cond.code ⟨"SeriesVault$Question", "readExp", "(I)Z"⟩ prog_6_method_4_code 5 (some FieldType.boolean)] { frames := 4, cells := 0, slots := 0, locals := 67 } (pC D dA [.ref a, .int n] [(a, .inr (5, fs))] sz) (va_Qi (fun (r : Int32) (_ : Unit) => r = 0) (fun (u9 : Unit) t9 => bW D (va_A [(a, .inr (5, fs))] sz) [(a, .inr (5, ((fs.set 6 (.int 2)).set 7 (.int 0))))] t9) (va_A [(a, .inr (5, fs))] sz)) 0 0 (va_A [(a, .inr (5, fs))] sz) := by
  refine mkC (y := ⟨"SeriesVault$Question", "readExp", "(I)Z"⟩) (cc := prog_6_method_4_code) (maxL := 5) (av := [.ref a, .int n]) (ws := [(a, .inr (5, fs))]) (sz := sz) (Qc := fun A => va_Qi (fun (r : Int32) (_ : Unit) => r = 0) (fun (u9 : Unit) t9 => bW D A [(a, .inr (5, ((fs.set 6 (.int 2)).set 7 (.int 0))))] t9) A) (by decide) (Nat.le_of_ble_eq_true rfl) ?_
  intro A p e s m below meth c ls hsz hB
  obtain ⟨hx, hb, hr, hml, hown, hin, hlk, hE, hK, hP, hD, hS, hA, hN, hl⟩ := hB
  have hown : s.vm.findClass "SeriesVault$Question" = some m.cls := hown
  have hin : meth.name = "readExp" := hin
  have hl : lv_has ls 5 [(0, .ref a), (1, .int n)] := hl
  obtain ⟨H, hH⟩ : ∃ z, z = s.heap := ⟨_, rfl⟩
  have hP : va_P D vwCl [(a, .inr (5, fs))] H := by rw [hH]; exact hP
  have hS : va_S A s.heap H [] := by rw [hH]; exact hS
  rw [← hH]
  refine lv_aload_n hx hb d_Q_readExp_0 rfl (lv_at hl 0 rfl) ?_
  refine lv_iload_n hx hb d_Q_readExp_1 rfl (lv_at hl 1 rfl) ?_
  have hPc := hP.sub (ws' := [(a, .inr (5, fs))]) [0] rfl
  have hDc := hD.sub (ws' := [(a, .inr (5, fs))]) [0] (by decide) rfl
  refine jnI (rnV (As := [.int n]) (rest := []) hx hb hml hown hE hK (hN _ _ hS) hPc hDc (c_Q_readTerm_0 l D dA H.size a fs n h_fs_tokenKind h_fs_tokenStart h_fs_faultCode hl_fs) (q0 := 0) rfl rfl w674 w673 w675 w676 w665 rfl rfl ⟨⟨by decide, by decide⟩, rfl⟩ ⟨(Nat.le_of_ble_eq_true rfl), (Nat.le_of_ble_eq_true rfl)⟩ rfl hl.1 rfl (Nat.le_of_ble_eq_true rfl) d_Q_readExp_2 ⟨(Nat.le_of_ble_eq_true rfl), (Nat.le_of_ble_eq_true rfl)⟩) hP hD hS hA [0] [] (wr := []) rfl rfl (by decide) (by decide) (fun r1 u9 H locs hp9 hP hD hS => ?_)
  have hP : va_P D vwCl [(a, .inr (5, ((fs.set 6 (.int 2)).set 7 (.int 0))))] H := hP
  have hD : va_D A [(a, .inr (5, ((fs.set 6 (.int 2)).set 7 (.int 0))))] := hD
  have hp9 : 0 = r1 := Eq.symm hp9
  subst hp9
  refine lv_istore_n hx hb d_Q_readExp_5 rfl hl (by decide) rfl (fun ls hl => ?_)
  have hl : lv_has ls 5 [(2, .int 0), (0, .ref a), (1, .int n)] := hl
  refine lv_iconst (v := 0) hx hb d_Q_readExp_6 (by decide) ?_
  refine lv_istore_n hx hb d_Q_readExp_7 rfl hl (by decide) rfl (fun ls hl => ?_)
  have hl : lv_has ls 5 [(3, .int 0), (2, .int 0), (0, .ref a), (1, .int n)] := hl
  refine lv_iload_n hx hb d_Q_readExp_8 rfl (lv_at hl 1 rfl) ?_
  refine lv_if_eq hx hb d_Q_readExp_9 (tgt := 82) rfl (fun _ => ?_) (fun h9 => absurd (by decide) h9)
  refine lv_iload_n hx hb d_Q_readExp_82 rfl (lv_at hl 1 rfl) ?_
  exact rtZ hx hb hr (by decide) hlk hP hD hS () rfl [0] rfl rfl (by decide) (Nat.le_of_ble_eq_true rfl) (Nat.le_of_ble_eq_true rfl) d_Q_readExp_83
theorem d_Q_read_0 : decode prog_6_method_2_code 0 = .ok (.aload_n 0, 1) := by decide +kernel
theorem d_Q_read_1 : decode prog_6_method_2_code 1 = .ok (.aload_n 1, 1) := by decide +kernel
theorem d_Q_read_2 : decode prog_6_method_2_code 2 = .ok (.putfield 9, 3) := by decide +kernel
theorem d_Q_read_5 : decode prog_6_method_2_code 5 = .ok (.aload_n 0, 1) := by decide +kernel
theorem d_Q_read_6 : decode prog_6_method_2_code 6 = .ok (.iload_n 2, 1) := by decide +kernel
theorem d_Q_read_7 : decode prog_6_method_2_code 7 = .ok (.putfield 22, 3) := by decide +kernel
theorem d_Q_read_10 : decode prog_6_method_2_code 10 = .ok (.aload_n 0, 1) := by decide +kernel
theorem d_Q_read_11 : decode prog_6_method_2_code 11 = .ok (.iconst 0, 1) := by decide +kernel
theorem d_Q_read_12 : decode prog_6_method_2_code 12 = .ok (.putfield 26, 3) := by decide +kernel
theorem d_Q_read_15 : decode prog_6_method_2_code 15 = .ok (.aload_n 0, 1) := by decide +kernel
theorem d_Q_read_16 : decode prog_6_method_2_code 16 = .ok (.iconst 0, 1) := by decide +kernel
theorem d_Q_read_17 : decode prog_6_method_2_code 17 = .ok (.putfield 29, 3) := by decide +kernel
theorem d_Q_read_20 : decode prog_6_method_2_code 20 = .ok (.aload_n 0, 1) := by decide +kernel
theorem d_Q_read_21 : decode prog_6_method_2_code 21 = .ok (.iconst 0, 1) := by decide +kernel
theorem d_Q_read_22 : decode prog_6_method_2_code 22 = .ok (.putfield 32, 3) := by decide +kernel
theorem d_Q_read_25 : decode prog_6_method_2_code 25 = .ok (.aload_n 0, 1) := by decide +kernel
theorem d_Q_read_26 : decode prog_6_method_2_code 26 = .ok (.getfield 18, 3) := by decide +kernel
theorem d_Q_read_29 : decode prog_6_method_2_code 29 = .ok (.invokevirtual 35, 3) := by decide +kernel
theorem d_Q_read_32 : decode prog_6_method_2_code 32 = .ok (.aload_n 0, 1) := by decide +kernel
theorem d_Q_read_33 : decode prog_6_method_2_code 33 = .ok (.invokevirtual 38, 3) := by decide +kernel
theorem d_Q_read_36 : decode prog_6_method_2_code 36 = .ok (.aload_n 0, 1) := by decide +kernel
theorem d_Q_read_37 : decode prog_6_method_2_code 37 = .ok (.iconst 0, 1) := by decide +kernel
theorem d_Q_read_38 : decode prog_6_method_2_code 38 = .ok (.invokevirtual 41, 3) := by decide +kernel
theorem d_Q_read_41 : decode prog_6_method_2_code 41 = .ok (.ifCond .eq 29, 3) := by decide +kernel
theorem d_Q_read_70 : decode prog_6_method_2_code 70 = .ok (.iconst 0, 1) := by decide +kernel
theorem d_Q_read_71 : decode prog_6_method_2_code 71 = .ok (.ireturn, 1) := by decide +kernel
theorem w677 : Cond.fieldLink "SeriesVault$Question" 9 "SeriesVault$Question" "tape" "[B" ∈ aW := aw_of (tb_2 (List.mem_of_getElem? (i := 5) rfl)) rfl
theorem w678 : Cond.fieldLink "SeriesVault$Question" 18 "SeriesVault$Question" "steps" "Ljava/util/ArrayList;" ∈ aW := aw_of (tb_2 (List.mem_of_getElem? (i := 15) rfl)) rfl
theorem w679 : Cond.methodLink "SeriesVault$Question" 35 ⟨"java/util/ArrayList", "clear", "()V"⟩ ∈ aW := aw_of (tb_6 (List.mem_of_getElem? (i := 185) rfl)) rfl
theorem w680 : Cond.initialized "java/util/ArrayList" ∈ aW := aw_of (tb_1 (List.mem_of_getElem? (i := 9) rfl)) rfl
theorem w681 : Cond.code ⟨"java/util/ArrayList", "clear", "()V"⟩ prog_37_method_40_code 4 none ∈ aW := aw_of (tb_6 (List.mem_of_getElem? (i := 188) rfl)) rfl
theorem w682 : Cond.instanceMethod ⟨"java/util/ArrayList", "clear", "()V"⟩ ∈ aW := aw_of (tb_6 (List.mem_of_getElem? (i := 186) rfl)) rfl
theorem w683 : Cond.selects "java/util/ArrayList" ⟨"java/util/ArrayList", "clear", "()V"⟩ ⟨"java/util/ArrayList", "clear", "()V"⟩ ∈ aW := aw_of (tb_6 (List.mem_of_getElem? (i := 187) rfl)) rfl
theorem w684 : Cond.methodLink "SeriesVault$Question" 38 ⟨"SeriesVault$Question", "advance", "()V"⟩ ∈ aW := aw_of (tb_6 (List.mem_of_getElem? (i := 189) rfl)) rfl
theorem w685 : Cond.code ⟨"SeriesVault$Question", "advance", "()V"⟩ prog_6_method_16_code 3 none ∈ aW := aw_of (tb_6 (List.mem_of_getElem? (i := 192) rfl)) rfl
theorem w686 : Cond.instanceMethod ⟨"SeriesVault$Question", "advance", "()V"⟩ ∈ aW := aw_of (tb_6 (List.mem_of_getElem? (i := 191) rfl)) rfl
theorem w687 : Cond.selects "SeriesVault$Question" ⟨"SeriesVault$Question", "advance", "()V"⟩ ⟨"SeriesVault$Question", "advance", "()V"⟩ ∈ aW := aw_pr (List.mem_map.mpr ⟨_, pv_3 (List.mem_of_getElem? (i := 2) rfl), rfl⟩) rfl
theorem w688 : Cond.methodLink "SeriesVault$Question" 41 ⟨"SeriesVault$Question", "readExp", "(I)Z"⟩ ∈ aW := aw_of (tb_6 (List.mem_of_getElem? (i := 229) rfl)) rfl
theorem w689 : Cond.code ⟨"SeriesVault$Question", "readExp", "(I)Z"⟩ prog_6_method_4_code 5 (some FieldType.boolean) ∈ aW := aw_of (tb_6 (List.mem_of_getElem? (i := 232) rfl)) rfl
theorem w690 : Cond.instanceMethod ⟨"SeriesVault$Question", "readExp", "(I)Z"⟩ ∈ aW := aw_of (tb_6 (List.mem_of_getElem? (i := 231) rfl)) rfl
theorem w691 : Cond.selects "SeriesVault$Question" ⟨"SeriesVault$Question", "readExp", "(I)Z"⟩ ⟨"SeriesVault$Question", "readExp", "(I)Z"⟩ ∈ aW := aw_pr (List.mem_map.mpr ⟨_, pv_3 (List.mem_of_getElem? (i := 10) rfl), rfl⟩) rfl
set_option maxHeartbeats 4000000 in
set_option maxRecDepth 100000 in
theorem c_Q_read_0 (l : Launch) (D : va_G) (dA : Nat → ClassId) (sz : Nat) (a : Nat) (fs : List Value) (b : Nat) (b1 : Nat) (gs : List Value) (k : Int32) (b2 : Nat) (h_fs_steps : fs[8]? = some (.ref b1)) (hl_fs : fs.length = 9) (h_gs_elementData : gs[0]? = some (.ref b2)) (h_gs_size : gs[1]? = some (.int 0)) (h_gs_modCount : gs[2]? = some (.int k)) (hl_gs : gs.length = 3) : Met l ⟨"SeriesVault$Question", "read", "([BI)Z"⟩ [Cond.code ⟨"SeriesVault$Question", "read", "([BI)Z"⟩ prog_6_method_2_code 3 (some FieldType.boolean)] { frames := 5, cells := 0, slots := 0, locals := 91 } (pC D dA [.ref a, .ref b, .int 0] [(a, .inr (5, fs)), (b1, .inr (6, gs))] sz) (va_Qi (fun (r : Int32) (_ : Unit) => r = 0) (fun (u9 : Unit) t9 => bW D (va_A [(a, .inr (5, fs)), (b1, .inr (6, gs))] sz) [(a, .inr (5, ((((((((((fs.set 0 (.ref b)).set 1 (.int 0)).set 6 (.int 0)).set 7 (.int 0)).set 4 (.int 0)).set 3 (.int 0)).set 4 (.int 0)).set 2 (.int 256)).set 6 (.int 2)).set 7 (.int 0)))), (b1, .inr (6, ((gs.set 2 (.int (k + 1))).set 1 (.int 0))))] t9) (va_A [(a, .inr (5, fs)), (b1, .inr (6, gs))] sz)) 0 0 (va_A [(a, .inr (5, fs)), (b1, .inr (6, gs))] sz) := by
  refine mkC (y := ⟨"SeriesVault$Question", "read", "([BI)Z"⟩) (cc := prog_6_method_2_code) (maxL := 3) (av := [.ref a, .ref b, .int 0]) (ws := [(a, .inr (5, fs)), (b1, .inr (6, gs))]) (sz := sz) (Qc := fun A => va_Qi (fun (r : Int32) (_ : Unit) => r = 0) (fun (u9 : Unit) t9 => bW D A [(a, .inr (5, ((((((((((fs.set 0 (.ref b)).set 1 (.int 0)).set 6 (.int 0)).set 7 (.int 0)).set 4 (.int 0)).set 3 (.int 0)).set 4 (.int 0)).set 2 (.int 256)).set 6 (.int 2)).set 7 (.int 0)))), (b1, .inr (6, ((gs.set 2 (.int (k + 1))).set 1 (.int 0))))] t9) A) (by decide) (Nat.le_of_ble_eq_true rfl) ?_
  intro A p e s m below meth c ls hsz hB
  obtain ⟨hx, hb, hr, hml, hown, hin, hlk, hE, hK, hP, hD, hS, hA, hN, hl⟩ := hB
  have hown : s.vm.findClass "SeriesVault$Question" = some m.cls := hown
  have hin : meth.name = "read" := hin
  have hl : lv_has ls 3 [(0, .ref a), (1, .ref b), (2, .int 0)] := hl
  obtain ⟨H, hH⟩ : ∃ z, z = s.heap := ⟨_, rfl⟩
  have hP : va_P D vwCl [(a, .inr (5, fs)), (b1, .inr (6, gs))] H := by rw [hH]; exact hP
  have hS : va_S A s.heap H [] := by rw [hH]; exact hS
  rw [← hH]
  refine lv_aload_n hx hb d_Q_read_0 rfl (lv_at hl 0 rfl) ?_
  refine lv_aload_n hx hb d_Q_read_1 rfl (lv_at hl 1 rfl) ?_
  refine pF hx hb hown hE hK hP hD hS 0 rfl rfl layQ tyQ tokQ nmQ 0 (by decide) w677 rfl rfl rfl (by simp [hl_fs]) d_Q_read_2 (fun H locs hP hD hS => ?_)
  have hP : va_P D vwCl [(a, .inr (5, (fs.set 0 (.ref b)))), (b1, .inr (6, gs))] H := hP
  have hD : va_D A [(a, .inr (5, (fs.set 0 (.ref b)))), (b1, .inr (6, gs))] := hD
  refine lv_aload_n hx hb d_Q_read_5 rfl (lv_at hl 0 rfl) ?_
  refine lv_iload_n hx hb d_Q_read_6 rfl (lv_at hl 2 rfl) ?_
  refine pF hx hb hown hE hK hP hD hS 0 rfl rfl layQ tyQ tokQ nmQ 1 (by decide) w661 rfl rfl rfl (by simp [hl_fs]) d_Q_read_7 (fun H locs hP hD hS => ?_)
  have hP : va_P D vwCl [(a, .inr (5, ((fs.set 0 (.ref b)).set 1 (.int 0)))), (b1, .inr (6, gs))] H := hP
  have hD : va_D A [(a, .inr (5, ((fs.set 0 (.ref b)).set 1 (.int 0)))), (b1, .inr (6, gs))] := hD
  refine lv_aload_n hx hb d_Q_read_10 rfl (lv_at hl 0 rfl) ?_
  refine lv_iconst (v := 0) hx hb d_Q_read_11 (by decide) ?_
  refine pF hx hb hown hE hK hP hD hS 0 rfl rfl layQ tyQ tokQ nmQ 6 (by decide) w658 rfl rfl rfl (by simp [hl_fs]) d_Q_read_12 (fun H locs hP hD hS => ?_)
  have hP : va_P D vwCl [(a, .inr (5, (((fs.set 0 (.ref b)).set 1 (.int 0)).set 6 (.int 0)))), (b1, .inr (6, gs))] H := hP
  have hD : va_D A [(a, .inr (5, (((fs.set 0 (.ref b)).set 1 (.int 0)).set 6 (.int 0)))), (b1, .inr (6, gs))] := hD
  refine lv_aload_n hx hb d_Q_read_15 rfl (lv_at hl 0 rfl) ?_
  refine lv_iconst (v := 0) hx hb d_Q_read_16 (by decide) ?_
  refine pF hx hb hown hE hK hP hD hS 0 rfl rfl layQ tyQ tokQ nmQ 7 (by decide) w659 rfl rfl rfl (by simp [hl_fs]) d_Q_read_17 (fun H locs hP hD hS => ?_)
  have hP : va_P D vwCl [(a, .inr (5, ((((fs.set 0 (.ref b)).set 1 (.int 0)).set 6 (.int 0)).set 7 (.int 0)))), (b1, .inr (6, gs))] H := hP
  have hD : va_D A [(a, .inr (5, ((((fs.set 0 (.ref b)).set 1 (.int 0)).set 6 (.int 0)).set 7 (.int 0)))), (b1, .inr (6, gs))] := hD
  refine lv_aload_n hx hb d_Q_read_20 rfl (lv_at hl 0 rfl) ?_
  refine lv_iconst (v := 0) hx hb d_Q_read_21 (by decide) ?_
  refine pF hx hb hown hE hK hP hD hS 0 rfl rfl layQ tyQ tokQ nmQ 4 (by decide) w660 rfl rfl rfl (by simp [hl_fs]) d_Q_read_22 (fun H locs hP hD hS => ?_)
  have hP : va_P D vwCl [(a, .inr (5, (((((fs.set 0 (.ref b)).set 1 (.int 0)).set 6 (.int 0)).set 7 (.int 0)).set 4 (.int 0)))), (b1, .inr (6, gs))] H := hP
  have hD : va_D A [(a, .inr (5, (((((fs.set 0 (.ref b)).set 1 (.int 0)).set 6 (.int 0)).set 7 (.int 0)).set 4 (.int 0)))), (b1, .inr (6, gs))] := hD
  refine lv_aload_n hx hb d_Q_read_25 rfl (lv_at hl 0 rfl) ?_
  refine gF (v := .ref b1) hx hb hown hE hK hP 0 rfl rfl layQ 8 (by decide) w678 (by simp [h_fs_steps]) d_Q_read_26 ?_
  have hPc := hP.sub (ws' := [(b1, .inr (6, gs))]) [1] rfl
  have hDc := hD.sub (ws' := [(b1, .inr (6, gs))]) [1] (by decide) rfl
  refine jnV (rnV (As := []) (rest := []) hx hb hml hown hE hK (hN _ _ hS) hPc hDc (c_L_clear_0 l D dA H.size b1 gs k b2 h_gs_elementData h_gs_size h_gs_modCount hl_gs) (q0 := 0) rfl rfl w681 w679 w682 w683 w680 rfl rfl ⟨⟨by decide, by decide⟩, rfl⟩ ⟨(Nat.le_of_ble_eq_true rfl), (Nat.le_of_ble_eq_true rfl)⟩ rfl hl.1 rfl (Nat.le_of_ble_eq_true rfl) d_Q_read_29 ⟨(Nat.le_of_ble_eq_true rfl), (Nat.le_of_ble_eq_true rfl)⟩) hP hD hS hA [1] [0] (wr := [(a, .inr (5, (((((fs.set 0 (.ref b)).set 1 (.int 0)).set 6 (.int 0)).set 7 (.int 0)).set 4 (.int 0))))]) rfl rfl (by decide) (by decide) (fun u9 H locs hp9 hP hD hS => ?_)
  have hP : va_P D vwCl [(a, .inr (5, (((((fs.set 0 (.ref b)).set 1 (.int 0)).set 6 (.int 0)).set 7 (.int 0)).set 4 (.int 0)))), (b1, .inr (6, ((gs.set 2 (.int (k + 1))).set 1 (.int 0))))] H := hP
  have hD : va_D A [(a, .inr (5, (((((fs.set 0 (.ref b)).set 1 (.int 0)).set 6 (.int 0)).set 7 (.int 0)).set 4 (.int 0)))), (b1, .inr (6, ((gs.set 2 (.int (k + 1))).set 1 (.int 0))))] := hD
  refine lv_aload_n hx hb d_Q_read_32 rfl (lv_at hl 0 rfl) ?_
  have hPc := hP.sub (ws' := [(a, .inr (5, (((((fs.set 0 (.ref b)).set 1 (.int 0)).set 6 (.int 0)).set 7 (.int 0)).set 4 (.int 0))))]) [0] rfl
  have hDc := hD.sub (ws' := [(a, .inr (5, (((((fs.set 0 (.ref b)).set 1 (.int 0)).set 6 (.int 0)).set 7 (.int 0)).set 4 (.int 0))))]) [0] (by decide) rfl
  refine jnV (rnV (As := []) (rest := []) hx hb hml hown hE hK (hN _ _ hS) hPc hDc (c_Q_advance_0 l D dA H.size a (((((fs.set 0 (.ref b)).set 1 (.int 0)).set 6 (.int 0)).set 7 (.int 0)).set 4 (.int 0)) (by simp [hl_fs]) (by simp [hl_fs]) (by simp [hl_fs])) (q0 := 0) rfl rfl w685 w684 w686 w687 w665 rfl rfl ⟨⟨by decide, by decide⟩, rfl⟩ ⟨(Nat.le_of_ble_eq_true rfl), (Nat.le_of_ble_eq_true rfl)⟩ rfl hl.1 rfl (Nat.le_of_ble_eq_true rfl) d_Q_read_33 ⟨(Nat.le_of_ble_eq_true rfl), (Nat.le_of_ble_eq_true rfl)⟩) hP hD hS hA [0] [1] (wr := [(b1, .inr (6, ((gs.set 2 (.int (k + 1))).set 1 (.int 0))))]) rfl rfl (by decide) (by decide) (fun u9 H locs hp9 hP hD hS => ?_)
  have hP : va_P D vwCl [(b1, .inr (6, ((gs.set 2 (.int (k + 1))).set 1 (.int 0)))), (a, .inr (5, ((((((((fs.set 0 (.ref b)).set 1 (.int 0)).set 6 (.int 0)).set 7 (.int 0)).set 4 (.int 0)).set 3 (.int 0)).set 4 (.int 0)).set 2 (.int 256))))] H := hP
  have hD : va_D A [(b1, .inr (6, ((gs.set 2 (.int (k + 1))).set 1 (.int 0)))), (a, .inr (5, ((((((((fs.set 0 (.ref b)).set 1 (.int 0)).set 6 (.int 0)).set 7 (.int 0)).set 4 (.int 0)).set 3 (.int 0)).set 4 (.int 0)).set 2 (.int 256))))] := hD
  refine lv_aload_n hx hb d_Q_read_36 rfl (lv_at hl 0 rfl) ?_
  refine lv_iconst (v := 0) hx hb d_Q_read_37 (by decide) ?_
  have hPc := hP.sub (ws' := [(a, .inr (5, ((((((((fs.set 0 (.ref b)).set 1 (.int 0)).set 6 (.int 0)).set 7 (.int 0)).set 4 (.int 0)).set 3 (.int 0)).set 4 (.int 0)).set 2 (.int 256))))]) [1] rfl
  have hDc := hD.sub (ws' := [(a, .inr (5, ((((((((fs.set 0 (.ref b)).set 1 (.int 0)).set 6 (.int 0)).set 7 (.int 0)).set 4 (.int 0)).set 3 (.int 0)).set 4 (.int 0)).set 2 (.int 256))))]) [1] (by decide) rfl
  refine jnI (rnV (As := [.int 0]) (rest := []) hx hb hml hown hE hK (hN _ _ hS) hPc hDc (c_Q_readExp_0 l D dA H.size a ((((((((fs.set 0 (.ref b)).set 1 (.int 0)).set 6 (.int 0)).set 7 (.int 0)).set 4 (.int 0)).set 3 (.int 0)).set 4 (.int 0)).set 2 (.int 256)) 0 (by simp [hl_fs]) (by simp [hl_fs]) (by simp [hl_fs]) (by simp [hl_fs])) (q0 := 0) rfl rfl w689 w688 w690 w691 w665 rfl rfl ⟨⟨by decide, by decide⟩, rfl⟩ ⟨(Nat.le_of_ble_eq_true rfl), (Nat.le_of_ble_eq_true rfl)⟩ rfl hl.1 rfl (Nat.le_of_ble_eq_true rfl) d_Q_read_38 ⟨(Nat.le_of_ble_eq_true rfl), (Nat.le_of_ble_eq_true rfl)⟩) hP hD hS hA [1] [0] (wr := [(b1, .inr (6, ((gs.set 2 (.int (k + 1))).set 1 (.int 0))))]) rfl rfl (by decide) (by decide) (fun r3 u9 H locs hp9 hP hD hS => ?_)
  have hP : va_P D vwCl [(b1, .inr (6, ((gs.set 2 (.int (k + 1))).set 1 (.int 0)))), (a, .inr (5, ((((((((((fs.set 0 (.ref b)).set 1 (.int 0)).set 6 (.int 0)).set 7 (.int 0)).set 4 (.int 0)).set 3 (.int 0)).set 4 (.int 0)).set 2 (.int 256)).set 6 (.int 2)).set 7 (.int 0))))] H := hP
  have hD : va_D A [(b1, .inr (6, ((gs.set 2 (.int (k + 1))).set 1 (.int 0)))), (a, .inr (5, ((((((((((fs.set 0 (.ref b)).set 1 (.int 0)).set 6 (.int 0)).set 7 (.int 0)).set 4 (.int 0)).set 3 (.int 0)).set 4 (.int 0)).set 2 (.int 256)).set 6 (.int 2)).set 7 (.int 0))))] := hD
  have hp9 : 0 = r3 := Eq.symm hp9
  subst hp9
  refine lv_if_eq hx hb d_Q_read_41 (tgt := 70) rfl (fun _ => ?_) (fun h9 => absurd (by decide) h9)
  refine lv_iconst (v := 0) hx hb d_Q_read_70 (by decide) ?_
  exact rtZ hx hb hr (by decide) hlk hP hD hS () rfl [1, 0] rfl rfl (by decide) (Nat.le_of_ble_eq_true rfl) (Nat.le_of_ble_eq_true rfl) d_Q_read_71
theorem d_V_ask_0 : decode prog_1_method_45_code 0 = .ok (.aload_n 0, 1) := by decide +kernel
theorem d_V_ask_1 : decode prog_1_method_45_code 1 = .ok (.invokevirtual 124, 3) := by decide +kernel
theorem d_V_ask_4 : decode prog_1_method_45_code 4 = .ok (.lload_n 1, 1) := by decide +kernel
theorem d_V_ask_5 : decode prog_1_method_45_code 5 = .ok (.invokestatic 262, 3) := by decide +kernel
theorem d_V_ask_8 : decode prog_1_method_45_code 8 = .ok (.ifCond .eq 30, 3) := by decide +kernel
theorem d_V_ask_11 : decode prog_1_method_45_code 11 = .ok (.lload_n 3, 1) := by decide +kernel
theorem d_V_ask_12 : decode prog_1_method_45_code 12 = .ok (.lconst 1, 1) := by decide +kernel
theorem d_V_ask_13 : decode prog_1_method_45_code 13 = .ok (.lcmp, 1) := by decide +kernel
theorem d_V_ask_14 : decode prog_1_method_45_code 14 = .ok (.ifCond .lt 24, 3) := by decide +kernel
theorem d_V_ask_17 : decode prog_1_method_45_code 17 = .ok (.lload_n 3, 1) := by decide +kernel
theorem d_V_ask_18 : decode prog_1_method_45_code 18 = .ok (.ldc2_w 270, 3) := by decide +kernel
theorem d_V_ask_21 : decode prog_1_method_45_code 21 = .ok (.lcmp, 1) := by decide +kernel
theorem d_V_ask_22 : decode prog_1_method_45_code 22 = .ok (.ifCond .gt 16, 3) := by decide +kernel
theorem d_V_ask_25 : decode prog_1_method_45_code 25 = .ok (.iload 5, 2) := by decide +kernel
theorem d_V_ask_27 : decode prog_1_method_45_code 27 = .ok (.iconst 1, 1) := by decide +kernel
theorem d_V_ask_28 : decode prog_1_method_45_code 28 = .ok (.if_icmp .lt 10, 3) := by decide +kernel
theorem d_V_ask_31 : decode prog_1_method_45_code 31 = .ok (.iload 5, 2) := by decide +kernel
theorem d_V_ask_33 : decode prog_1_method_45_code 33 = .ok (.bipush 64, 2) := by decide +kernel
theorem d_V_ask_35 : decode prog_1_method_45_code 35 = .ok (.if_icmp .le 11, 3) := by decide +kernel
theorem d_V_ask_46 : decode prog_1_method_45_code 46 = .ok (.aload_n 0, 1) := by decide +kernel
theorem d_V_ask_47 : decode prog_1_method_45_code 47 = .ok (.getfield 56, 3) := by decide +kernel
theorem d_V_ask_50 : decode prog_1_method_45_code 50 = .ok (.aload_n 0, 1) := by decide +kernel
theorem d_V_ask_51 : decode prog_1_method_45_code 51 = .ok (.getfield 7, 3) := by decide +kernel
theorem d_V_ask_54 : decode prog_1_method_45_code 54 = .ok (.aload_n 0, 1) := by decide +kernel
theorem d_V_ask_55 : decode prog_1_method_45_code 55 = .ok (.getfield 71, 3) := by decide +kernel
theorem d_V_ask_58 : decode prog_1_method_45_code 58 = .ok (.invokevirtual 379, 3) := by decide +kernel
theorem d_V_ask_61 : decode prog_1_method_45_code 61 = .ok (.istore 6, 2) := by decide +kernel
theorem d_V_ask_63 : decode prog_1_method_45_code 63 = .ok (.aload_n 0, 1) := by decide +kernel
theorem d_V_ask_64 : decode prog_1_method_45_code 64 = .ok (.iconst 0, 1) := by decide +kernel
theorem d_V_ask_65 : decode prog_1_method_45_code 65 = .ok (.putfield 71, 3) := by decide +kernel
theorem d_V_ask_68 : decode prog_1_method_45_code 68 = .ok (.aload_n 0, 1) := by decide +kernel
theorem d_V_ask_69 : decode prog_1_method_45_code 69 = .ok (.iconst 0, 1) := by decide +kernel
theorem d_V_ask_70 : decode prog_1_method_45_code 70 = .ok (.putfield 114, 3) := by decide +kernel
theorem d_V_ask_73 : decode prog_1_method_45_code 73 = .ok (.iload 6, 2) := by decide +kernel
theorem d_V_ask_75 : decode prog_1_method_45_code 75 = .ok (.ifCond .ne 23, 3) := by decide +kernel
theorem d_V_ask_78 : decode prog_1_method_45_code 78 = .ok (.aload_n 0, 1) := by decide +kernel
theorem d_V_ask_79 : decode prog_1_method_45_code 79 = .ok (.aload_n 0, 1) := by decide +kernel
theorem d_V_ask_80 : decode prog_1_method_45_code 80 = .ok (.getfield 56, 3) := by decide +kernel
theorem d_V_ask_83 : decode prog_1_method_45_code 83 = .ok (.getfield 380, 3) := by decide +kernel
theorem d_V_ask_86 : decode prog_1_method_45_code 86 = .ok (.aload_n 0, 1) := by decide +kernel
theorem d_V_ask_87 : decode prog_1_method_45_code 87 = .ok (.getfield 56, 3) := by decide +kernel
theorem d_V_ask_90 : decode prog_1_method_45_code 90 = .ok (.getfield 381, 3) := by decide +kernel
theorem d_V_ask_93 : decode prog_1_method_45_code 93 = .ok (.invokevirtual 210, 3) := by decide +kernel
theorem d_V_ask_96 : decode prog_1_method_45_code 96 = .ok (.iconst (-1), 1) := by decide +kernel
theorem d_V_ask_97 : decode prog_1_method_45_code 97 = .ok (.ireturn, 1) := by decide +kernel
theorem w692 : Cond.methodLink "SeriesVault" 262 ⟨"SeriesVault", "isTime", "(J)Z"⟩ ∈ aW := aw_of (tb_5 (List.mem_of_getElem? (i := 141) rfl)) rfl
theorem w693 : Cond.code ⟨"SeriesVault", "isTime", "(J)Z"⟩ prog_1_method_30_code 2 (some FieldType.boolean) ∈ aW := aw_of (tb_5 (List.mem_of_getElem? (i := 143) rfl)) rfl
theorem w694 : Cond.static ⟨"SeriesVault", "isTime", "(J)Z"⟩ ∈ aW := aw_of (tb_5 (List.mem_of_getElem? (i := 142) rfl)) rfl
theorem w695 : Cond.fieldLink "SeriesVault" 56 "SeriesVault" "question" "LSeriesVault$Question;" ∈ aW := aw_of (tb_2 (List.mem_of_getElem? (i := 220) rfl)) rfl
theorem w696 : Cond.methodLink "SeriesVault" 379 ⟨"SeriesVault$Question", "read", "([BI)Z"⟩ ∈ aW := aw_of (tb_6 (List.mem_of_getElem? (i := 181) rfl)) rfl
theorem w697 : Cond.code ⟨"SeriesVault$Question", "read", "([BI)Z"⟩ prog_6_method_2_code 3 (some FieldType.boolean) ∈ aW := aw_of (tb_6 (List.mem_of_getElem? (i := 184) rfl)) rfl
theorem w698 : Cond.instanceMethod ⟨"SeriesVault$Question", "read", "([BI)Z"⟩ ∈ aW := aw_of (tb_6 (List.mem_of_getElem? (i := 182) rfl)) rfl
theorem w699 : Cond.selects "SeriesVault$Question" ⟨"SeriesVault$Question", "read", "([BI)Z"⟩ ⟨"SeriesVault$Question", "read", "([BI)Z"⟩ ∈ aW := aw_of (tb_6 (List.mem_of_getElem? (i := 183) rfl)) rfl
theorem w700 : Cond.fieldLinkNest "SeriesVault" 380 "SeriesVault$Question" "faultCode" "I" "SeriesVault" ∈ aW := aw_of (tb_2 (List.mem_of_getElem? (i := 12) rfl)) rfl
theorem w701 : Cond.fieldLinkNest "SeriesVault" 381 "SeriesVault$Question" "faultPlace" "I" "SeriesVault" ∈ aW := aw_of (tb_2 (List.mem_of_getElem? (i := 14) rfl)) rfl
set_option maxHeartbeats 4000000 in
set_option maxRecDepth 100000 in
theorem c_V_ask (l : Launch) (D : va_G) (dA : Nat → ClassId) (sz : Nat) (a : Nat) (fs : List Value) (b : Nat) (b3 : Nat) (hs : List Value) (b1 : Nat) (gs : List Value) (k : Int32) (b2 : Nat) (t : Int64) (w : Int64) (n : Int32) (h1 : ¬ t < 0) (h2 : t ≤ 1099511627775) (h3 : ¬ w < 1) (h4 : w ≤ 1099511627775) (h5 : ¬ n < 1) (h6 : n ≤ 64) (h_fs_tape : fs[0]? = some (.ref b)) (h_fs_tapeLength : fs[1]? = some (.int 0)) (h_fs_powered : fs[5]? = some (.int 1)) (h_fs_question : fs[15]? = some (.ref b3)) (hl_fs : fs.length = 18) (h_hs_steps : hs[8]? = some (.ref b1)) (hl_hs : hs.length = 9) (h_gs_elementData : gs[0]? = some (.ref b2)) (h_gs_size : gs[1]? = some (.int 0)) (h_gs_modCount : gs[2]? = some (.int k)) (hl_gs : gs.length = 3) : Met l ⟨"SeriesVault", "ask", "(JJI)I"⟩ [Cond.code ⟨"SeriesVault", "ask", "(JJI)I"⟩ prog_1_method_45_code 8 (some FieldType.int)] { frames := 6, cells := 0, slots := 0, locals := 113 } (pC D dA [.ref a, .long t, .long w, .int n] [(a, .inr (0, fs)), (b3, .inr (5, hs)), (b1, .inr (6, gs))] sz) (va_Qi (fun (r : Int32) (_ : Unit) => r = (-1)) (fun (u9 : Unit) t9 => bW D (va_A [(a, .inr (0, fs)), (b3, .inr (5, hs)), (b1, .inr (6, gs))] sz) [(a, .inr (0, ((((fs.set 1 (.int 0)).set 17 (.int 0)).set 2 (.int 2)).set 3 (.int 0)))), (b3, .inr (5, ((((((((((hs.set 0 (.ref b)).set 1 (.int 0)).set 6 (.int 0)).set 7 (.int 0)).set 4 (.int 0)).set 3 (.int 0)).set 4 (.int 0)).set 2 (.int 256)).set 6 (.int 2)).set 7 (.int 0)))), (b1, .inr (6, ((gs.set 2 (.int (k + 1))).set 1 (.int 0))))] t9) (va_A [(a, .inr (0, fs)), (b3, .inr (5, hs)), (b1, .inr (6, gs))] sz)) 0 0 (va_A [(a, .inr (0, fs)), (b3, .inr (5, hs)), (b1, .inr (6, gs))] sz) := by
  refine mkC (y := ⟨"SeriesVault", "ask", "(JJI)I"⟩) (cc := prog_1_method_45_code) (maxL := 8) (av := [.ref a, .long t, .long w, .int n]) (ws := [(a, .inr (0, fs)), (b3, .inr (5, hs)), (b1, .inr (6, gs))]) (sz := sz) (Qc := fun A => va_Qi (fun (r : Int32) (_ : Unit) => r = (-1)) (fun (u9 : Unit) t9 => bW D A [(a, .inr (0, ((((fs.set 1 (.int 0)).set 17 (.int 0)).set 2 (.int 2)).set 3 (.int 0)))), (b3, .inr (5, ((((((((((hs.set 0 (.ref b)).set 1 (.int 0)).set 6 (.int 0)).set 7 (.int 0)).set 4 (.int 0)).set 3 (.int 0)).set 4 (.int 0)).set 2 (.int 256)).set 6 (.int 2)).set 7 (.int 0)))), (b1, .inr (6, ((gs.set 2 (.int (k + 1))).set 1 (.int 0))))] t9) A) (by decide) (Nat.le_of_ble_eq_true rfl) ?_
  intro A p e s m below meth c ls hsz hB
  obtain ⟨hx, hb, hr, hml, hown, hin, hlk, hE, hK, hP, hD, hS, hA, hN, hl⟩ := hB
  have hown : s.vm.findClass "SeriesVault" = some m.cls := hown
  have hin : meth.name = "ask" := hin
  have hl : lv_has ls 8 [(0, .ref a), (1, .long t), (3, .long w), (5, .int n)] := hl
  obtain ⟨H, hH⟩ : ∃ z, z = s.heap := ⟨_, rfl⟩
  have hP : va_P D vwCl [(a, .inr (0, fs)), (b3, .inr (5, hs)), (b1, .inr (6, gs))] H := by rw [hH]; exact hP
  have hS : va_S A s.heap H [] := by rw [hH]; exact hS
  rw [← hH]
  refine lv_aload_n hx hb d_V_ask_0 rfl (lv_at hl 0 rfl) ?_
  have hPc := hP.sub (ws' := [(a, .inr (0, fs))]) [0] rfl
  have hDc := hD.sub (ws' := [(a, .inr (0, fs))]) [0] (by decide) rfl
  refine jnV (rnV (As := []) (rest := []) hx hb hml hown hE hK (hN _ _ hS) hPc hDc (c_V_checkPower l D dA H.size a fs h_fs_powered hl_fs) (q0 := 0) rfl rfl w278 w276 w279 w280 w277 rfl rfl ⟨⟨by decide, by decide⟩, rfl⟩ ⟨(Nat.le_of_ble_eq_true rfl), (Nat.le_of_ble_eq_true rfl)⟩ rfl hl.1 rfl (Nat.le_of_ble_eq_true rfl) d_V_ask_1 ⟨(Nat.le_of_ble_eq_true rfl), (Nat.le_of_ble_eq_true rfl)⟩) hP hD hS hA [0] [1, 2] (wr := [(b3, .inr (5, hs)), (b1, .inr (6, gs))]) rfl rfl (by decide) (by decide) (fun u9 H locs hp9 hP hD hS => ?_)
  have hP : va_P D vwCl [(b3, .inr (5, hs)), (b1, .inr (6, gs)), (a, .inr (0, fs))] H := hP
  have hD : va_D A [(b3, .inr (5, hs)), (b1, .inr (6, gs)), (a, .inr (0, fs))] := hD
  refine lv_lload_n hx hb d_V_ask_4 rfl (lv_at hl 1 rfl) ?_
  have hPc := hP.sub (ws' := []) [] rfl
  have hDc := hD.sub (ws' := []) [] (by decide) rfl
  refine jnI (rnS (As := [.long t]) (rest := []) hx hb hml hown hE hK (hN _ _ hS) hPc hDc (c_V_isTime_1 l D dA H.size t h1 h2) w693 w692 w694 w277 rfl rfl ⟨⟨by decide, by decide⟩, rfl⟩ ⟨(Nat.le_of_ble_eq_true rfl), (Nat.le_of_ble_eq_true rfl)⟩ rfl hl.1 rfl (Nat.le_of_ble_eq_true rfl) d_V_ask_5 ⟨(Nat.le_of_ble_eq_true rfl), (Nat.le_of_ble_eq_true rfl)⟩) hP hD hS hA [] [0, 1, 2] (wr := [(b3, .inr (5, hs)), (b1, .inr (6, gs)), (a, .inr (0, fs))]) rfl rfl (by decide) (by decide) (fun r2 u9 H locs hp9 hP hD hS => ?_)
  have hP : va_P D vwCl [(b3, .inr (5, hs)), (b1, .inr (6, gs)), (a, .inr (0, fs))] H := hP
  have hD : va_D A [(b3, .inr (5, hs)), (b1, .inr (6, gs)), (a, .inr (0, fs))] := hD
  have hp9 : 1 = r2 := Eq.symm hp9
  subst hp9
  refine lv_if_eq hx hb d_V_ask_8 (tgt := 38) rfl (fun h9 => absurd h9 (by decide)) (fun _ => ?_)
  refine lv_lload_n hx hb d_V_ask_11 rfl (lv_at hl 2 rfl) ?_
  refine lv_lconst (v := 1) hx hb d_V_ask_12 (by decide) ?_
  refine W.lcmp hx hb d_V_ask_13 ?_
  refine lv_if_lt hx hb d_V_ask_14 (tgt := 38) rfl (fun h9 => absurd h9 (mt (lg_cmp_lt _ _).mp (h3))) (fun _ => ?_)
  refine lv_lload_n hx hb d_V_ask_17 rfl (lv_at hl 2 rfl) ?_
  refine lv_ldc2 (v := 1099511627775) hx hb hown (hE.t w653 rfl) d_V_ask_18 ?_
  refine W.lcmp hx hb d_V_ask_21 ?_
  refine lv_if_gt hx hb d_V_ask_22 (tgt := 38) rfl (fun h9 => absurd h9 (mt (lg_cmp_gt _ _).mp (Int64.not_lt.mpr (h4)))) (fun _ => ?_)
  refine lv_iload hx hb d_V_ask_25 (lv_at hl 3 rfl) ?_
  refine lv_iconst (v := 1) hx hb d_V_ask_27 (by decide) ?_
  refine lv_icmp_lt hx hb d_V_ask_28 (tgt := 38) rfl (fun h9 => absurd h9 h5) (fun _ => ?_)
  refine lv_iload hx hb d_V_ask_31 (lv_at hl 3 rfl) ?_
  refine lv_bipush (v := 64) hx hb d_V_ask_33 (by decide) ?_
  refine lv_icmp_le hx hb d_V_ask_35 (tgt := 46) rfl (fun _ => ?_) (fun h9 => absurd h6 h9)
  refine lv_aload_n hx hb d_V_ask_46 rfl (lv_at hl 0 rfl) ?_
  refine gF (v := .ref b3) hx hb hown hE hK hP 2 rfl rfl layV 15 (by decide) w695 h_fs_question d_V_ask_47 ?_
  refine lv_aload_n hx hb d_V_ask_50 rfl (lv_at hl 0 rfl) ?_
  refine gF (v := .ref b) hx hb hown hE hK hP 2 rfl rfl layV 0 (by decide) w539 h_fs_tape d_V_ask_51 ?_
  refine lv_aload_n hx hb d_V_ask_54 rfl (lv_at hl 0 rfl) ?_
  refine gF (v := .int 0) hx hb hown hE hK hP 2 rfl rfl layV 1 (by decide) w259 h_fs_tapeLength d_V_ask_55 ?_
  have hPc := hP.sub (ws' := [(b3, .inr (5, hs)), (b1, .inr (6, gs))]) [0, 1] rfl
  have hDc := hD.sub (ws' := [(b3, .inr (5, hs)), (b1, .inr (6, gs))]) [0, 1] (by decide) rfl
  refine jnI (rnV (As := [.ref b, .int 0]) (rest := []) hx hb hml hown hE hK (hN _ _ hS) hPc hDc (c_Q_read_0 l D dA H.size b3 hs b b1 gs k b2 h_hs_steps hl_hs h_gs_elementData h_gs_size h_gs_modCount hl_gs) (q0 := 0) rfl rfl w697 w696 w698 w699 w665 rfl rfl ⟨⟨by decide, by decide⟩, rfl⟩ ⟨(Nat.le_of_ble_eq_true rfl), (Nat.le_of_ble_eq_true rfl)⟩ rfl hl.1 rfl (Nat.le_of_ble_eq_true rfl) d_V_ask_58 ⟨(Nat.le_of_ble_eq_true rfl), (Nat.le_of_ble_eq_true rfl)⟩) hP hD hS hA [0, 1] [2] (wr := [(a, .inr (0, fs))]) rfl rfl (by decide) (by decide) (fun r3 u9 H locs hp9 hP hD hS => ?_)
  have hP : va_P D vwCl [(a, .inr (0, fs)), (b3, .inr (5, ((((((((((hs.set 0 (.ref b)).set 1 (.int 0)).set 6 (.int 0)).set 7 (.int 0)).set 4 (.int 0)).set 3 (.int 0)).set 4 (.int 0)).set 2 (.int 256)).set 6 (.int 2)).set 7 (.int 0)))), (b1, .inr (6, ((gs.set 2 (.int (k + 1))).set 1 (.int 0))))] H := hP
  have hD : va_D A [(a, .inr (0, fs)), (b3, .inr (5, ((((((((((hs.set 0 (.ref b)).set 1 (.int 0)).set 6 (.int 0)).set 7 (.int 0)).set 4 (.int 0)).set 3 (.int 0)).set 4 (.int 0)).set 2 (.int 256)).set 6 (.int 2)).set 7 (.int 0)))), (b1, .inr (6, ((gs.set 2 (.int (k + 1))).set 1 (.int 0))))] := hD
  have hp9 : 0 = r3 := Eq.symm hp9
  subst hp9
  refine lv_istore hx hb d_V_ask_61 hl (by decide) rfl (fun ls hl => ?_)
  have hl : lv_has ls 8 [(6, .int 0), (0, .ref a), (1, .long t), (3, .long w), (5, .int n)] := hl
  refine lv_aload_n hx hb d_V_ask_63 rfl (lv_at hl 1 rfl) ?_
  refine lv_iconst (v := 0) hx hb d_V_ask_64 (by decide) ?_
  refine pF hx hb hown hE hK hP hD hS 0 rfl rfl layV tyV tokV nmV 1 (by decide) w259 rfl rfl rfl (by simp [hl_fs]) d_V_ask_65 (fun H locs hP hD hS => ?_)
  have hP : va_P D vwCl [(a, .inr (0, (fs.set 1 (.int 0)))), (b3, .inr (5, ((((((((((hs.set 0 (.ref b)).set 1 (.int 0)).set 6 (.int 0)).set 7 (.int 0)).set 4 (.int 0)).set 3 (.int 0)).set 4 (.int 0)).set 2 (.int 256)).set 6 (.int 2)).set 7 (.int 0)))), (b1, .inr (6, ((gs.set 2 (.int (k + 1))).set 1 (.int 0))))] H := hP
  have hD : va_D A [(a, .inr (0, (fs.set 1 (.int 0)))), (b3, .inr (5, ((((((((((hs.set 0 (.ref b)).set 1 (.int 0)).set 6 (.int 0)).set 7 (.int 0)).set 4 (.int 0)).set 3 (.int 0)).set 4 (.int 0)).set 2 (.int 256)).set 6 (.int 2)).set 7 (.int 0)))), (b1, .inr (6, ((gs.set 2 (.int (k + 1))).set 1 (.int 0))))] := hD
  refine lv_aload_n hx hb d_V_ask_68 rfl (lv_at hl 1 rfl) ?_
  refine lv_iconst (v := 0) hx hb d_V_ask_69 (by decide) ?_
  refine pF hx hb hown hE hK hP hD hS 0 rfl rfl layV tyV tokV nmV 17 (by decide) w210 rfl rfl rfl (by simp [hl_fs]) d_V_ask_70 (fun H locs hP hD hS => ?_)
  have hP : va_P D vwCl [(a, .inr (0, ((fs.set 1 (.int 0)).set 17 (.int 0)))), (b3, .inr (5, ((((((((((hs.set 0 (.ref b)).set 1 (.int 0)).set 6 (.int 0)).set 7 (.int 0)).set 4 (.int 0)).set 3 (.int 0)).set 4 (.int 0)).set 2 (.int 256)).set 6 (.int 2)).set 7 (.int 0)))), (b1, .inr (6, ((gs.set 2 (.int (k + 1))).set 1 (.int 0))))] H := hP
  have hD : va_D A [(a, .inr (0, ((fs.set 1 (.int 0)).set 17 (.int 0)))), (b3, .inr (5, ((((((((((hs.set 0 (.ref b)).set 1 (.int 0)).set 6 (.int 0)).set 7 (.int 0)).set 4 (.int 0)).set 3 (.int 0)).set 4 (.int 0)).set 2 (.int 256)).set 6 (.int 2)).set 7 (.int 0)))), (b1, .inr (6, ((gs.set 2 (.int (k + 1))).set 1 (.int 0))))] := hD
  refine lv_iload hx hb d_V_ask_73 (lv_at hl 0 rfl) ?_
  refine lv_if_ne hx hb d_V_ask_75 (tgt := 98) rfl (fun h9 => absurd (by decide) h9) (fun _ => ?_)
  refine lv_aload_n hx hb d_V_ask_78 rfl (lv_at hl 1 rfl) ?_
  refine lv_aload_n hx hb d_V_ask_79 rfl (lv_at hl 1 rfl) ?_
  refine gF (v := .ref b3) hx hb hown hE hK hP 0 rfl rfl layV 15 (by decide) w695 (by simp [h_fs_question]) d_V_ask_80 ?_
  refine gFN (v := .int 2) hx hb hown hE hK hP 1 rfl rfl layQ 6 (by decide) w700 (by simp [hl_hs]) d_V_ask_83 ?_
  refine lv_aload_n hx hb d_V_ask_86 rfl (lv_at hl 1 rfl) ?_
  refine gF (v := .ref b3) hx hb hown hE hK hP 0 rfl rfl layV 15 (by decide) w695 (by simp [h_fs_question]) d_V_ask_87 ?_
  refine gFN (v := .int 0) hx hb hown hE hK hP 1 rfl rfl layQ 7 (by decide) w701 (by simp [hl_hs]) d_V_ask_90 ?_
  have hPc := hP.sub (ws' := [(a, .inr (0, ((fs.set 1 (.int 0)).set 17 (.int 0))))]) [0] rfl
  have hDc := hD.sub (ws' := [(a, .inr (0, ((fs.set 1 (.int 0)).set 17 (.int 0))))]) [0] (by decide) rfl
  refine jnV (rnV (As := [.int 2, .int 0]) (rest := []) hx hb hml hown hE hK (hN _ _ hS) hPc hDc (c_V_setFault l D dA H.size a ((fs.set 1 (.int 0)).set 17 (.int 0)) 2 0 (by simp [hl_fs])) (q0 := 0) rfl rfl w616 w615 w617 w618 w277 rfl rfl ⟨⟨by decide, by decide⟩, rfl⟩ ⟨(Nat.le_of_ble_eq_true rfl), (Nat.le_of_ble_eq_true rfl)⟩ rfl hl.1 rfl (Nat.le_of_ble_eq_true rfl) d_V_ask_93 ⟨(Nat.le_of_ble_eq_true rfl), (Nat.le_of_ble_eq_true rfl)⟩) hP hD hS hA [0] [1, 2] (wr := [(b3, .inr (5, ((((((((((hs.set 0 (.ref b)).set 1 (.int 0)).set 6 (.int 0)).set 7 (.int 0)).set 4 (.int 0)).set 3 (.int 0)).set 4 (.int 0)).set 2 (.int 256)).set 6 (.int 2)).set 7 (.int 0)))), (b1, .inr (6, ((gs.set 2 (.int (k + 1))).set 1 (.int 0))))]) rfl rfl (by decide) (by decide) (fun u9 H locs hp9 hP hD hS => ?_)
  have hP : va_P D vwCl [(b3, .inr (5, ((((((((((hs.set 0 (.ref b)).set 1 (.int 0)).set 6 (.int 0)).set 7 (.int 0)).set 4 (.int 0)).set 3 (.int 0)).set 4 (.int 0)).set 2 (.int 256)).set 6 (.int 2)).set 7 (.int 0)))), (b1, .inr (6, ((gs.set 2 (.int (k + 1))).set 1 (.int 0)))), (a, .inr (0, ((((fs.set 1 (.int 0)).set 17 (.int 0)).set 2 (.int 2)).set 3 (.int 0))))] H := hP
  have hD : va_D A [(b3, .inr (5, ((((((((((hs.set 0 (.ref b)).set 1 (.int 0)).set 6 (.int 0)).set 7 (.int 0)).set 4 (.int 0)).set 3 (.int 0)).set 4 (.int 0)).set 2 (.int 256)).set 6 (.int 2)).set 7 (.int 0)))), (b1, .inr (6, ((gs.set 2 (.int (k + 1))).set 1 (.int 0)))), (a, .inr (0, ((((fs.set 1 (.int 0)).set 17 (.int 0)).set 2 (.int 2)).set 3 (.int 0))))] := hD
  refine lv_iconst (v := (-1)) hx hb d_V_ask_96 (by decide) ?_
  exact rtI hx hb hr hlk hP hD hS () rfl [2, 0, 1] rfl rfl (by decide) (Nat.le_of_ble_eq_true rfl) (Nat.le_of_ble_eq_true rfl) d_V_ask_97
theorem d_V_ask_38 : decode prog_1_method_45_code 38 = .ok (.new 89, 3) := by decide +kernel
theorem d_V_ask_41 : decode prog_1_method_45_code 41 = .ok (.dup, 1) := by decide +kernel
theorem d_V_ask_42 : decode prog_1_method_45_code 42 = .ok (.invokespecial 91, 3) := by decide +kernel
theorem d_V_ask_45 : decode prog_1_method_45_code 45 = .ok (.athrow, 1) := by decide +kernel
set_option maxHeartbeats 4000000 in
set_option maxRecDepth 100000 in
theorem c_V_ask_xt (l : Launch) (htr : l.stackTraces = false) (D : va_G) (dA : Nat → ClassId) (sz : Nat) (a : Nat) (fs : List Value) (t : Int64) (w : Int64) (n : Int32) (h0 : t < 0 ∨ 1099511627775 < t) (h_fs_powered : fs[5]? = some (.int 1)) (hl_fs : fs.length = 18) : mX l ⟨"SeriesVault", "ask", "(JJI)I"⟩ [Cond.code ⟨"SeriesVault", "ask", "(JJI)I"⟩ prog_1_method_45_code 8 (some FieldType.int)] { frames := 6, cells := 1, slots := 6, locals := 81 } (pC D dA [.ref a, .long t, .long w, .int n] [(a, .inr (0, fs))] sz) "java/lang/IllegalArgumentException" (fun st9 t9 => va_F (va_A [(a, .inr (0, fs))] sz) st9 t9 ∧ bW D (va_A [(a, .inr (0, fs))] sz) [(a, .inr (0, fs))] t9) 1 6 (va_A [(a, .inr (0, fs))] sz) := by
  refine mkX (y := ⟨"SeriesVault", "ask", "(JJI)I"⟩) (cc := prog_1_method_45_code) (maxL := 8) (av := [.ref a, .long t, .long w, .int n]) (B := fun A => fun st9 t9 => va_F A st9 t9 ∧ bW D A [(a, .inr (0, fs))] t9) (by decide) (Nat.le_of_ble_eq_true rfl) ?_
  intro A p e s m below meth c ls hsz hno hB
  obtain ⟨hx, hb, hr, hml, hown, hin, hlk, hE, hK, hP, hD, hS, hA, hN, hl⟩ := hB
  have hown : s.vm.findClass "SeriesVault" = some m.cls := hown
  have hin : meth.name = "ask" := hin
  have hl : lv_has ls 8 [(0, .ref a), (1, .long t), (3, .long w), (5, .int n)] := hl
  obtain ⟨H, hH⟩ : ∃ z, z = s.heap := ⟨_, rfl⟩
  have hP : va_P D vwCl [(a, .inr (0, fs))] H := by rw [hH]; exact hP
  have hS : va_S A s.heap H [] := by rw [hH]; exact hS
  rw [← hH]
  refine lv_aload_n hx hb d_V_ask_0 rfl (lv_at hl 0 rfl) ?_
  have hPc := hP.sub (ws' := [(a, .inr (0, fs))]) [0] rfl
  have hDc := hD.sub (ws' := [(a, .inr (0, fs))]) [0] (by decide) rfl
  refine jnV (rnV (As := []) (rest := []) hx hb hml hown hE hK (hN _ _ hS) hPc hDc (c_V_checkPower l D dA H.size a fs h_fs_powered hl_fs) (q0 := 0) rfl rfl w278 w276 w279 w280 w277 rfl rfl ⟨⟨by decide, by decide⟩, rfl⟩ ⟨(Nat.le_of_ble_eq_true rfl), (Nat.le_of_ble_eq_true rfl)⟩ rfl hl.1 rfl (Nat.le_of_ble_eq_true rfl) d_V_ask_1 ⟨(Nat.le_of_ble_eq_true rfl), (Nat.le_of_ble_eq_true rfl)⟩) hP hD hS hA [0] [] (wr := []) rfl rfl (by decide) (by decide) (fun u9 H locs hp9 hP hD hS => ?_)
  have hP : va_P D vwCl [(a, .inr (0, fs))] H := hP
  have hD : va_D A [(a, .inr (0, fs))] := hD
  refine lv_lload_n hx hb d_V_ask_4 rfl (lv_at hl 1 rfl) ?_
  have hPc := hP.sub (ws' := []) [] rfl
  have hDc := hD.sub (ws' := []) [] (by decide) rfl
  refine jnI (rnS (As := [.long t]) (rest := []) hx hb hml hown hE hK (hN _ _ hS) hPc hDc (c_V_isTime_0 l D dA H.size t h0) w693 w692 w694 w277 rfl rfl ⟨⟨by decide, by decide⟩, rfl⟩ ⟨(Nat.le_of_ble_eq_true rfl), (Nat.le_of_ble_eq_true rfl)⟩ rfl hl.1 rfl (Nat.le_of_ble_eq_true rfl) d_V_ask_5 ⟨(Nat.le_of_ble_eq_true rfl), (Nat.le_of_ble_eq_true rfl)⟩) hP hD hS hA [] [0] (wr := [(a, .inr (0, fs))]) rfl rfl (by decide) (by decide) (fun r2 u9 H locs hp9 hP hD hS => ?_)
  have hP : va_P D vwCl [(a, .inr (0, fs))] H := hP
  have hD : va_D A [(a, .inr (0, fs))] := hD
  have hp9 : 0 = r2 := Eq.symm hp9
  subst hp9
  refine lv_if_eq hx hb d_V_ask_8 (tgt := 38) rfl (fun _ => ?_) (fun h9 => absurd (by decide) h9)
  exact xNew (E := "java/lang/IllegalArgumentException") (names := ["java/lang/RuntimeException", "java/lang/Exception"]) hx hb htr hown (by decide) (by decide) hE w273 w274 (fun U hU => at_V_IAE hU) (hN _ _ hS) (hl.1.trans hml.symm) d_V_ask_38 d_V_ask_41 d_V_ask_42 d_V_ask_45 hno (by decide) (Nat.le_of_ble_eq_true rfl) (Nat.le_of_ble_eq_true rfl) (Nat.le_of_ble_eq_true rfl) hlk (fun t h1 h2 => xEnd hP hD hS [0] rfl rfl (by decide) t h1 h2) hS.2.2 (Nat.le_of_ble_eq_true rfl) (Nat.le_of_ble_eq_true rfl)
set_option maxHeartbeats 4000000 in
set_option maxRecDepth 100000 in
theorem c_V_ask_xw (l : Launch) (htr : l.stackTraces = false) (D : va_G) (dA : Nat → ClassId) (sz : Nat) (a : Nat) (fs : List Value) (t : Int64) (w : Int64) (n : Int32) (h1 : ¬ t < 0) (h2 : t ≤ 1099511627775) (h0 : w < 1 ∨ 1099511627775 < w ∨ n < 1 ∨ 64 < n) (h_fs_powered : fs[5]? = some (.int 1)) (hl_fs : fs.length = 18) : mX l ⟨"SeriesVault", "ask", "(JJI)I"⟩ [Cond.code ⟨"SeriesVault", "ask", "(JJI)I"⟩ prog_1_method_45_code 8 (some FieldType.int)] { frames := 6, cells := 1, slots := 6, locals := 81 } (pC D dA [.ref a, .long t, .long w, .int n] [(a, .inr (0, fs))] sz) "java/lang/IllegalArgumentException" (fun st9 t9 => va_F (va_A [(a, .inr (0, fs))] sz) st9 t9 ∧ bW D (va_A [(a, .inr (0, fs))] sz) [(a, .inr (0, fs))] t9) 1 6 (va_A [(a, .inr (0, fs))] sz) := by
  refine mkX (y := ⟨"SeriesVault", "ask", "(JJI)I"⟩) (cc := prog_1_method_45_code) (maxL := 8) (av := [.ref a, .long t, .long w, .int n]) (B := fun A => fun st9 t9 => va_F A st9 t9 ∧ bW D A [(a, .inr (0, fs))] t9) (by decide) (Nat.le_of_ble_eq_true rfl) ?_
  intro A p e s m below meth c ls hsz hno hB
  obtain ⟨hx, hb, hr, hml, hown, hin, hlk, hE, hK, hP, hD, hS, hA, hN, hl⟩ := hB
  have hown : s.vm.findClass "SeriesVault" = some m.cls := hown
  have hin : meth.name = "ask" := hin
  have hl : lv_has ls 8 [(0, .ref a), (1, .long t), (3, .long w), (5, .int n)] := hl
  obtain ⟨H, hH⟩ : ∃ z, z = s.heap := ⟨_, rfl⟩
  have hP : va_P D vwCl [(a, .inr (0, fs))] H := by rw [hH]; exact hP
  have hS : va_S A s.heap H [] := by rw [hH]; exact hS
  rw [← hH]
  refine lv_aload_n hx hb d_V_ask_0 rfl (lv_at hl 0 rfl) ?_
  have hPc := hP.sub (ws' := [(a, .inr (0, fs))]) [0] rfl
  have hDc := hD.sub (ws' := [(a, .inr (0, fs))]) [0] (by decide) rfl
  refine jnV (rnV (As := []) (rest := []) hx hb hml hown hE hK (hN _ _ hS) hPc hDc (c_V_checkPower l D dA H.size a fs h_fs_powered hl_fs) (q0 := 0) rfl rfl w278 w276 w279 w280 w277 rfl rfl ⟨⟨by decide, by decide⟩, rfl⟩ ⟨(Nat.le_of_ble_eq_true rfl), (Nat.le_of_ble_eq_true rfl)⟩ rfl hl.1 rfl (Nat.le_of_ble_eq_true rfl) d_V_ask_1 ⟨(Nat.le_of_ble_eq_true rfl), (Nat.le_of_ble_eq_true rfl)⟩) hP hD hS hA [0] [] (wr := []) rfl rfl (by decide) (by decide) (fun u9 H locs hp9 hP hD hS => ?_)
  have hP : va_P D vwCl [(a, .inr (0, fs))] H := hP
  have hD : va_D A [(a, .inr (0, fs))] := hD
  refine lv_lload_n hx hb d_V_ask_4 rfl (lv_at hl 1 rfl) ?_
  have hPc := hP.sub (ws' := []) [] rfl
  have hDc := hD.sub (ws' := []) [] (by decide) rfl
  refine jnI (rnS (As := [.long t]) (rest := []) hx hb hml hown hE hK (hN _ _ hS) hPc hDc (c_V_isTime_1 l D dA H.size t h1 h2) w693 w692 w694 w277 rfl rfl ⟨⟨by decide, by decide⟩, rfl⟩ ⟨(Nat.le_of_ble_eq_true rfl), (Nat.le_of_ble_eq_true rfl)⟩ rfl hl.1 rfl (Nat.le_of_ble_eq_true rfl) d_V_ask_5 ⟨(Nat.le_of_ble_eq_true rfl), (Nat.le_of_ble_eq_true rfl)⟩) hP hD hS hA [] [0] (wr := [(a, .inr (0, fs))]) rfl rfl (by decide) (by decide) (fun r2 u9 H locs hp9 hP hD hS => ?_)
  have hP : va_P D vwCl [(a, .inr (0, fs))] H := hP
  have hD : va_D A [(a, .inr (0, fs))] := hD
  have hp9 : 1 = r2 := Eq.symm hp9
  subst hp9
  refine lv_if_eq hx hb d_V_ask_8 (tgt := 38) rfl (fun h9 => absurd h9 (by decide)) (fun _ => ?_)
  refine lv_lload_n hx hb d_V_ask_11 rfl (lv_at hl 2 rfl) ?_
  refine lv_lconst (v := 1) hx hb d_V_ask_12 (by decide) ?_
  refine W.lcmp hx hb d_V_ask_13 ?_
  refine lv_if_lt hx hb d_V_ask_14 (tgt := 38) rfl (fun hc => ?_) (fun hc => ?_)
  · exact xNew (E := "java/lang/IllegalArgumentException") (names := ["java/lang/RuntimeException", "java/lang/Exception"]) hx hb htr hown (by decide) (by decide) hE w273 w274 (fun U hU => at_V_IAE hU) (hN _ _ hS) (hl.1.trans hml.symm) d_V_ask_38 d_V_ask_41 d_V_ask_42 d_V_ask_45 hno (by decide) (Nat.le_of_ble_eq_true rfl) (Nat.le_of_ble_eq_true rfl) (Nat.le_of_ble_eq_true rfl) hlk (fun t h1 h2 => xEnd hP hD hS [0] rfl rfl (by decide) t h1 h2) hS.2.2 (Nat.le_of_ble_eq_true rfl) (Nat.le_of_ble_eq_true rfl)
  · refine lv_lload_n hx hb d_V_ask_17 rfl (lv_at hl 2 rfl) ?_
    refine lv_ldc2 (v := 1099511627775) hx hb hown (hE.t w653 rfl) d_V_ask_18 ?_
    refine W.lcmp hx hb d_V_ask_21 ?_
    refine lv_if_gt hx hb d_V_ask_22 (tgt := 38) rfl (fun hd => ?_) (fun hd => ?_)
    · exact xNew (E := "java/lang/IllegalArgumentException") (names := ["java/lang/RuntimeException", "java/lang/Exception"]) hx hb htr hown (by decide) (by decide) hE w273 w274 (fun U hU => at_V_IAE hU) (hN _ _ hS) (hl.1.trans hml.symm) d_V_ask_38 d_V_ask_41 d_V_ask_42 d_V_ask_45 hno (by decide) (Nat.le_of_ble_eq_true rfl) (Nat.le_of_ble_eq_true rfl) (Nat.le_of_ble_eq_true rfl) hlk (fun t h1 h2 => xEnd hP hD hS [0] rfl rfl (by decide) t h1 h2) hS.2.2 (Nat.le_of_ble_eq_true rfl) (Nat.le_of_ble_eq_true rfl)
    · refine lv_iload hx hb d_V_ask_25 (lv_at hl 3 rfl) ?_
      refine lv_iconst (v := 1) hx hb d_V_ask_27 (by decide) ?_
      refine lv_icmp_lt hx hb d_V_ask_28 (tgt := 38) rfl (fun he => ?_) (fun he => ?_)
      · exact xNew (E := "java/lang/IllegalArgumentException") (names := ["java/lang/RuntimeException", "java/lang/Exception"]) hx hb htr hown (by decide) (by decide) hE w273 w274 (fun U hU => at_V_IAE hU) (hN _ _ hS) (hl.1.trans hml.symm) d_V_ask_38 d_V_ask_41 d_V_ask_42 d_V_ask_45 hno (by decide) (Nat.le_of_ble_eq_true rfl) (Nat.le_of_ble_eq_true rfl) (Nat.le_of_ble_eq_true rfl) hlk (fun t h1 h2 => xEnd hP hD hS [0] rfl rfl (by decide) t h1 h2) hS.2.2 (Nat.le_of_ble_eq_true rfl) (Nat.le_of_ble_eq_true rfl)
      · refine lv_iload hx hb d_V_ask_31 (lv_at hl 3 rfl) ?_
        refine lv_bipush (v := 64) hx hb d_V_ask_33 (by decide) ?_
        refine lv_icmp_le hx hb d_V_ask_35 (tgt := 46) rfl (fun h9 => absurd h9 (Int32.not_le.mpr (((h0.resolve_left (mt (lg_cmp_lt _ _).mpr hc)).resolve_left (mt (lg_cmp_gt _ _).mpr hd)).resolve_left he))) (fun _ => ?_)
        exact xNew (E := "java/lang/IllegalArgumentException") (names := ["java/lang/RuntimeException", "java/lang/Exception"]) hx hb htr hown (by decide) (by decide) hE w273 w274 (fun U hU => at_V_IAE hU) (hN _ _ hS) (hl.1.trans hml.symm) d_V_ask_38 d_V_ask_41 d_V_ask_42 d_V_ask_45 hno (by decide) (Nat.le_of_ble_eq_true rfl) (Nat.le_of_ble_eq_true rfl) (Nat.le_of_ble_eq_true rfl) hlk (fun t h1 h2 => xEnd hP hD hS [0] rfl rfl (by decide) t h1 h2) hS.2.2 (Nat.le_of_ble_eq_true rfl) (Nat.le_of_ble_eq_true rfl)
end
section
theorem d_SeriesVaultLaw_count_0 : decode method_20_code 0 = .ok (.aload_n 2, 1) := by decide +kernel
theorem d_SeriesVaultLaw_count_1 : decode method_20_code 1 = .ok (.iconst 0, 1) := by decide +kernel
theorem d_SeriesVaultLaw_count_2 : decode method_20_code 2 = .ok (.aload_n 0, 1) := by decide +kernel
theorem d_SeriesVaultLaw_count_3 : decode method_20_code 3 = .ok (.iload_n 1, 1) := by decide +kernel
theorem d_SeriesVaultLaw_count_4 : decode method_20_code 4 = .ok (.invokevirtual 81, 3) := by decide +kernel
theorem d_SeriesVaultLaw_count_7 : decode method_20_code 7 = .ok (.i2l, 1) := by decide +kernel
theorem d_SeriesVaultLaw_count_8 : decode method_20_code 8 = .ok (.lastore, 1) := by decide +kernel
theorem d_SeriesVaultLaw_count_9 : decode method_20_code 9 = .ok (.goto 9, 3) := by decide +kernel
theorem d_SeriesVaultLaw_count_18 : decode method_20_code 18 = .ok (.iconst 0, 1) := by decide +kernel
theorem d_SeriesVaultLaw_count_19 : decode method_20_code 19 = .ok (.ireturn, 1) := by decide +kernel
theorem w702 : Cond.methodLink "SeriesVaultLaw" 81 ⟨"SeriesVault", "count", "(I)I"⟩ ∈ aW := aw_of (tb_8 (List.mem_of_getElem? (i := 109) rfl)) rfl
theorem w703 : Cond.code ⟨"SeriesVault", "count", "(I)I"⟩ prog_1_method_43_code 2 (some FieldType.int) ∈ aW := aw_of (tb_8 (List.mem_of_getElem? (i := 112) rfl)) rfl
theorem w704 : Cond.instanceMethod ⟨"SeriesVault", "count", "(I)I"⟩ ∈ aW := aw_of (tb_8 (List.mem_of_getElem? (i := 110) rfl)) rfl
theorem w705 : Cond.selects "SeriesVault" ⟨"SeriesVault", "count", "(I)I"⟩ ⟨"SeriesVault", "count", "(I)I"⟩ ∈ aW := aw_of (tb_8 (List.mem_of_getElem? (i := 111) rfl)) rfl
set_option maxHeartbeats 4000000 in
set_option maxRecDepth 100000 in
theorem c_K_count_0 (l : Launch) (htr : l.stackTraces = false) (D : va_G) (dA : Nat → ClassId) (sz : Nat) (a : Nat) (fs : List Value) (b2 : Nat) (is : List Value) (o : Nat) (og : Nat → Int64) (h_fs_powered : fs[5]? = some (.int 1)) (h_fs_now : fs[11]? = some (.ref b2)) (hl_fs : fs.length = 18) (h_is_seriesCount : is[8]? = some (.int 0)) (hl_is : is.length = 11) : Met l ⟨"SeriesVaultLaw", "count", "(LSeriesVault;I[J)I"⟩ [Cond.codeWith ⟨"SeriesVaultLaw", "count", "(LSeriesVault;I[J)I"⟩ method_20_code 4 (some FieldType.int) [(0, 9, 12, 29), (0, 9, 15, 19)]] { frames := 3, cells := 0, slots := 0, locals := 41 } (pC D dA [.ref a, .int 0, .ref o] [(a, .inr (0, fs)), (b2, .inr (3, is)), (o, .inl (dA 2, 1, .inr (.inl og)))] sz) (va_Qi (fun (r : Int32) (_ : Unit) => r = 0) (fun (u9 : Unit) t9 => bW D (va_A [(a, .inr (0, fs)), (b2, .inr (3, is)), (o, .inl (dA 2, 1, .inr (.inl og)))] sz) [(a, .inr (0, fs)), (b2, .inr (3, is)), (o, .inl (dA 2, 1, .inr (.inl (vp_updL og 0 0))))] t9) (va_A [(a, .inr (0, fs)), (b2, .inr (3, is)), (o, .inl (dA 2, 1, .inr (.inl og)))] sz)) 0 0 (va_A [(a, .inr (0, fs)), (b2, .inr (3, is)), (o, .inl (dA 2, 1, .inr (.inl og)))] sz) := by
  refine mkW (y := ⟨"SeriesVaultLaw", "count", "(LSeriesVault;I[J)I"⟩) (cc := method_20_code) (maxL := 4) (av := [.ref a, .int 0, .ref o]) (ws := [(a, .inr (0, fs)), (b2, .inr (3, is)), (o, .inl (dA 2, 1, .inr (.inl og)))]) (sz := sz) (Qc := fun A => va_Qi (fun (r : Int32) (_ : Unit) => r = 0) (fun (u9 : Unit) t9 => bW D A [(a, .inr (0, fs)), (b2, .inr (3, is)), (o, .inl (dA 2, 1, .inr (.inl (vp_updL og 0 0))))] t9) A) (by decide) (Nat.le_of_ble_eq_true rfl) ?_
  intro A p e s m below meth c ls hsz htab hB
  obtain ⟨hx, hb, hr, hml, hown, hin, hlk, hE, hK, hP, hD, hS, hA, hN, hl⟩ := hB
  have hown : s.vm.findClass "SeriesVaultLaw" = some m.cls := hown
  have hin : meth.name = "count" := hin
  have hl : lv_has ls 4 [(0, .ref a), (1, .int 0), (2, .ref o)] := hl
  obtain ⟨H, hH⟩ : ∃ z, z = s.heap := ⟨_, rfl⟩
  have hP : va_P D vwCl [(a, .inr (0, fs)), (b2, .inr (3, is)), (o, .inl (dA 2, 1, .inr (.inl og)))] H := by rw [hH]; exact hP
  have hS : va_S A s.heap H [] := by rw [hH]; exact hS
  rw [← hH]
  refine lv_aload_n hx hb d_SeriesVaultLaw_count_0 rfl (lv_at hl 2 rfl) ?_
  refine lv_iconst (v := 0) hx hb d_SeriesVaultLaw_count_1 (by decide) ?_
  refine lv_aload_n hx hb d_SeriesVaultLaw_count_2 rfl (lv_at hl 0 rfl) ?_
  refine lv_iload_n hx hb d_SeriesVaultLaw_count_3 rfl (lv_at hl 1 rfl) ?_
  have hPc := hP.sub (ws' := [(a, .inr (0, fs)), (b2, .inr (3, is))]) [0, 1] rfl
  have hDc := hD.sub (ws' := [(a, .inr (0, fs)), (b2, .inr (3, is))]) [0, 1] (by decide) rfl
  refine jnI (rnV (As := [.int 0]) (rest := [.int 0, .ref o]) hx hb hml hown hE hK (hN _ _ hS) hPc hDc (c_V_count_0 l D dA H.size a fs b2 is h_fs_powered h_fs_now hl_fs h_is_seriesCount hl_is) (q0 := 0) rfl rfl w703 w702 w704 w705 w277 rfl rfl ⟨⟨by decide, by decide⟩, rfl⟩ ⟨(Nat.le_of_ble_eq_true rfl), (Nat.le_of_ble_eq_true rfl)⟩ rfl hl.1 rfl (Nat.le_of_ble_eq_true rfl) d_SeriesVaultLaw_count_4 ⟨(Nat.le_of_ble_eq_true rfl), (Nat.le_of_ble_eq_true rfl)⟩) hP hD hS hA [0, 1] [2] (wr := [(o, .inl (dA 2, 1, .inr (.inl og)))]) rfl rfl (by decide) (by decide) (fun r1 u9 H locs hp9 hP hD hS => ?_)
  have hP : va_P D vwCl [(o, .inl (dA 2, 1, .inr (.inl og))), (a, .inr (0, fs)), (b2, .inr (3, is))] H := hP
  have hD : va_D A [(o, .inl (dA 2, 1, .inr (.inl og))), (a, .inr (0, fs)), (b2, .inr (3, is))] := hD
  have hp9 : 0 = r1 := Eq.symm hp9
  subst hp9
  refine lv_i2l (v := 0) hx hb d_SeriesVaultLaw_count_7 (by decide) ?_
  refine va_last hx hb hK hP hD hS 0 2 rfl rfl (by unfold vp_in; decide) d_SeriesVaultLaw_count_8 (fun H locs hP hD hS => ?_)
  have hP : va_P D vwCl [(o, .inl (dA 2, 1, .inr (.inl (vp_updL og 0 0)))), (a, .inr (0, fs)), (b2, .inr (3, is))] H := hP
  have hD : va_D A [(o, .inl (dA 2, 1, .inr (.inl (vp_updL og 0 0)))), (a, .inr (0, fs)), (b2, .inr (3, is))] := hD
  refine lv_goto hx hb d_SeriesVaultLaw_count_9 (tgt := 18) rfl ?_
  refine lv_iconst (v := 0) hx hb d_SeriesVaultLaw_count_18 (by decide) ?_
  exact rtI hx hb hr hlk hP hD hS () rfl [1, 2, 0] rfl rfl (by decide) (Nat.le_of_ble_eq_true rfl) (Nat.le_of_ble_eq_true rfl) d_SeriesVaultLaw_count_19
set_option maxHeartbeats 4000000 in
set_option maxRecDepth 100000 in
theorem c_K_count_1 (l : Launch) (htr : l.stackTraces = false) (D : va_G) (dA : Nat → ClassId) (sz : Nat) (a : Nat) (fs : List Value) (b1 : Nat) (hs : List Value) (o : Nat) (og : Nat → Int64) (h_fs_powered : fs[5]? = some (.int 1)) (h_fs_head : fs[9]? = some (.ref b1)) (hl_fs : fs.length = 18) (h_hs_size : hs[3]? = some (.int 0)) (hl_hs : hs.length = 4) : Met l ⟨"SeriesVaultLaw", "count", "(LSeriesVault;I[J)I"⟩ [Cond.codeWith ⟨"SeriesVaultLaw", "count", "(LSeriesVault;I[J)I"⟩ method_20_code 4 (some FieldType.int) [(0, 9, 12, 29), (0, 9, 15, 19)]] { frames := 3, cells := 0, slots := 0, locals := 41 } (pC D dA [.ref a, .int 1, .ref o] [(a, .inr (0, fs)), (b1, .inr (2, hs)), (o, .inl (dA 2, 1, .inr (.inl og)))] sz) (va_Qi (fun (r : Int32) (_ : Unit) => r = 0) (fun (u9 : Unit) t9 => bW D (va_A [(a, .inr (0, fs)), (b1, .inr (2, hs)), (o, .inl (dA 2, 1, .inr (.inl og)))] sz) [(a, .inr (0, fs)), (b1, .inr (2, hs)), (o, .inl (dA 2, 1, .inr (.inl (vp_updL og 0 0))))] t9) (va_A [(a, .inr (0, fs)), (b1, .inr (2, hs)), (o, .inl (dA 2, 1, .inr (.inl og)))] sz)) 0 0 (va_A [(a, .inr (0, fs)), (b1, .inr (2, hs)), (o, .inl (dA 2, 1, .inr (.inl og)))] sz) := by
  refine mkW (y := ⟨"SeriesVaultLaw", "count", "(LSeriesVault;I[J)I"⟩) (cc := method_20_code) (maxL := 4) (av := [.ref a, .int 1, .ref o]) (ws := [(a, .inr (0, fs)), (b1, .inr (2, hs)), (o, .inl (dA 2, 1, .inr (.inl og)))]) (sz := sz) (Qc := fun A => va_Qi (fun (r : Int32) (_ : Unit) => r = 0) (fun (u9 : Unit) t9 => bW D A [(a, .inr (0, fs)), (b1, .inr (2, hs)), (o, .inl (dA 2, 1, .inr (.inl (vp_updL og 0 0))))] t9) A) (by decide) (Nat.le_of_ble_eq_true rfl) ?_
  intro A p e s m below meth c ls hsz htab hB
  obtain ⟨hx, hb, hr, hml, hown, hin, hlk, hE, hK, hP, hD, hS, hA, hN, hl⟩ := hB
  have hown : s.vm.findClass "SeriesVaultLaw" = some m.cls := hown
  have hin : meth.name = "count" := hin
  have hl : lv_has ls 4 [(0, .ref a), (1, .int 1), (2, .ref o)] := hl
  obtain ⟨H, hH⟩ : ∃ z, z = s.heap := ⟨_, rfl⟩
  have hP : va_P D vwCl [(a, .inr (0, fs)), (b1, .inr (2, hs)), (o, .inl (dA 2, 1, .inr (.inl og)))] H := by rw [hH]; exact hP
  have hS : va_S A s.heap H [] := by rw [hH]; exact hS
  rw [← hH]
  refine lv_aload_n hx hb d_SeriesVaultLaw_count_0 rfl (lv_at hl 2 rfl) ?_
  refine lv_iconst (v := 0) hx hb d_SeriesVaultLaw_count_1 (by decide) ?_
  refine lv_aload_n hx hb d_SeriesVaultLaw_count_2 rfl (lv_at hl 0 rfl) ?_
  refine lv_iload_n hx hb d_SeriesVaultLaw_count_3 rfl (lv_at hl 1 rfl) ?_
  have hPc := hP.sub (ws' := [(a, .inr (0, fs)), (b1, .inr (2, hs))]) [0, 1] rfl
  have hDc := hD.sub (ws' := [(a, .inr (0, fs)), (b1, .inr (2, hs))]) [0, 1] (by decide) rfl
  refine jnI (rnV (As := [.int 1]) (rest := [.int 0, .ref o]) hx hb hml hown hE hK (hN _ _ hS) hPc hDc (c_V_count_1 l D dA H.size a fs b1 hs h_fs_powered h_fs_head hl_fs h_hs_size hl_hs) (q0 := 0) rfl rfl w703 w702 w704 w705 w277 rfl rfl ⟨⟨by decide, by decide⟩, rfl⟩ ⟨(Nat.le_of_ble_eq_true rfl), (Nat.le_of_ble_eq_true rfl)⟩ rfl hl.1 rfl (Nat.le_of_ble_eq_true rfl) d_SeriesVaultLaw_count_4 ⟨(Nat.le_of_ble_eq_true rfl), (Nat.le_of_ble_eq_true rfl)⟩) hP hD hS hA [0, 1] [2] (wr := [(o, .inl (dA 2, 1, .inr (.inl og)))]) rfl rfl (by decide) (by decide) (fun r1 u9 H locs hp9 hP hD hS => ?_)
  have hP : va_P D vwCl [(o, .inl (dA 2, 1, .inr (.inl og))), (a, .inr (0, fs)), (b1, .inr (2, hs))] H := hP
  have hD : va_D A [(o, .inl (dA 2, 1, .inr (.inl og))), (a, .inr (0, fs)), (b1, .inr (2, hs))] := hD
  have hp9 : 0 = r1 := Eq.symm hp9
  subst hp9
  refine lv_i2l (v := 0) hx hb d_SeriesVaultLaw_count_7 (by decide) ?_
  refine va_last hx hb hK hP hD hS 0 2 rfl rfl (by unfold vp_in; decide) d_SeriesVaultLaw_count_8 (fun H locs hP hD hS => ?_)
  have hP : va_P D vwCl [(o, .inl (dA 2, 1, .inr (.inl (vp_updL og 0 0)))), (a, .inr (0, fs)), (b1, .inr (2, hs))] H := hP
  have hD : va_D A [(o, .inl (dA 2, 1, .inr (.inl (vp_updL og 0 0)))), (a, .inr (0, fs)), (b1, .inr (2, hs))] := hD
  refine lv_goto hx hb d_SeriesVaultLaw_count_9 (tgt := 18) rfl ?_
  refine lv_iconst (v := 0) hx hb d_SeriesVaultLaw_count_18 (by decide) ?_
  exact rtI hx hb hr hlk hP hD hS () rfl [1, 2, 0] rfl rfl (by decide) (Nat.le_of_ble_eq_true rfl) (Nat.le_of_ble_eq_true rfl) d_SeriesVaultLaw_count_19
set_option maxHeartbeats 4000000 in
set_option maxRecDepth 100000 in
theorem c_K_count_2 (l : Launch) (htr : l.stackTraces = false) (D : va_G) (dA : Nat → ClassId) (sz : Nat) (a : Nat) (fs : List Value) (b2 : Nat) (is : List Value) (o : Nat) (og : Nat → Int64) (h_fs_powered : fs[5]? = some (.int 1)) (h_fs_now : fs[11]? = some (.ref b2)) (hl_fs : fs.length = 18) (h_is_parcelCount : is[1]? = some (.int 0)) (hl_is : is.length = 11) : Met l ⟨"SeriesVaultLaw", "count", "(LSeriesVault;I[J)I"⟩ [Cond.codeWith ⟨"SeriesVaultLaw", "count", "(LSeriesVault;I[J)I"⟩ method_20_code 4 (some FieldType.int) [(0, 9, 12, 29), (0, 9, 15, 19)]] { frames := 3, cells := 0, slots := 0, locals := 41 } (pC D dA [.ref a, .int 2, .ref o] [(a, .inr (0, fs)), (b2, .inr (3, is)), (o, .inl (dA 2, 1, .inr (.inl og)))] sz) (va_Qi (fun (r : Int32) (_ : Unit) => r = 0) (fun (u9 : Unit) t9 => bW D (va_A [(a, .inr (0, fs)), (b2, .inr (3, is)), (o, .inl (dA 2, 1, .inr (.inl og)))] sz) [(a, .inr (0, fs)), (b2, .inr (3, is)), (o, .inl (dA 2, 1, .inr (.inl (vp_updL og 0 0))))] t9) (va_A [(a, .inr (0, fs)), (b2, .inr (3, is)), (o, .inl (dA 2, 1, .inr (.inl og)))] sz)) 0 0 (va_A [(a, .inr (0, fs)), (b2, .inr (3, is)), (o, .inl (dA 2, 1, .inr (.inl og)))] sz) := by
  refine mkW (y := ⟨"SeriesVaultLaw", "count", "(LSeriesVault;I[J)I"⟩) (cc := method_20_code) (maxL := 4) (av := [.ref a, .int 2, .ref o]) (ws := [(a, .inr (0, fs)), (b2, .inr (3, is)), (o, .inl (dA 2, 1, .inr (.inl og)))]) (sz := sz) (Qc := fun A => va_Qi (fun (r : Int32) (_ : Unit) => r = 0) (fun (u9 : Unit) t9 => bW D A [(a, .inr (0, fs)), (b2, .inr (3, is)), (o, .inl (dA 2, 1, .inr (.inl (vp_updL og 0 0))))] t9) A) (by decide) (Nat.le_of_ble_eq_true rfl) ?_
  intro A p e s m below meth c ls hsz htab hB
  obtain ⟨hx, hb, hr, hml, hown, hin, hlk, hE, hK, hP, hD, hS, hA, hN, hl⟩ := hB
  have hown : s.vm.findClass "SeriesVaultLaw" = some m.cls := hown
  have hin : meth.name = "count" := hin
  have hl : lv_has ls 4 [(0, .ref a), (1, .int 2), (2, .ref o)] := hl
  obtain ⟨H, hH⟩ : ∃ z, z = s.heap := ⟨_, rfl⟩
  have hP : va_P D vwCl [(a, .inr (0, fs)), (b2, .inr (3, is)), (o, .inl (dA 2, 1, .inr (.inl og)))] H := by rw [hH]; exact hP
  have hS : va_S A s.heap H [] := by rw [hH]; exact hS
  rw [← hH]
  refine lv_aload_n hx hb d_SeriesVaultLaw_count_0 rfl (lv_at hl 2 rfl) ?_
  refine lv_iconst (v := 0) hx hb d_SeriesVaultLaw_count_1 (by decide) ?_
  refine lv_aload_n hx hb d_SeriesVaultLaw_count_2 rfl (lv_at hl 0 rfl) ?_
  refine lv_iload_n hx hb d_SeriesVaultLaw_count_3 rfl (lv_at hl 1 rfl) ?_
  have hPc := hP.sub (ws' := [(a, .inr (0, fs)), (b2, .inr (3, is))]) [0, 1] rfl
  have hDc := hD.sub (ws' := [(a, .inr (0, fs)), (b2, .inr (3, is))]) [0, 1] (by decide) rfl
  refine jnI (rnV (As := [.int 2]) (rest := [.int 0, .ref o]) hx hb hml hown hE hK (hN _ _ hS) hPc hDc (c_V_count_2 l D dA H.size a fs b2 is h_fs_powered h_fs_now hl_fs h_is_parcelCount hl_is) (q0 := 0) rfl rfl w703 w702 w704 w705 w277 rfl rfl ⟨⟨by decide, by decide⟩, rfl⟩ ⟨(Nat.le_of_ble_eq_true rfl), (Nat.le_of_ble_eq_true rfl)⟩ rfl hl.1 rfl (Nat.le_of_ble_eq_true rfl) d_SeriesVaultLaw_count_4 ⟨(Nat.le_of_ble_eq_true rfl), (Nat.le_of_ble_eq_true rfl)⟩) hP hD hS hA [0, 1] [2] (wr := [(o, .inl (dA 2, 1, .inr (.inl og)))]) rfl rfl (by decide) (by decide) (fun r1 u9 H locs hp9 hP hD hS => ?_)
  have hP : va_P D vwCl [(o, .inl (dA 2, 1, .inr (.inl og))), (a, .inr (0, fs)), (b2, .inr (3, is))] H := hP
  have hD : va_D A [(o, .inl (dA 2, 1, .inr (.inl og))), (a, .inr (0, fs)), (b2, .inr (3, is))] := hD
  have hp9 : 0 = r1 := Eq.symm hp9
  subst hp9
  refine lv_i2l (v := 0) hx hb d_SeriesVaultLaw_count_7 (by decide) ?_
  refine va_last hx hb hK hP hD hS 0 2 rfl rfl (by unfold vp_in; decide) d_SeriesVaultLaw_count_8 (fun H locs hP hD hS => ?_)
  have hP : va_P D vwCl [(o, .inl (dA 2, 1, .inr (.inl (vp_updL og 0 0)))), (a, .inr (0, fs)), (b2, .inr (3, is))] H := hP
  have hD : va_D A [(o, .inl (dA 2, 1, .inr (.inl (vp_updL og 0 0)))), (a, .inr (0, fs)), (b2, .inr (3, is))] := hD
  refine lv_goto hx hb d_SeriesVaultLaw_count_9 (tgt := 18) rfl ?_
  refine lv_iconst (v := 0) hx hb d_SeriesVaultLaw_count_18 (by decide) ?_
  exact rtI hx hb hr hlk hP hD hS () rfl [1, 2, 0] rfl rfl (by decide) (Nat.le_of_ble_eq_true rfl) (Nat.le_of_ble_eq_true rfl) d_SeriesVaultLaw_count_19
set_option maxHeartbeats 4000000 in
set_option maxRecDepth 100000 in
theorem c_K_count_3 (l : Launch) (htr : l.stackTraces = false) (D : va_G) (dA : Nat → ClassId) (sz : Nat) (a : Nat) (fs : List Value) (b2 : Nat) (is : List Value) (o : Nat) (og : Nat → Int64) (h_fs_powered : fs[5]? = some (.int 1)) (h_fs_now : fs[11]? = some (.ref b2)) (hl_fs : fs.length = 18) (h_is_scarCount : is[6]? = some (.int 0)) (hl_is : is.length = 11) : Met l ⟨"SeriesVaultLaw", "count", "(LSeriesVault;I[J)I"⟩ [Cond.codeWith ⟨"SeriesVaultLaw", "count", "(LSeriesVault;I[J)I"⟩ method_20_code 4 (some FieldType.int) [(0, 9, 12, 29), (0, 9, 15, 19)]] { frames := 3, cells := 0, slots := 0, locals := 41 } (pC D dA [.ref a, .int 3, .ref o] [(a, .inr (0, fs)), (b2, .inr (3, is)), (o, .inl (dA 2, 1, .inr (.inl og)))] sz) (va_Qi (fun (r : Int32) (_ : Unit) => r = 0) (fun (u9 : Unit) t9 => bW D (va_A [(a, .inr (0, fs)), (b2, .inr (3, is)), (o, .inl (dA 2, 1, .inr (.inl og)))] sz) [(a, .inr (0, fs)), (b2, .inr (3, is)), (o, .inl (dA 2, 1, .inr (.inl (vp_updL og 0 0))))] t9) (va_A [(a, .inr (0, fs)), (b2, .inr (3, is)), (o, .inl (dA 2, 1, .inr (.inl og)))] sz)) 0 0 (va_A [(a, .inr (0, fs)), (b2, .inr (3, is)), (o, .inl (dA 2, 1, .inr (.inl og)))] sz) := by
  refine mkW (y := ⟨"SeriesVaultLaw", "count", "(LSeriesVault;I[J)I"⟩) (cc := method_20_code) (maxL := 4) (av := [.ref a, .int 3, .ref o]) (ws := [(a, .inr (0, fs)), (b2, .inr (3, is)), (o, .inl (dA 2, 1, .inr (.inl og)))]) (sz := sz) (Qc := fun A => va_Qi (fun (r : Int32) (_ : Unit) => r = 0) (fun (u9 : Unit) t9 => bW D A [(a, .inr (0, fs)), (b2, .inr (3, is)), (o, .inl (dA 2, 1, .inr (.inl (vp_updL og 0 0))))] t9) A) (by decide) (Nat.le_of_ble_eq_true rfl) ?_
  intro A p e s m below meth c ls hsz htab hB
  obtain ⟨hx, hb, hr, hml, hown, hin, hlk, hE, hK, hP, hD, hS, hA, hN, hl⟩ := hB
  have hown : s.vm.findClass "SeriesVaultLaw" = some m.cls := hown
  have hin : meth.name = "count" := hin
  have hl : lv_has ls 4 [(0, .ref a), (1, .int 3), (2, .ref o)] := hl
  obtain ⟨H, hH⟩ : ∃ z, z = s.heap := ⟨_, rfl⟩
  have hP : va_P D vwCl [(a, .inr (0, fs)), (b2, .inr (3, is)), (o, .inl (dA 2, 1, .inr (.inl og)))] H := by rw [hH]; exact hP
  have hS : va_S A s.heap H [] := by rw [hH]; exact hS
  rw [← hH]
  refine lv_aload_n hx hb d_SeriesVaultLaw_count_0 rfl (lv_at hl 2 rfl) ?_
  refine lv_iconst (v := 0) hx hb d_SeriesVaultLaw_count_1 (by decide) ?_
  refine lv_aload_n hx hb d_SeriesVaultLaw_count_2 rfl (lv_at hl 0 rfl) ?_
  refine lv_iload_n hx hb d_SeriesVaultLaw_count_3 rfl (lv_at hl 1 rfl) ?_
  have hPc := hP.sub (ws' := [(a, .inr (0, fs)), (b2, .inr (3, is))]) [0, 1] rfl
  have hDc := hD.sub (ws' := [(a, .inr (0, fs)), (b2, .inr (3, is))]) [0, 1] (by decide) rfl
  refine jnI (rnV (As := [.int 3]) (rest := [.int 0, .ref o]) hx hb hml hown hE hK (hN _ _ hS) hPc hDc (c_V_count_3 l D dA H.size a fs b2 is h_fs_powered h_fs_now hl_fs h_is_scarCount hl_is) (q0 := 0) rfl rfl w703 w702 w704 w705 w277 rfl rfl ⟨⟨by decide, by decide⟩, rfl⟩ ⟨(Nat.le_of_ble_eq_true rfl), (Nat.le_of_ble_eq_true rfl)⟩ rfl hl.1 rfl (Nat.le_of_ble_eq_true rfl) d_SeriesVaultLaw_count_4 ⟨(Nat.le_of_ble_eq_true rfl), (Nat.le_of_ble_eq_true rfl)⟩) hP hD hS hA [0, 1] [2] (wr := [(o, .inl (dA 2, 1, .inr (.inl og)))]) rfl rfl (by decide) (by decide) (fun r1 u9 H locs hp9 hP hD hS => ?_)
  have hP : va_P D vwCl [(o, .inl (dA 2, 1, .inr (.inl og))), (a, .inr (0, fs)), (b2, .inr (3, is))] H := hP
  have hD : va_D A [(o, .inl (dA 2, 1, .inr (.inl og))), (a, .inr (0, fs)), (b2, .inr (3, is))] := hD
  have hp9 : 0 = r1 := Eq.symm hp9
  subst hp9
  refine lv_i2l (v := 0) hx hb d_SeriesVaultLaw_count_7 (by decide) ?_
  refine va_last hx hb hK hP hD hS 0 2 rfl rfl (by unfold vp_in; decide) d_SeriesVaultLaw_count_8 (fun H locs hP hD hS => ?_)
  have hP : va_P D vwCl [(o, .inl (dA 2, 1, .inr (.inl (vp_updL og 0 0)))), (a, .inr (0, fs)), (b2, .inr (3, is))] H := hP
  have hD : va_D A [(o, .inl (dA 2, 1, .inr (.inl (vp_updL og 0 0)))), (a, .inr (0, fs)), (b2, .inr (3, is))] := hD
  refine lv_goto hx hb d_SeriesVaultLaw_count_9 (tgt := 18) rfl ?_
  refine lv_iconst (v := 0) hx hb d_SeriesVaultLaw_count_18 (by decide) ?_
  exact rtI hx hb hr hlk hP hD hS () rfl [1, 2, 0] rfl rfl (by decide) (Nat.le_of_ble_eq_true rfl) (Nat.le_of_ble_eq_true rfl) d_SeriesVaultLaw_count_19
set_option maxHeartbeats 4000000 in
set_option maxRecDepth 100000 in
theorem c_K_count_4 (l : Launch) (htr : l.stackTraces = false) (D : va_G) (dA : Nat → ClassId) (sz : Nat) (a : Nat) (fs : List Value) (b : Nat) (gs : List Value) (b2 : Nat) (is : List Value) (o : Nat) (og : Nat → Int64) (h_fs_diskBlocks : fs[4]? = some (.int 64)) (h_fs_powered : fs[5]? = some (.int 1)) (h_fs_journal : fs[8]? = some (.ref b)) (h_fs_now : fs[11]? = some (.ref b2)) (hl_fs : fs.length = 18) (h_gs_blockLimit : gs[9]? = some (.int 8)) (hl_gs : gs.length = 13) (h_is_parcelCount : is[1]? = some (.int 0)) (h_is_catalogBlocks : is[10]? = some (.int 0)) (hl_is : is.length = 11) : Met l ⟨"SeriesVaultLaw", "count", "(LSeriesVault;I[J)I"⟩ [Cond.codeWith ⟨"SeriesVaultLaw", "count", "(LSeriesVault;I[J)I"⟩ method_20_code 4 (some FieldType.int) [(0, 9, 12, 29), (0, 9, 15, 19)]] { frames := 4, cells := 0, slots := 0, locals := 63 } (pC D dA [.ref a, .int 4, .ref o] [(a, .inr (0, fs)), (b, .inr (1, gs)), (b2, .inr (3, is)), (o, .inl (dA 2, 1, .inr (.inl og)))] sz) (va_Qi (fun (r : Int32) (_ : Unit) => r = 0) (fun (u9 : Unit) t9 => bW D (va_A [(a, .inr (0, fs)), (b, .inr (1, gs)), (b2, .inr (3, is)), (o, .inl (dA 2, 1, .inr (.inl og)))] sz) [(a, .inr (0, fs)), (b, .inr (1, gs)), (b2, .inr (3, is)), (o, .inl (dA 2, 1, .inr (.inl (vp_updL og 0 54))))] t9) (va_A [(a, .inr (0, fs)), (b, .inr (1, gs)), (b2, .inr (3, is)), (o, .inl (dA 2, 1, .inr (.inl og)))] sz)) 0 0 (va_A [(a, .inr (0, fs)), (b, .inr (1, gs)), (b2, .inr (3, is)), (o, .inl (dA 2, 1, .inr (.inl og)))] sz) := by
  refine mkW (y := ⟨"SeriesVaultLaw", "count", "(LSeriesVault;I[J)I"⟩) (cc := method_20_code) (maxL := 4) (av := [.ref a, .int 4, .ref o]) (ws := [(a, .inr (0, fs)), (b, .inr (1, gs)), (b2, .inr (3, is)), (o, .inl (dA 2, 1, .inr (.inl og)))]) (sz := sz) (Qc := fun A => va_Qi (fun (r : Int32) (_ : Unit) => r = 0) (fun (u9 : Unit) t9 => bW D A [(a, .inr (0, fs)), (b, .inr (1, gs)), (b2, .inr (3, is)), (o, .inl (dA 2, 1, .inr (.inl (vp_updL og 0 54))))] t9) A) (by decide) (Nat.le_of_ble_eq_true rfl) ?_
  intro A p e s m below meth c ls hsz htab hB
  obtain ⟨hx, hb, hr, hml, hown, hin, hlk, hE, hK, hP, hD, hS, hA, hN, hl⟩ := hB
  have hown : s.vm.findClass "SeriesVaultLaw" = some m.cls := hown
  have hin : meth.name = "count" := hin
  have hl : lv_has ls 4 [(0, .ref a), (1, .int 4), (2, .ref o)] := hl
  obtain ⟨H, hH⟩ : ∃ z, z = s.heap := ⟨_, rfl⟩
  have hP : va_P D vwCl [(a, .inr (0, fs)), (b, .inr (1, gs)), (b2, .inr (3, is)), (o, .inl (dA 2, 1, .inr (.inl og)))] H := by rw [hH]; exact hP
  have hS : va_S A s.heap H [] := by rw [hH]; exact hS
  rw [← hH]
  refine lv_aload_n hx hb d_SeriesVaultLaw_count_0 rfl (lv_at hl 2 rfl) ?_
  refine lv_iconst (v := 0) hx hb d_SeriesVaultLaw_count_1 (by decide) ?_
  refine lv_aload_n hx hb d_SeriesVaultLaw_count_2 rfl (lv_at hl 0 rfl) ?_
  refine lv_iload_n hx hb d_SeriesVaultLaw_count_3 rfl (lv_at hl 1 rfl) ?_
  have hPc := hP.sub (ws' := [(a, .inr (0, fs)), (b, .inr (1, gs)), (b2, .inr (3, is))]) [0, 1, 2] rfl
  have hDc := hD.sub (ws' := [(a, .inr (0, fs)), (b, .inr (1, gs)), (b2, .inr (3, is))]) [0, 1, 2] (by decide) rfl
  refine jnI (rnV (As := [.int 4]) (rest := [.int 0, .ref o]) hx hb hml hown hE hK (hN _ _ hS) hPc hDc (c_V_count_4 l D dA H.size a fs b gs b2 is h_fs_diskBlocks h_fs_powered h_fs_journal h_fs_now hl_fs h_gs_blockLimit hl_gs h_is_parcelCount h_is_catalogBlocks hl_is) (q0 := 0) rfl rfl w703 w702 w704 w705 w277 rfl rfl ⟨⟨by decide, by decide⟩, rfl⟩ ⟨(Nat.le_of_ble_eq_true rfl), (Nat.le_of_ble_eq_true rfl)⟩ rfl hl.1 rfl (Nat.le_of_ble_eq_true rfl) d_SeriesVaultLaw_count_4 ⟨(Nat.le_of_ble_eq_true rfl), (Nat.le_of_ble_eq_true rfl)⟩) hP hD hS hA [0, 1, 2] [3] (wr := [(o, .inl (dA 2, 1, .inr (.inl og)))]) rfl rfl (by decide) (by decide) (fun r1 u9 H locs hp9 hP hD hS => ?_)
  have hP : va_P D vwCl [(o, .inl (dA 2, 1, .inr (.inl og))), (a, .inr (0, fs)), (b, .inr (1, gs)), (b2, .inr (3, is))] H := hP
  have hD : va_D A [(o, .inl (dA 2, 1, .inr (.inl og))), (a, .inr (0, fs)), (b, .inr (1, gs)), (b2, .inr (3, is))] := hD
  have hp9 : 54 = r1 := Eq.symm hp9
  subst hp9
  refine lv_i2l (v := 54) hx hb d_SeriesVaultLaw_count_7 (by decide) ?_
  refine va_last hx hb hK hP hD hS 0 2 rfl rfl (by unfold vp_in; decide) d_SeriesVaultLaw_count_8 (fun H locs hP hD hS => ?_)
  have hP : va_P D vwCl [(o, .inl (dA 2, 1, .inr (.inl (vp_updL og 0 54)))), (a, .inr (0, fs)), (b, .inr (1, gs)), (b2, .inr (3, is))] H := hP
  have hD : va_D A [(o, .inl (dA 2, 1, .inr (.inl (vp_updL og 0 54)))), (a, .inr (0, fs)), (b, .inr (1, gs)), (b2, .inr (3, is))] := hD
  refine lv_goto hx hb d_SeriesVaultLaw_count_9 (tgt := 18) rfl ?_
  refine lv_iconst (v := 0) hx hb d_SeriesVaultLaw_count_18 (by decide) ?_
  exact rtI hx hb hr hlk hP hD hS () rfl [1, 2, 3, 0] rfl rfl (by decide) (Nat.le_of_ble_eq_true rfl) (Nat.le_of_ble_eq_true rfl) d_SeriesVaultLaw_count_19
set_option maxHeartbeats 4000000 in
set_option maxRecDepth 100000 in
theorem c_K_count_5 (l : Launch) (htr : l.stackTraces = false) (D : va_G) (dA : Nat → ClassId) (sz : Nat) (a : Nat) (fs : List Value) (b : Nat) (gs : List Value) (o : Nat) (og : Nat → Int64) (h_fs_powered : fs[5]? = some (.int 1)) (h_fs_journal : fs[8]? = some (.ref b)) (hl_fs : fs.length = 18) (h_gs_units : gs[8]? = some (.int 0)) (hl_gs : gs.length = 13) : Met l ⟨"SeriesVaultLaw", "count", "(LSeriesVault;I[J)I"⟩ [Cond.codeWith ⟨"SeriesVaultLaw", "count", "(LSeriesVault;I[J)I"⟩ method_20_code 4 (some FieldType.int) [(0, 9, 12, 29), (0, 9, 15, 19)]] { frames := 3, cells := 0, slots := 0, locals := 41 } (pC D dA [.ref a, .int 5, .ref o] [(a, .inr (0, fs)), (b, .inr (1, gs)), (o, .inl (dA 2, 1, .inr (.inl og)))] sz) (va_Qi (fun (r : Int32) (_ : Unit) => r = 0) (fun (u9 : Unit) t9 => bW D (va_A [(a, .inr (0, fs)), (b, .inr (1, gs)), (o, .inl (dA 2, 1, .inr (.inl og)))] sz) [(a, .inr (0, fs)), (b, .inr (1, gs)), (o, .inl (dA 2, 1, .inr (.inl (vp_updL og 0 0))))] t9) (va_A [(a, .inr (0, fs)), (b, .inr (1, gs)), (o, .inl (dA 2, 1, .inr (.inl og)))] sz)) 0 0 (va_A [(a, .inr (0, fs)), (b, .inr (1, gs)), (o, .inl (dA 2, 1, .inr (.inl og)))] sz) := by
  refine mkW (y := ⟨"SeriesVaultLaw", "count", "(LSeriesVault;I[J)I"⟩) (cc := method_20_code) (maxL := 4) (av := [.ref a, .int 5, .ref o]) (ws := [(a, .inr (0, fs)), (b, .inr (1, gs)), (o, .inl (dA 2, 1, .inr (.inl og)))]) (sz := sz) (Qc := fun A => va_Qi (fun (r : Int32) (_ : Unit) => r = 0) (fun (u9 : Unit) t9 => bW D A [(a, .inr (0, fs)), (b, .inr (1, gs)), (o, .inl (dA 2, 1, .inr (.inl (vp_updL og 0 0))))] t9) A) (by decide) (Nat.le_of_ble_eq_true rfl) ?_
  intro A p e s m below meth c ls hsz htab hB
  obtain ⟨hx, hb, hr, hml, hown, hin, hlk, hE, hK, hP, hD, hS, hA, hN, hl⟩ := hB
  have hown : s.vm.findClass "SeriesVaultLaw" = some m.cls := hown
  have hin : meth.name = "count" := hin
  have hl : lv_has ls 4 [(0, .ref a), (1, .int 5), (2, .ref o)] := hl
  obtain ⟨H, hH⟩ : ∃ z, z = s.heap := ⟨_, rfl⟩
  have hP : va_P D vwCl [(a, .inr (0, fs)), (b, .inr (1, gs)), (o, .inl (dA 2, 1, .inr (.inl og)))] H := by rw [hH]; exact hP
  have hS : va_S A s.heap H [] := by rw [hH]; exact hS
  rw [← hH]
  refine lv_aload_n hx hb d_SeriesVaultLaw_count_0 rfl (lv_at hl 2 rfl) ?_
  refine lv_iconst (v := 0) hx hb d_SeriesVaultLaw_count_1 (by decide) ?_
  refine lv_aload_n hx hb d_SeriesVaultLaw_count_2 rfl (lv_at hl 0 rfl) ?_
  refine lv_iload_n hx hb d_SeriesVaultLaw_count_3 rfl (lv_at hl 1 rfl) ?_
  have hPc := hP.sub (ws' := [(a, .inr (0, fs)), (b, .inr (1, gs))]) [0, 1] rfl
  have hDc := hD.sub (ws' := [(a, .inr (0, fs)), (b, .inr (1, gs))]) [0, 1] (by decide) rfl
  refine jnI (rnV (As := [.int 5]) (rest := [.int 0, .ref o]) hx hb hml hown hE hK (hN _ _ hS) hPc hDc (c_V_count_5 l D dA H.size a fs b gs h_fs_powered h_fs_journal hl_fs h_gs_units hl_gs) (q0 := 0) rfl rfl w703 w702 w704 w705 w277 rfl rfl ⟨⟨by decide, by decide⟩, rfl⟩ ⟨(Nat.le_of_ble_eq_true rfl), (Nat.le_of_ble_eq_true rfl)⟩ rfl hl.1 rfl (Nat.le_of_ble_eq_true rfl) d_SeriesVaultLaw_count_4 ⟨(Nat.le_of_ble_eq_true rfl), (Nat.le_of_ble_eq_true rfl)⟩) hP hD hS hA [0, 1] [2] (wr := [(o, .inl (dA 2, 1, .inr (.inl og)))]) rfl rfl (by decide) (by decide) (fun r1 u9 H locs hp9 hP hD hS => ?_)
  have hP : va_P D vwCl [(o, .inl (dA 2, 1, .inr (.inl og))), (a, .inr (0, fs)), (b, .inr (1, gs))] H := hP
  have hD : va_D A [(o, .inl (dA 2, 1, .inr (.inl og))), (a, .inr (0, fs)), (b, .inr (1, gs))] := hD
  have hp9 : 0 = r1 := Eq.symm hp9
  subst hp9
  refine lv_i2l (v := 0) hx hb d_SeriesVaultLaw_count_7 (by decide) ?_
  refine va_last hx hb hK hP hD hS 0 2 rfl rfl (by unfold vp_in; decide) d_SeriesVaultLaw_count_8 (fun H locs hP hD hS => ?_)
  have hP : va_P D vwCl [(o, .inl (dA 2, 1, .inr (.inl (vp_updL og 0 0)))), (a, .inr (0, fs)), (b, .inr (1, gs))] H := hP
  have hD : va_D A [(o, .inl (dA 2, 1, .inr (.inl (vp_updL og 0 0)))), (a, .inr (0, fs)), (b, .inr (1, gs))] := hD
  refine lv_goto hx hb d_SeriesVaultLaw_count_9 (tgt := 18) rfl ?_
  refine lv_iconst (v := 0) hx hb d_SeriesVaultLaw_count_18 (by decide) ?_
  exact rtI hx hb hr hlk hP hD hS () rfl [1, 2, 0] rfl rfl (by decide) (Nat.le_of_ble_eq_true rfl) (Nat.le_of_ble_eq_true rfl) d_SeriesVaultLaw_count_19
set_option maxHeartbeats 4000000 in
set_option maxRecDepth 100000 in
theorem c_K_count_6 (l : Launch) (htr : l.stackTraces = false) (D : va_G) (dA : Nat → ClassId) (sz : Nat) (a : Nat) (fs : List Value) (b : Nat) (gs : List Value) (o : Nat) (og : Nat → Int64) (h_fs_powered : fs[5]? = some (.int 1)) (h_fs_journal : fs[8]? = some (.ref b)) (hl_fs : fs.length = 18) (h_gs_size : gs[6]? = some (.int 0)) (hl_gs : gs.length = 13) : Met l ⟨"SeriesVaultLaw", "count", "(LSeriesVault;I[J)I"⟩ [Cond.codeWith ⟨"SeriesVaultLaw", "count", "(LSeriesVault;I[J)I"⟩ method_20_code 4 (some FieldType.int) [(0, 9, 12, 29), (0, 9, 15, 19)]] { frames := 3, cells := 0, slots := 0, locals := 41 } (pC D dA [.ref a, .int 6, .ref o] [(a, .inr (0, fs)), (b, .inr (1, gs)), (o, .inl (dA 2, 1, .inr (.inl og)))] sz) (va_Qi (fun (r : Int32) (_ : Unit) => r = 0) (fun (u9 : Unit) t9 => bW D (va_A [(a, .inr (0, fs)), (b, .inr (1, gs)), (o, .inl (dA 2, 1, .inr (.inl og)))] sz) [(a, .inr (0, fs)), (b, .inr (1, gs)), (o, .inl (dA 2, 1, .inr (.inl (vp_updL og 0 0))))] t9) (va_A [(a, .inr (0, fs)), (b, .inr (1, gs)), (o, .inl (dA 2, 1, .inr (.inl og)))] sz)) 0 0 (va_A [(a, .inr (0, fs)), (b, .inr (1, gs)), (o, .inl (dA 2, 1, .inr (.inl og)))] sz) := by
  refine mkW (y := ⟨"SeriesVaultLaw", "count", "(LSeriesVault;I[J)I"⟩) (cc := method_20_code) (maxL := 4) (av := [.ref a, .int 6, .ref o]) (ws := [(a, .inr (0, fs)), (b, .inr (1, gs)), (o, .inl (dA 2, 1, .inr (.inl og)))]) (sz := sz) (Qc := fun A => va_Qi (fun (r : Int32) (_ : Unit) => r = 0) (fun (u9 : Unit) t9 => bW D A [(a, .inr (0, fs)), (b, .inr (1, gs)), (o, .inl (dA 2, 1, .inr (.inl (vp_updL og 0 0))))] t9) A) (by decide) (Nat.le_of_ble_eq_true rfl) ?_
  intro A p e s m below meth c ls hsz htab hB
  obtain ⟨hx, hb, hr, hml, hown, hin, hlk, hE, hK, hP, hD, hS, hA, hN, hl⟩ := hB
  have hown : s.vm.findClass "SeriesVaultLaw" = some m.cls := hown
  have hin : meth.name = "count" := hin
  have hl : lv_has ls 4 [(0, .ref a), (1, .int 6), (2, .ref o)] := hl
  obtain ⟨H, hH⟩ : ∃ z, z = s.heap := ⟨_, rfl⟩
  have hP : va_P D vwCl [(a, .inr (0, fs)), (b, .inr (1, gs)), (o, .inl (dA 2, 1, .inr (.inl og)))] H := by rw [hH]; exact hP
  have hS : va_S A s.heap H [] := by rw [hH]; exact hS
  rw [← hH]
  refine lv_aload_n hx hb d_SeriesVaultLaw_count_0 rfl (lv_at hl 2 rfl) ?_
  refine lv_iconst (v := 0) hx hb d_SeriesVaultLaw_count_1 (by decide) ?_
  refine lv_aload_n hx hb d_SeriesVaultLaw_count_2 rfl (lv_at hl 0 rfl) ?_
  refine lv_iload_n hx hb d_SeriesVaultLaw_count_3 rfl (lv_at hl 1 rfl) ?_
  have hPc := hP.sub (ws' := [(a, .inr (0, fs)), (b, .inr (1, gs))]) [0, 1] rfl
  have hDc := hD.sub (ws' := [(a, .inr (0, fs)), (b, .inr (1, gs))]) [0, 1] (by decide) rfl
  refine jnI (rnV (As := [.int 6]) (rest := [.int 0, .ref o]) hx hb hml hown hE hK (hN _ _ hS) hPc hDc (c_V_count_6 l D dA H.size a fs b gs h_fs_powered h_fs_journal hl_fs h_gs_size hl_gs) (q0 := 0) rfl rfl w703 w702 w704 w705 w277 rfl rfl ⟨⟨by decide, by decide⟩, rfl⟩ ⟨(Nat.le_of_ble_eq_true rfl), (Nat.le_of_ble_eq_true rfl)⟩ rfl hl.1 rfl (Nat.le_of_ble_eq_true rfl) d_SeriesVaultLaw_count_4 ⟨(Nat.le_of_ble_eq_true rfl), (Nat.le_of_ble_eq_true rfl)⟩) hP hD hS hA [0, 1] [2] (wr := [(o, .inl (dA 2, 1, .inr (.inl og)))]) rfl rfl (by decide) (by decide) (fun r1 u9 H locs hp9 hP hD hS => ?_)
  have hP : va_P D vwCl [(o, .inl (dA 2, 1, .inr (.inl og))), (a, .inr (0, fs)), (b, .inr (1, gs))] H := hP
  have hD : va_D A [(o, .inl (dA 2, 1, .inr (.inl og))), (a, .inr (0, fs)), (b, .inr (1, gs))] := hD
  have hp9 : 0 = r1 := Eq.symm hp9
  subst hp9
  refine lv_i2l (v := 0) hx hb d_SeriesVaultLaw_count_7 (by decide) ?_
  refine va_last hx hb hK hP hD hS 0 2 rfl rfl (by unfold vp_in; decide) d_SeriesVaultLaw_count_8 (fun H locs hP hD hS => ?_)
  have hP : va_P D vwCl [(o, .inl (dA 2, 1, .inr (.inl (vp_updL og 0 0)))), (a, .inr (0, fs)), (b, .inr (1, gs))] H := hP
  have hD : va_D A [(o, .inl (dA 2, 1, .inr (.inl (vp_updL og 0 0)))), (a, .inr (0, fs)), (b, .inr (1, gs))] := hD
  refine lv_goto hx hb d_SeriesVaultLaw_count_9 (tgt := 18) rfl ?_
  refine lv_iconst (v := 0) hx hb d_SeriesVaultLaw_count_18 (by decide) ?_
  exact rtI hx hb hr hlk hP hD hS () rfl [1, 2, 0] rfl rfl (by decide) (Nat.le_of_ble_eq_true rfl) (Nat.le_of_ble_eq_true rfl) d_SeriesVaultLaw_count_19
set_option maxHeartbeats 4000000 in
set_option maxRecDepth 100000 in
theorem c_K_count_7 (l : Launch) (htr : l.stackTraces = false) (D : va_G) (dA : Nat → ClassId) (sz : Nat) (a : Nat) (fs : List Value) (b : Nat) (gs : List Value) (o : Nat) (og : Nat → Int64) (h_fs_powered : fs[5]? = some (.int 1)) (h_fs_journal : fs[8]? = some (.ref b)) (hl_fs : fs.length = 18) (h_gs_kept : gs[7]? = some (.int 0)) (hl_gs : gs.length = 13) : Met l ⟨"SeriesVaultLaw", "count", "(LSeriesVault;I[J)I"⟩ [Cond.codeWith ⟨"SeriesVaultLaw", "count", "(LSeriesVault;I[J)I"⟩ method_20_code 4 (some FieldType.int) [(0, 9, 12, 29), (0, 9, 15, 19)]] { frames := 3, cells := 0, slots := 0, locals := 41 } (pC D dA [.ref a, .int 7, .ref o] [(a, .inr (0, fs)), (b, .inr (1, gs)), (o, .inl (dA 2, 1, .inr (.inl og)))] sz) (va_Qi (fun (r : Int32) (_ : Unit) => r = 0) (fun (u9 : Unit) t9 => bW D (va_A [(a, .inr (0, fs)), (b, .inr (1, gs)), (o, .inl (dA 2, 1, .inr (.inl og)))] sz) [(a, .inr (0, fs)), (b, .inr (1, gs)), (o, .inl (dA 2, 1, .inr (.inl (vp_updL og 0 0))))] t9) (va_A [(a, .inr (0, fs)), (b, .inr (1, gs)), (o, .inl (dA 2, 1, .inr (.inl og)))] sz)) 0 0 (va_A [(a, .inr (0, fs)), (b, .inr (1, gs)), (o, .inl (dA 2, 1, .inr (.inl og)))] sz) := by
  refine mkW (y := ⟨"SeriesVaultLaw", "count", "(LSeriesVault;I[J)I"⟩) (cc := method_20_code) (maxL := 4) (av := [.ref a, .int 7, .ref o]) (ws := [(a, .inr (0, fs)), (b, .inr (1, gs)), (o, .inl (dA 2, 1, .inr (.inl og)))]) (sz := sz) (Qc := fun A => va_Qi (fun (r : Int32) (_ : Unit) => r = 0) (fun (u9 : Unit) t9 => bW D A [(a, .inr (0, fs)), (b, .inr (1, gs)), (o, .inl (dA 2, 1, .inr (.inl (vp_updL og 0 0))))] t9) A) (by decide) (Nat.le_of_ble_eq_true rfl) ?_
  intro A p e s m below meth c ls hsz htab hB
  obtain ⟨hx, hb, hr, hml, hown, hin, hlk, hE, hK, hP, hD, hS, hA, hN, hl⟩ := hB
  have hown : s.vm.findClass "SeriesVaultLaw" = some m.cls := hown
  have hin : meth.name = "count" := hin
  have hl : lv_has ls 4 [(0, .ref a), (1, .int 7), (2, .ref o)] := hl
  obtain ⟨H, hH⟩ : ∃ z, z = s.heap := ⟨_, rfl⟩
  have hP : va_P D vwCl [(a, .inr (0, fs)), (b, .inr (1, gs)), (o, .inl (dA 2, 1, .inr (.inl og)))] H := by rw [hH]; exact hP
  have hS : va_S A s.heap H [] := by rw [hH]; exact hS
  rw [← hH]
  refine lv_aload_n hx hb d_SeriesVaultLaw_count_0 rfl (lv_at hl 2 rfl) ?_
  refine lv_iconst (v := 0) hx hb d_SeriesVaultLaw_count_1 (by decide) ?_
  refine lv_aload_n hx hb d_SeriesVaultLaw_count_2 rfl (lv_at hl 0 rfl) ?_
  refine lv_iload_n hx hb d_SeriesVaultLaw_count_3 rfl (lv_at hl 1 rfl) ?_
  have hPc := hP.sub (ws' := [(a, .inr (0, fs)), (b, .inr (1, gs))]) [0, 1] rfl
  have hDc := hD.sub (ws' := [(a, .inr (0, fs)), (b, .inr (1, gs))]) [0, 1] (by decide) rfl
  refine jnI (rnV (As := [.int 7]) (rest := [.int 0, .ref o]) hx hb hml hown hE hK (hN _ _ hS) hPc hDc (c_V_count_7 l D dA H.size a fs b gs h_fs_powered h_fs_journal hl_fs h_gs_kept hl_gs) (q0 := 0) rfl rfl w703 w702 w704 w705 w277 rfl rfl ⟨⟨by decide, by decide⟩, rfl⟩ ⟨(Nat.le_of_ble_eq_true rfl), (Nat.le_of_ble_eq_true rfl)⟩ rfl hl.1 rfl (Nat.le_of_ble_eq_true rfl) d_SeriesVaultLaw_count_4 ⟨(Nat.le_of_ble_eq_true rfl), (Nat.le_of_ble_eq_true rfl)⟩) hP hD hS hA [0, 1] [2] (wr := [(o, .inl (dA 2, 1, .inr (.inl og)))]) rfl rfl (by decide) (by decide) (fun r1 u9 H locs hp9 hP hD hS => ?_)
  have hP : va_P D vwCl [(o, .inl (dA 2, 1, .inr (.inl og))), (a, .inr (0, fs)), (b, .inr (1, gs))] H := hP
  have hD : va_D A [(o, .inl (dA 2, 1, .inr (.inl og))), (a, .inr (0, fs)), (b, .inr (1, gs))] := hD
  have hp9 : 0 = r1 := Eq.symm hp9
  subst hp9
  refine lv_i2l (v := 0) hx hb d_SeriesVaultLaw_count_7 (by decide) ?_
  refine va_last hx hb hK hP hD hS 0 2 rfl rfl (by unfold vp_in; decide) d_SeriesVaultLaw_count_8 (fun H locs hP hD hS => ?_)
  have hP : va_P D vwCl [(o, .inl (dA 2, 1, .inr (.inl (vp_updL og 0 0)))), (a, .inr (0, fs)), (b, .inr (1, gs))] H := hP
  have hD : va_D A [(o, .inl (dA 2, 1, .inr (.inl (vp_updL og 0 0)))), (a, .inr (0, fs)), (b, .inr (1, gs))] := hD
  refine lv_goto hx hb d_SeriesVaultLaw_count_9 (tgt := 18) rfl ?_
  refine lv_iconst (v := 0) hx hb d_SeriesVaultLaw_count_18 (by decide) ?_
  exact rtI hx hb hr hlk hP hD hS () rfl [1, 2, 0] rfl rfl (by decide) (Nat.le_of_ble_eq_true rfl) (Nat.le_of_ble_eq_true rfl) d_SeriesVaultLaw_count_19
set_option maxHeartbeats 4000000 in
set_option maxRecDepth 100000 in
theorem c_K_count_8 (l : Launch) (htr : l.stackTraces = false) (D : va_G) (dA : Nat → ClassId) (sz : Nat) (a : Nat) (fs : List Value) (b1 : Nat) (hs : List Value) (b2 : Nat) (is : List Value) (o : Nat) (og : Nat → Int64) (h_fs_powered : fs[5]? = some (.int 1)) (h_fs_head : fs[9]? = some (.ref b1)) (h_fs_now : fs[11]? = some (.ref b2)) (hl_fs : fs.length = 18) (h_hs_size : hs[3]? = some (.int 0)) (hl_hs : hs.length = 4) (h_is_parcelCount : is[1]? = some (.int 0)) (hl_is : is.length = 11) : Met l ⟨"SeriesVaultLaw", "count", "(LSeriesVault;I[J)I"⟩ [Cond.codeWith ⟨"SeriesVaultLaw", "count", "(LSeriesVault;I[J)I"⟩ method_20_code 4 (some FieldType.int) [(0, 9, 12, 29), (0, 9, 15, 19)]] { frames := 4, cells := 0, slots := 0, locals := 65 } (pC D dA [.ref a, .int 8, .ref o] [(a, .inr (0, fs)), (b1, .inr (2, hs)), (b2, .inr (3, is)), (o, .inl (dA 2, 1, .inr (.inl og)))] sz) (va_Qi (fun (r : Int32) (_ : Unit) => r = 0) (fun (u9 : Unit) t9 => bW D (va_A [(a, .inr (0, fs)), (b1, .inr (2, hs)), (b2, .inr (3, is)), (o, .inl (dA 2, 1, .inr (.inl og)))] sz) [(a, .inr (0, fs)), (b1, .inr (2, hs)), (b2, .inr (3, is)), (o, .inl (dA 2, 1, .inr (.inl (vp_updL og 0 0))))] t9) (va_A [(a, .inr (0, fs)), (b1, .inr (2, hs)), (b2, .inr (3, is)), (o, .inl (dA 2, 1, .inr (.inl og)))] sz)) 0 0 (va_A [(a, .inr (0, fs)), (b1, .inr (2, hs)), (b2, .inr (3, is)), (o, .inl (dA 2, 1, .inr (.inl og)))] sz) := by
  refine mkW (y := ⟨"SeriesVaultLaw", "count", "(LSeriesVault;I[J)I"⟩) (cc := method_20_code) (maxL := 4) (av := [.ref a, .int 8, .ref o]) (ws := [(a, .inr (0, fs)), (b1, .inr (2, hs)), (b2, .inr (3, is)), (o, .inl (dA 2, 1, .inr (.inl og)))]) (sz := sz) (Qc := fun A => va_Qi (fun (r : Int32) (_ : Unit) => r = 0) (fun (u9 : Unit) t9 => bW D A [(a, .inr (0, fs)), (b1, .inr (2, hs)), (b2, .inr (3, is)), (o, .inl (dA 2, 1, .inr (.inl (vp_updL og 0 0))))] t9) A) (by decide) (Nat.le_of_ble_eq_true rfl) ?_
  intro A p e s m below meth c ls hsz htab hB
  obtain ⟨hx, hb, hr, hml, hown, hin, hlk, hE, hK, hP, hD, hS, hA, hN, hl⟩ := hB
  have hown : s.vm.findClass "SeriesVaultLaw" = some m.cls := hown
  have hin : meth.name = "count" := hin
  have hl : lv_has ls 4 [(0, .ref a), (1, .int 8), (2, .ref o)] := hl
  obtain ⟨H, hH⟩ : ∃ z, z = s.heap := ⟨_, rfl⟩
  have hP : va_P D vwCl [(a, .inr (0, fs)), (b1, .inr (2, hs)), (b2, .inr (3, is)), (o, .inl (dA 2, 1, .inr (.inl og)))] H := by rw [hH]; exact hP
  have hS : va_S A s.heap H [] := by rw [hH]; exact hS
  rw [← hH]
  refine lv_aload_n hx hb d_SeriesVaultLaw_count_0 rfl (lv_at hl 2 rfl) ?_
  refine lv_iconst (v := 0) hx hb d_SeriesVaultLaw_count_1 (by decide) ?_
  refine lv_aload_n hx hb d_SeriesVaultLaw_count_2 rfl (lv_at hl 0 rfl) ?_
  refine lv_iload_n hx hb d_SeriesVaultLaw_count_3 rfl (lv_at hl 1 rfl) ?_
  have hPc := hP.sub (ws' := [(a, .inr (0, fs)), (b1, .inr (2, hs)), (b2, .inr (3, is))]) [0, 1, 2] rfl
  have hDc := hD.sub (ws' := [(a, .inr (0, fs)), (b1, .inr (2, hs)), (b2, .inr (3, is))]) [0, 1, 2] (by decide) rfl
  refine jnI (rnV (As := [.int 8]) (rest := [.int 0, .ref o]) hx hb hml hown hE hK (hN _ _ hS) hPc hDc (c_V_count_8 l D dA H.size a fs b1 hs b2 is h_fs_powered h_fs_head h_fs_now hl_fs h_hs_size hl_hs h_is_parcelCount hl_is) (q0 := 0) rfl rfl w703 w702 w704 w705 w277 rfl rfl ⟨⟨by decide, by decide⟩, rfl⟩ ⟨(Nat.le_of_ble_eq_true rfl), (Nat.le_of_ble_eq_true rfl)⟩ rfl hl.1 rfl (Nat.le_of_ble_eq_true rfl) d_SeriesVaultLaw_count_4 ⟨(Nat.le_of_ble_eq_true rfl), (Nat.le_of_ble_eq_true rfl)⟩) hP hD hS hA [0, 1, 2] [3] (wr := [(o, .inl (dA 2, 1, .inr (.inl og)))]) rfl rfl (by decide) (by decide) (fun r1 u9 H locs hp9 hP hD hS => ?_)
  have hP : va_P D vwCl [(o, .inl (dA 2, 1, .inr (.inl og))), (a, .inr (0, fs)), (b1, .inr (2, hs)), (b2, .inr (3, is))] H := hP
  have hD : va_D A [(o, .inl (dA 2, 1, .inr (.inl og))), (a, .inr (0, fs)), (b1, .inr (2, hs)), (b2, .inr (3, is))] := hD
  have hp9 : 0 = r1 := Eq.symm hp9
  subst hp9
  refine lv_i2l (v := 0) hx hb d_SeriesVaultLaw_count_7 (by decide) ?_
  refine va_last hx hb hK hP hD hS 0 2 rfl rfl (by unfold vp_in; decide) d_SeriesVaultLaw_count_8 (fun H locs hP hD hS => ?_)
  have hP : va_P D vwCl [(o, .inl (dA 2, 1, .inr (.inl (vp_updL og 0 0)))), (a, .inr (0, fs)), (b1, .inr (2, hs)), (b2, .inr (3, is))] H := hP
  have hD : va_D A [(o, .inl (dA 2, 1, .inr (.inl (vp_updL og 0 0)))), (a, .inr (0, fs)), (b1, .inr (2, hs)), (b2, .inr (3, is))] := hD
  refine lv_goto hx hb d_SeriesVaultLaw_count_9 (tgt := 18) rfl ?_
  refine lv_iconst (v := 0) hx hb d_SeriesVaultLaw_count_18 (by decide) ?_
  exact rtI hx hb hr hlk hP hD hS () rfl [1, 2, 3, 0] rfl rfl (by decide) (Nat.le_of_ble_eq_true rfl) (Nat.le_of_ble_eq_true rfl) d_SeriesVaultLaw_count_19
theorem d_SeriesVaultLaw_count_15 : decode method_20_code 15 = .ok (.astore_n 3, 1) := by decide +kernel
theorem d_SeriesVaultLaw_count_16 : decode method_20_code 16 = .ok (.iconst 2, 1) := by decide +kernel
theorem d_SeriesVaultLaw_count_17 : decode method_20_code 17 = .ok (.ireturn, 1) := by decide +kernel
set_option maxHeartbeats 4000000 in
set_option maxRecDepth 100000 in
theorem c_K_count_x (l : Launch) (htr : l.stackTraces = false) (D : va_G) (dA : Nat → ClassId) (sz : Nat) (a : Nat) (fs : List Value) (n : Int32) (o : Nat) (og : Nat → Int64) (h0 : n < 0 ∨ 8 < n) (h_fs_powered : fs[5]? = some (.int 1)) (hl_fs : fs.length = 18) : Met l ⟨"SeriesVaultLaw", "count", "(LSeriesVault;I[J)I"⟩ [Cond.codeWith ⟨"SeriesVaultLaw", "count", "(LSeriesVault;I[J)I"⟩ method_20_code 4 (some FieldType.int) [(0, 9, 12, 29), (0, 9, 15, 19)]] { frames := 7, cells := 1, slots := 6, locals := 102 } (pC D dA [.ref a, .int n, .ref o] [(a, .inr (0, fs)), (o, .inl (dA 2, 1, .inr (.inl og)))] sz) (va_Qi (fun (r : Int32) (_ : Unit) => r = 2) (fun (u9 : Unit) t9 => bW D (va_A [(a, .inr (0, fs)), (o, .inl (dA 2, 1, .inr (.inl og)))] sz) [(a, .inr (0, fs)), (o, .inl (dA 2, 1, .inr (.inl og)))] t9) (va_A [(a, .inr (0, fs)), (o, .inl (dA 2, 1, .inr (.inl og)))] sz)) 1 6 (va_A [(a, .inr (0, fs)), (o, .inl (dA 2, 1, .inr (.inl og)))] sz) := by
  refine mkW (y := ⟨"SeriesVaultLaw", "count", "(LSeriesVault;I[J)I"⟩) (cc := method_20_code) (maxL := 4) (av := [.ref a, .int n, .ref o]) (ws := [(a, .inr (0, fs)), (o, .inl (dA 2, 1, .inr (.inl og)))]) (sz := sz) (Qc := fun A => va_Qi (fun (r : Int32) (_ : Unit) => r = 2) (fun (u9 : Unit) t9 => bW D A [(a, .inr (0, fs)), (o, .inl (dA 2, 1, .inr (.inl og)))] t9) A) (by decide) (Nat.le_of_ble_eq_true rfl) ?_
  intro A p e s m below meth c ls hsz htab hB
  obtain ⟨hx, hb, hr, hml, hown, hin, hlk, hE, hK, hP, hD, hS, hA, hN, hl⟩ := hB
  have hown : s.vm.findClass "SeriesVaultLaw" = some m.cls := hown
  have hin : meth.name = "count" := hin
  have hl : lv_has ls 4 [(0, .ref a), (1, .int n), (2, .ref o)] := hl
  obtain ⟨H, hH⟩ : ∃ z, z = s.heap := ⟨_, rfl⟩
  have hP : va_P D vwCl [(a, .inr (0, fs)), (o, .inl (dA 2, 1, .inr (.inl og)))] H := by rw [hH]; exact hP
  have hS : va_S A s.heap H [] := by rw [hH]; exact hS
  rw [← hH]
  refine lv_aload_n hx hb d_SeriesVaultLaw_count_0 rfl (lv_at hl 2 rfl) ?_
  refine lv_iconst (v := 0) hx hb d_SeriesVaultLaw_count_1 (by decide) ?_
  refine lv_aload_n hx hb d_SeriesVaultLaw_count_2 rfl (lv_at hl 0 rfl) ?_
  refine lv_iload_n hx hb d_SeriesVaultLaw_count_3 rfl (lv_at hl 1 rfl) ?_
  have hPc := hP.sub (ws' := [(a, .inr (0, fs))]) [0] rfl
  have hDc := hD.sub (ws' := [(a, .inr (0, fs))]) [0] (by decide) rfl
  refine xnV (As := [.int n]) (rest := [.int 0, .ref o]) hx hb hml hown hE hK (hN _ _ hS) hPc hDc (c_V_count_x l htr D dA H.size a fs n h0 h_fs_powered hl_fs) (q0 := 0) rfl rfl w703 w702 w704 w705 w277 rfl rfl ⟨⟨by decide, by decide⟩, rfl⟩ ⟨(Nat.le_of_ble_eq_true rfl), (Nat.le_of_ble_eq_true rfl)⟩ rfl hl.1 rfl (Nat.le_of_ble_eq_true rfl) d_SeriesVaultLaw_count_4 ⟨(Nat.le_of_ble_eq_true rfl), (Nat.le_of_ble_eq_true rfl)⟩ hP hD hS hA [0] [1] (wr := [(o, .inl (dA 2, 1, .inr (.inl og)))]) rfl rfl (by decide) (by decide) (fun x1 ce H locs hP hD hS hce hcv hcl => ?_)
  have hP : va_P D vwCl [(o, .inl (dA 2, 1, .inr (.inl og))), (a, .inr (0, fs))] H := hP
  have hD : va_D A [(o, .inl (dA 2, 1, .inr (.inl og))), (a, .inr (0, fs))] := hD
  refine xCatch (E := "java/lang/IllegalArgumentException") hown hE [⟨0, 9, 12, 29⟩] ⟨0, 9, 15, 19⟩ [] htab (List.forall_mem_cons.mpr ⟨⟨by decide, "java/lang/IllegalStateException", w363, by decide⟩, fun _ h => absurd h List.not_mem_nil⟩) (by decide) (by decide) w349 w267 hce hcv hcl ?_
  refine lv_astore_n hx hb d_SeriesVaultLaw_count_15 rfl hl (by decide) rfl (fun ls hl => ?_)
  have hl : lv_has ls 4 [(3, .ref x1), (0, .ref a), (1, .int n), (2, .ref o)] := hl
  refine lv_iconst (v := 2) hx hb d_SeriesVaultLaw_count_16 (by decide) ?_
  exact rtI hx hb hr hlk hP hD hS () rfl [1, 0] rfl rfl (by decide) (Nat.le_of_ble_eq_true rfl) (Nat.le_of_ble_eq_true rfl) d_SeriesVaultLaw_count_17
theorem d_SeriesVaultLaw_ask_0 : decode method_16_code 0 = .ok (.aload 6, 2) := by decide +kernel
theorem d_SeriesVaultLaw_ask_2 : decode method_16_code 2 = .ok (.iconst 0, 1) := by decide +kernel
theorem d_SeriesVaultLaw_ask_3 : decode method_16_code 3 = .ok (.aload_n 0, 1) := by decide +kernel
theorem d_SeriesVaultLaw_ask_4 : decode method_16_code 4 = .ok (.lload_n 1, 1) := by decide +kernel
theorem d_SeriesVaultLaw_ask_5 : decode method_16_code 5 = .ok (.lload_n 3, 1) := by decide +kernel
theorem d_SeriesVaultLaw_ask_6 : decode method_16_code 6 = .ok (.iload 5, 2) := by decide +kernel
theorem d_SeriesVaultLaw_ask_8 : decode method_16_code 8 = .ok (.invokevirtual 65, 3) := by decide +kernel
theorem d_SeriesVaultLaw_ask_11 : decode method_16_code 11 = .ok (.i2l, 1) := by decide +kernel
theorem d_SeriesVaultLaw_ask_12 : decode method_16_code 12 = .ok (.lastore, 1) := by decide +kernel
theorem d_SeriesVaultLaw_ask_13 : decode method_16_code 13 = .ok (.goto 11, 3) := by decide +kernel
theorem d_SeriesVaultLaw_ask_24 : decode method_16_code 24 = .ok (.iconst 0, 1) := by decide +kernel
theorem d_SeriesVaultLaw_ask_25 : decode method_16_code 25 = .ok (.ireturn, 1) := by decide +kernel
theorem w706 : Cond.methodLink "SeriesVaultLaw" 65 ⟨"SeriesVault", "ask", "(JJI)I"⟩ ∈ aW := aw_of (tb_6 (List.mem_of_getElem? (i := 177) rfl)) rfl
theorem w707 : Cond.code ⟨"SeriesVault", "ask", "(JJI)I"⟩ prog_1_method_45_code 8 (some FieldType.int) ∈ aW := aw_of (tb_6 (List.mem_of_getElem? (i := 180) rfl)) rfl
theorem w708 : Cond.instanceMethod ⟨"SeriesVault", "ask", "(JJI)I"⟩ ∈ aW := aw_of (tb_6 (List.mem_of_getElem? (i := 178) rfl)) rfl
theorem w709 : Cond.selects "SeriesVault" ⟨"SeriesVault", "ask", "(JJI)I"⟩ ⟨"SeriesVault", "ask", "(JJI)I"⟩ ∈ aW := aw_of (tb_6 (List.mem_of_getElem? (i := 179) rfl)) rfl
set_option maxHeartbeats 4000000 in
set_option maxRecDepth 100000 in
theorem c_K_ask (l : Launch) (htr : l.stackTraces = false) (D : va_G) (dA : Nat → ClassId) (sz : Nat) (a : Nat) (fs : List Value) (b : Nat) (b3 : Nat) (hs : List Value) (b1 : Nat) (gs : List Value) (k : Int32) (b2 : Nat) (t : Int64) (w : Int64) (n : Int32) (o : Nat) (og : Nat → Int64) (h1 : ¬ t < 0) (h2 : t ≤ 1099511627775) (h3 : ¬ w < 1) (h4 : w ≤ 1099511627775) (h5 : ¬ n < 1) (h6 : n ≤ 64) (h_fs_tape : fs[0]? = some (.ref b)) (h_fs_tapeLength : fs[1]? = some (.int 0)) (h_fs_powered : fs[5]? = some (.int 1)) (h_fs_question : fs[15]? = some (.ref b3)) (hl_fs : fs.length = 18) (h_hs_steps : hs[8]? = some (.ref b1)) (hl_hs : hs.length = 9) (h_gs_elementData : gs[0]? = some (.ref b2)) (h_gs_size : gs[1]? = some (.int 0)) (h_gs_modCount : gs[2]? = some (.int k)) (hl_gs : gs.length = 3) : Met l ⟨"SeriesVaultLaw", "ask", "(LSeriesVault;JJI[J)I"⟩ [Cond.codeWith ⟨"SeriesVaultLaw", "ask", "(LSeriesVault;JJI[J)I"⟩ method_16_code 8 (some FieldType.int) [(0, 13, 16, 29), (0, 13, 20, 19)]] { frames := 7, cells := 0, slots := 0, locals := 140 } (pC D dA [.ref a, .long t, .long w, .int n, .ref o] [(a, .inr (0, fs)), (b3, .inr (5, hs)), (b1, .inr (6, gs)), (o, .inl (dA 2, 1, .inr (.inl og)))] sz) (va_Qi (fun (r : Int32) (_ : Unit) => r = 0) (fun (u9 : Unit) t9 => bW D (va_A [(a, .inr (0, fs)), (b3, .inr (5, hs)), (b1, .inr (6, gs)), (o, .inl (dA 2, 1, .inr (.inl og)))] sz) [(a, .inr (0, ((((fs.set 1 (.int 0)).set 17 (.int 0)).set 2 (.int 2)).set 3 (.int 0)))), (b3, .inr (5, ((((((((((hs.set 0 (.ref b)).set 1 (.int 0)).set 6 (.int 0)).set 7 (.int 0)).set 4 (.int 0)).set 3 (.int 0)).set 4 (.int 0)).set 2 (.int 256)).set 6 (.int 2)).set 7 (.int 0)))), (b1, .inr (6, ((gs.set 2 (.int (k + 1))).set 1 (.int 0)))), (o, .inl (dA 2, 1, .inr (.inl (vp_updL og 0 (-1)))))] t9) (va_A [(a, .inr (0, fs)), (b3, .inr (5, hs)), (b1, .inr (6, gs)), (o, .inl (dA 2, 1, .inr (.inl og)))] sz)) 0 0 (va_A [(a, .inr (0, fs)), (b3, .inr (5, hs)), (b1, .inr (6, gs)), (o, .inl (dA 2, 1, .inr (.inl og)))] sz) := by
  refine mkW (y := ⟨"SeriesVaultLaw", "ask", "(LSeriesVault;JJI[J)I"⟩) (cc := method_16_code) (maxL := 8) (av := [.ref a, .long t, .long w, .int n, .ref o]) (ws := [(a, .inr (0, fs)), (b3, .inr (5, hs)), (b1, .inr (6, gs)), (o, .inl (dA 2, 1, .inr (.inl og)))]) (sz := sz) (Qc := fun A => va_Qi (fun (r : Int32) (_ : Unit) => r = 0) (fun (u9 : Unit) t9 => bW D A [(a, .inr (0, ((((fs.set 1 (.int 0)).set 17 (.int 0)).set 2 (.int 2)).set 3 (.int 0)))), (b3, .inr (5, ((((((((((hs.set 0 (.ref b)).set 1 (.int 0)).set 6 (.int 0)).set 7 (.int 0)).set 4 (.int 0)).set 3 (.int 0)).set 4 (.int 0)).set 2 (.int 256)).set 6 (.int 2)).set 7 (.int 0)))), (b1, .inr (6, ((gs.set 2 (.int (k + 1))).set 1 (.int 0)))), (o, .inl (dA 2, 1, .inr (.inl (vp_updL og 0 (-1)))))] t9) A) (by decide) (Nat.le_of_ble_eq_true rfl) ?_
  intro A p e s m below meth c ls hsz htab hB
  obtain ⟨hx, hb, hr, hml, hown, hin, hlk, hE, hK, hP, hD, hS, hA, hN, hl⟩ := hB
  have hown : s.vm.findClass "SeriesVaultLaw" = some m.cls := hown
  have hin : meth.name = "ask" := hin
  have hl : lv_has ls 8 [(0, .ref a), (1, .long t), (3, .long w), (5, .int n), (6, .ref o)] := hl
  obtain ⟨H, hH⟩ : ∃ z, z = s.heap := ⟨_, rfl⟩
  have hP : va_P D vwCl [(a, .inr (0, fs)), (b3, .inr (5, hs)), (b1, .inr (6, gs)), (o, .inl (dA 2, 1, .inr (.inl og)))] H := by rw [hH]; exact hP
  have hS : va_S A s.heap H [] := by rw [hH]; exact hS
  rw [← hH]
  refine lv_aload hx hb d_SeriesVaultLaw_ask_0 (lv_at hl 4 rfl) ?_
  refine lv_iconst (v := 0) hx hb d_SeriesVaultLaw_ask_2 (by decide) ?_
  refine lv_aload_n hx hb d_SeriesVaultLaw_ask_3 rfl (lv_at hl 0 rfl) ?_
  refine lv_lload_n hx hb d_SeriesVaultLaw_ask_4 rfl (lv_at hl 1 rfl) ?_
  refine lv_lload_n hx hb d_SeriesVaultLaw_ask_5 rfl (lv_at hl 2 rfl) ?_
  refine lv_iload hx hb d_SeriesVaultLaw_ask_6 (lv_at hl 3 rfl) ?_
  have hPc := hP.sub (ws' := [(a, .inr (0, fs)), (b3, .inr (5, hs)), (b1, .inr (6, gs))]) [0, 1, 2] rfl
  have hDc := hD.sub (ws' := [(a, .inr (0, fs)), (b3, .inr (5, hs)), (b1, .inr (6, gs))]) [0, 1, 2] (by decide) rfl
  refine jnI (rnV (As := [.long t, .long w, .int n]) (rest := [.int 0, .ref o]) hx hb hml hown hE hK (hN _ _ hS) hPc hDc (c_V_ask l D dA H.size a fs b b3 hs b1 gs k b2 t w n h1 h2 h3 h4 h5 h6 h_fs_tape h_fs_tapeLength h_fs_powered h_fs_question hl_fs h_hs_steps hl_hs h_gs_elementData h_gs_size h_gs_modCount hl_gs) (q0 := 0) rfl rfl w707 w706 w708 w709 w277 rfl rfl ⟨⟨by decide, by decide⟩, rfl⟩ ⟨(Nat.le_of_ble_eq_true rfl), (Nat.le_of_ble_eq_true rfl)⟩ rfl hl.1 rfl (Nat.le_of_ble_eq_true rfl) d_SeriesVaultLaw_ask_8 ⟨(Nat.le_of_ble_eq_true rfl), (Nat.le_of_ble_eq_true rfl)⟩) hP hD hS hA [0, 1, 2] [3] (wr := [(o, .inl (dA 2, 1, .inr (.inl og)))]) rfl rfl (by decide) (by decide) (fun r1 u9 H locs hp9 hP hD hS => ?_)
  have hP : va_P D vwCl [(o, .inl (dA 2, 1, .inr (.inl og))), (a, .inr (0, ((((fs.set 1 (.int 0)).set 17 (.int 0)).set 2 (.int 2)).set 3 (.int 0)))), (b3, .inr (5, ((((((((((hs.set 0 (.ref b)).set 1 (.int 0)).set 6 (.int 0)).set 7 (.int 0)).set 4 (.int 0)).set 3 (.int 0)).set 4 (.int 0)).set 2 (.int 256)).set 6 (.int 2)).set 7 (.int 0)))), (b1, .inr (6, ((gs.set 2 (.int (k + 1))).set 1 (.int 0))))] H := hP
  have hD : va_D A [(o, .inl (dA 2, 1, .inr (.inl og))), (a, .inr (0, ((((fs.set 1 (.int 0)).set 17 (.int 0)).set 2 (.int 2)).set 3 (.int 0)))), (b3, .inr (5, ((((((((((hs.set 0 (.ref b)).set 1 (.int 0)).set 6 (.int 0)).set 7 (.int 0)).set 4 (.int 0)).set 3 (.int 0)).set 4 (.int 0)).set 2 (.int 256)).set 6 (.int 2)).set 7 (.int 0)))), (b1, .inr (6, ((gs.set 2 (.int (k + 1))).set 1 (.int 0))))] := hD
  have hp9 : (-1) = r1 := Eq.symm hp9
  subst hp9
  refine lv_i2l (v := (-1)) hx hb d_SeriesVaultLaw_ask_11 (by decide) ?_
  refine va_last hx hb hK hP hD hS 0 2 rfl rfl (by unfold vp_in; decide) d_SeriesVaultLaw_ask_12 (fun H locs hP hD hS => ?_)
  have hP : va_P D vwCl [(o, .inl (dA 2, 1, .inr (.inl (vp_updL og 0 (-1))))), (a, .inr (0, ((((fs.set 1 (.int 0)).set 17 (.int 0)).set 2 (.int 2)).set 3 (.int 0)))), (b3, .inr (5, ((((((((((hs.set 0 (.ref b)).set 1 (.int 0)).set 6 (.int 0)).set 7 (.int 0)).set 4 (.int 0)).set 3 (.int 0)).set 4 (.int 0)).set 2 (.int 256)).set 6 (.int 2)).set 7 (.int 0)))), (b1, .inr (6, ((gs.set 2 (.int (k + 1))).set 1 (.int 0))))] H := hP
  have hD : va_D A [(o, .inl (dA 2, 1, .inr (.inl (vp_updL og 0 (-1))))), (a, .inr (0, ((((fs.set 1 (.int 0)).set 17 (.int 0)).set 2 (.int 2)).set 3 (.int 0)))), (b3, .inr (5, ((((((((((hs.set 0 (.ref b)).set 1 (.int 0)).set 6 (.int 0)).set 7 (.int 0)).set 4 (.int 0)).set 3 (.int 0)).set 4 (.int 0)).set 2 (.int 256)).set 6 (.int 2)).set 7 (.int 0)))), (b1, .inr (6, ((gs.set 2 (.int (k + 1))).set 1 (.int 0))))] := hD
  refine lv_goto hx hb d_SeriesVaultLaw_ask_13 (tgt := 24) rfl ?_
  refine lv_iconst (v := 0) hx hb d_SeriesVaultLaw_ask_24 (by decide) ?_
  exact rtI hx hb hr hlk hP hD hS () rfl [1, 2, 3, 0] rfl rfl (by decide) (Nat.le_of_ble_eq_true rfl) (Nat.le_of_ble_eq_true rfl) d_SeriesVaultLaw_ask_25
theorem d_SeriesVaultLaw_ask_20 : decode method_16_code 20 = .ok (.astore 7, 2) := by decide +kernel
theorem d_SeriesVaultLaw_ask_22 : decode method_16_code 22 = .ok (.iconst 2, 1) := by decide +kernel
theorem d_SeriesVaultLaw_ask_23 : decode method_16_code 23 = .ok (.ireturn, 1) := by decide +kernel
set_option maxHeartbeats 4000000 in
set_option maxRecDepth 100000 in
theorem c_K_ask_xt (l : Launch) (htr : l.stackTraces = false) (D : va_G) (dA : Nat → ClassId) (sz : Nat) (a : Nat) (fs : List Value) (t : Int64) (w : Int64) (n : Int32) (o : Nat) (og : Nat → Int64) (h0 : t < 0 ∨ 1099511627775 < t) (h_fs_powered : fs[5]? = some (.int 1)) (hl_fs : fs.length = 18) : Met l ⟨"SeriesVaultLaw", "ask", "(LSeriesVault;JJI[J)I"⟩ [Cond.codeWith ⟨"SeriesVaultLaw", "ask", "(LSeriesVault;JJI[J)I"⟩ method_16_code 8 (some FieldType.int) [(0, 13, 16, 29), (0, 13, 20, 19)]] { frames := 7, cells := 1, slots := 6, locals := 108 } (pC D dA [.ref a, .long t, .long w, .int n, .ref o] [(a, .inr (0, fs)), (o, .inl (dA 2, 1, .inr (.inl og)))] sz) (va_Qi (fun (r : Int32) (_ : Unit) => r = 2) (fun (u9 : Unit) t9 => bW D (va_A [(a, .inr (0, fs)), (o, .inl (dA 2, 1, .inr (.inl og)))] sz) [(a, .inr (0, fs)), (o, .inl (dA 2, 1, .inr (.inl og)))] t9) (va_A [(a, .inr (0, fs)), (o, .inl (dA 2, 1, .inr (.inl og)))] sz)) 1 6 (va_A [(a, .inr (0, fs)), (o, .inl (dA 2, 1, .inr (.inl og)))] sz) := by
  refine mkW (y := ⟨"SeriesVaultLaw", "ask", "(LSeriesVault;JJI[J)I"⟩) (cc := method_16_code) (maxL := 8) (av := [.ref a, .long t, .long w, .int n, .ref o]) (ws := [(a, .inr (0, fs)), (o, .inl (dA 2, 1, .inr (.inl og)))]) (sz := sz) (Qc := fun A => va_Qi (fun (r : Int32) (_ : Unit) => r = 2) (fun (u9 : Unit) t9 => bW D A [(a, .inr (0, fs)), (o, .inl (dA 2, 1, .inr (.inl og)))] t9) A) (by decide) (Nat.le_of_ble_eq_true rfl) ?_
  intro A p e s m below meth c ls hsz htab hB
  obtain ⟨hx, hb, hr, hml, hown, hin, hlk, hE, hK, hP, hD, hS, hA, hN, hl⟩ := hB
  have hown : s.vm.findClass "SeriesVaultLaw" = some m.cls := hown
  have hin : meth.name = "ask" := hin
  have hl : lv_has ls 8 [(0, .ref a), (1, .long t), (3, .long w), (5, .int n), (6, .ref o)] := hl
  obtain ⟨H, hH⟩ : ∃ z, z = s.heap := ⟨_, rfl⟩
  have hP : va_P D vwCl [(a, .inr (0, fs)), (o, .inl (dA 2, 1, .inr (.inl og)))] H := by rw [hH]; exact hP
  have hS : va_S A s.heap H [] := by rw [hH]; exact hS
  rw [← hH]
  refine lv_aload hx hb d_SeriesVaultLaw_ask_0 (lv_at hl 4 rfl) ?_
  refine lv_iconst (v := 0) hx hb d_SeriesVaultLaw_ask_2 (by decide) ?_
  refine lv_aload_n hx hb d_SeriesVaultLaw_ask_3 rfl (lv_at hl 0 rfl) ?_
  refine lv_lload_n hx hb d_SeriesVaultLaw_ask_4 rfl (lv_at hl 1 rfl) ?_
  refine lv_lload_n hx hb d_SeriesVaultLaw_ask_5 rfl (lv_at hl 2 rfl) ?_
  refine lv_iload hx hb d_SeriesVaultLaw_ask_6 (lv_at hl 3 rfl) ?_
  have hPc := hP.sub (ws' := [(a, .inr (0, fs))]) [0] rfl
  have hDc := hD.sub (ws' := [(a, .inr (0, fs))]) [0] (by decide) rfl
  refine xnV (As := [.long t, .long w, .int n]) (rest := [.int 0, .ref o]) hx hb hml hown hE hK (hN _ _ hS) hPc hDc (c_V_ask_xt l htr D dA H.size a fs t w n h0 h_fs_powered hl_fs) (q0 := 0) rfl rfl w707 w706 w708 w709 w277 rfl rfl ⟨⟨by decide, by decide⟩, rfl⟩ ⟨(Nat.le_of_ble_eq_true rfl), (Nat.le_of_ble_eq_true rfl)⟩ rfl hl.1 rfl (Nat.le_of_ble_eq_true rfl) d_SeriesVaultLaw_ask_8 ⟨(Nat.le_of_ble_eq_true rfl), (Nat.le_of_ble_eq_true rfl)⟩ hP hD hS hA [0] [1] (wr := [(o, .inl (dA 2, 1, .inr (.inl og)))]) rfl rfl (by decide) (by decide) (fun x1 ce H locs hP hD hS hce hcv hcl => ?_)
  have hP : va_P D vwCl [(o, .inl (dA 2, 1, .inr (.inl og))), (a, .inr (0, fs))] H := hP
  have hD : va_D A [(o, .inl (dA 2, 1, .inr (.inl og))), (a, .inr (0, fs))] := hD
  refine xCatch (E := "java/lang/IllegalArgumentException") hown hE [⟨0, 13, 16, 29⟩] ⟨0, 13, 20, 19⟩ [] htab (List.forall_mem_cons.mpr ⟨⟨by decide, "java/lang/IllegalStateException", w363, by decide⟩, fun _ h => absurd h List.not_mem_nil⟩) (by decide) (by decide) w349 w267 hce hcv hcl ?_
  refine lv_astore hx hb d_SeriesVaultLaw_ask_20 hl (by decide) rfl (fun ls hl => ?_)
  have hl : lv_has ls 8 [(7, .ref x1), (0, .ref a), (1, .long t), (3, .long w), (5, .int n), (6, .ref o)] := hl
  refine lv_iconst (v := 2) hx hb d_SeriesVaultLaw_ask_22 (by decide) ?_
  exact rtI hx hb hr hlk hP hD hS () rfl [1, 0] rfl rfl (by decide) (Nat.le_of_ble_eq_true rfl) (Nat.le_of_ble_eq_true rfl) d_SeriesVaultLaw_ask_23
set_option maxHeartbeats 4000000 in
set_option maxRecDepth 100000 in
theorem c_K_ask_xw (l : Launch) (htr : l.stackTraces = false) (D : va_G) (dA : Nat → ClassId) (sz : Nat) (a : Nat) (fs : List Value) (t : Int64) (w : Int64) (n : Int32) (o : Nat) (og : Nat → Int64) (h1 : ¬ t < 0) (h2 : t ≤ 1099511627775) (h0 : w < 1 ∨ 1099511627775 < w ∨ n < 1 ∨ 64 < n) (h_fs_powered : fs[5]? = some (.int 1)) (hl_fs : fs.length = 18) : Met l ⟨"SeriesVaultLaw", "ask", "(LSeriesVault;JJI[J)I"⟩ [Cond.codeWith ⟨"SeriesVaultLaw", "ask", "(LSeriesVault;JJI[J)I"⟩ method_16_code 8 (some FieldType.int) [(0, 13, 16, 29), (0, 13, 20, 19)]] { frames := 7, cells := 1, slots := 6, locals := 108 } (pC D dA [.ref a, .long t, .long w, .int n, .ref o] [(a, .inr (0, fs)), (o, .inl (dA 2, 1, .inr (.inl og)))] sz) (va_Qi (fun (r : Int32) (_ : Unit) => r = 2) (fun (u9 : Unit) t9 => bW D (va_A [(a, .inr (0, fs)), (o, .inl (dA 2, 1, .inr (.inl og)))] sz) [(a, .inr (0, fs)), (o, .inl (dA 2, 1, .inr (.inl og)))] t9) (va_A [(a, .inr (0, fs)), (o, .inl (dA 2, 1, .inr (.inl og)))] sz)) 1 6 (va_A [(a, .inr (0, fs)), (o, .inl (dA 2, 1, .inr (.inl og)))] sz) := by
  refine mkW (y := ⟨"SeriesVaultLaw", "ask", "(LSeriesVault;JJI[J)I"⟩) (cc := method_16_code) (maxL := 8) (av := [.ref a, .long t, .long w, .int n, .ref o]) (ws := [(a, .inr (0, fs)), (o, .inl (dA 2, 1, .inr (.inl og)))]) (sz := sz) (Qc := fun A => va_Qi (fun (r : Int32) (_ : Unit) => r = 2) (fun (u9 : Unit) t9 => bW D A [(a, .inr (0, fs)), (o, .inl (dA 2, 1, .inr (.inl og)))] t9) A) (by decide) (Nat.le_of_ble_eq_true rfl) ?_
  intro A p e s m below meth c ls hsz htab hB
  obtain ⟨hx, hb, hr, hml, hown, hin, hlk, hE, hK, hP, hD, hS, hA, hN, hl⟩ := hB
  have hown : s.vm.findClass "SeriesVaultLaw" = some m.cls := hown
  have hin : meth.name = "ask" := hin
  have hl : lv_has ls 8 [(0, .ref a), (1, .long t), (3, .long w), (5, .int n), (6, .ref o)] := hl
  obtain ⟨H, hH⟩ : ∃ z, z = s.heap := ⟨_, rfl⟩
  have hP : va_P D vwCl [(a, .inr (0, fs)), (o, .inl (dA 2, 1, .inr (.inl og)))] H := by rw [hH]; exact hP
  have hS : va_S A s.heap H [] := by rw [hH]; exact hS
  rw [← hH]
  refine lv_aload hx hb d_SeriesVaultLaw_ask_0 (lv_at hl 4 rfl) ?_
  refine lv_iconst (v := 0) hx hb d_SeriesVaultLaw_ask_2 (by decide) ?_
  refine lv_aload_n hx hb d_SeriesVaultLaw_ask_3 rfl (lv_at hl 0 rfl) ?_
  refine lv_lload_n hx hb d_SeriesVaultLaw_ask_4 rfl (lv_at hl 1 rfl) ?_
  refine lv_lload_n hx hb d_SeriesVaultLaw_ask_5 rfl (lv_at hl 2 rfl) ?_
  refine lv_iload hx hb d_SeriesVaultLaw_ask_6 (lv_at hl 3 rfl) ?_
  have hPc := hP.sub (ws' := [(a, .inr (0, fs))]) [0] rfl
  have hDc := hD.sub (ws' := [(a, .inr (0, fs))]) [0] (by decide) rfl
  refine xnV (As := [.long t, .long w, .int n]) (rest := [.int 0, .ref o]) hx hb hml hown hE hK (hN _ _ hS) hPc hDc (c_V_ask_xw l htr D dA H.size a fs t w n h1 h2 h0 h_fs_powered hl_fs) (q0 := 0) rfl rfl w707 w706 w708 w709 w277 rfl rfl ⟨⟨by decide, by decide⟩, rfl⟩ ⟨(Nat.le_of_ble_eq_true rfl), (Nat.le_of_ble_eq_true rfl)⟩ rfl hl.1 rfl (Nat.le_of_ble_eq_true rfl) d_SeriesVaultLaw_ask_8 ⟨(Nat.le_of_ble_eq_true rfl), (Nat.le_of_ble_eq_true rfl)⟩ hP hD hS hA [0] [1] (wr := [(o, .inl (dA 2, 1, .inr (.inl og)))]) rfl rfl (by decide) (by decide) (fun x1 ce H locs hP hD hS hce hcv hcl => ?_)
  have hP : va_P D vwCl [(o, .inl (dA 2, 1, .inr (.inl og))), (a, .inr (0, fs))] H := hP
  have hD : va_D A [(o, .inl (dA 2, 1, .inr (.inl og))), (a, .inr (0, fs))] := hD
  refine xCatch (E := "java/lang/IllegalArgumentException") hown hE [⟨0, 13, 16, 29⟩] ⟨0, 13, 20, 19⟩ [] htab (List.forall_mem_cons.mpr ⟨⟨by decide, "java/lang/IllegalStateException", w363, by decide⟩, fun _ h => absurd h List.not_mem_nil⟩) (by decide) (by decide) w349 w267 hce hcv hcl ?_
  refine lv_astore hx hb d_SeriesVaultLaw_ask_20 hl (by decide) rfl (fun ls hl => ?_)
  have hl : lv_has ls 8 [(7, .ref x1), (0, .ref a), (1, .long t), (3, .long w), (5, .int n), (6, .ref o)] := hl
  refine lv_iconst (v := 2) hx hb d_SeriesVaultLaw_ask_22 (by decide) ?_
  exact rtI hx hb hr hlk hP hD hS () rfl [1, 0] rfl rfl (by decide) (Nat.le_of_ble_eq_true rfl) (Nat.le_of_ble_eq_true rfl) d_SeriesVaultLaw_ask_23
end
