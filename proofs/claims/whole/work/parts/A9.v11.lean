def VS.tgS (x : VS) (ta : Nat) : VS := VS.s_tape (VS.s_tpN (VS.s_tpA x ta) (2 * x.tpN)) (va_cpy x.tape (fun _ => 0) 0 0 (min x.tpN (2 * x.tpN)))
def VS.put1 (x : VS) (a : Int32) : VS := VS.s_tapeLength (VS.s_tape x (ptT a x.tape x.tapeLength)) (x.tapeLength + 1 + 1 + 1 + 1)
def VS.tcap (x : VS) : Nat := if x.tapeLength + 20 ≤ x.tpN then x.tpN else 2 * x.tpN
def VS.tgF (x : VS) (ta : Nat) : VS := if x.tapeLength + 20 ≤ x.tpN then x else x.tgS ta
def VS.fdF (x : VS) (ta : Nat) (a1 a2 a3 a4 a5 : Int32) : VS := ((((x.tgF ta).put1 a1).put1 a2).put1 a3).put1 a4 |>.put1 a5
set_option maxHeartbeats 4000000 in
set_option maxRecDepth 100000 in
theorem v_jclear (l : Launch) (D : va_G) (dA : Nat → ClassId) (sz : Nat) (h : Nat) (ad : Nat → Nat) (x : VS) (h9 : x.jN ≤ 65536) (h8 : x.jkept < 2 ^ 31) : Met l ⟨"SeriesVault$Journal", "clear", "()V"⟩ [Cond.code ⟨"SeriesVault$Journal", "clear", "()V"⟩ prog_3_method_3_code 1 none] { frames := 2, cells := 0, slots := 0, locals := 35 } (pC D dA [.ref (ad 0)] (VW dA h ad x) sz) (va_Qv (fun (u9 : Unit) => True) (fun (u9 : Unit) t9 => bW D (va_A (VW dA h ad x) sz) (VW dA h ad (VS.s_jch (VS.s_jfill (VS.s_jblock (VS.s_junits (VS.s_jkept (VS.s_jsize x 0) 0) 0) 0) 0) false)) t9) (va_A (VW dA h ad x) sz)) 0 0 (va_A (VW dA h ad x) sz) := by
  refine mkC (y := ⟨"SeriesVault$Journal", "clear", "()V"⟩) (cc := prog_3_method_3_code) (maxL := 1) (av := [.ref (ad 0)]) (ws := VW dA h ad x) (sz := sz) (Qc := fun A => va_Qv (fun (u9 : Unit) => True) (fun (u9 : Unit) t9 => bW D A (VW dA h ad (VS.s_jch (VS.s_jfill (VS.s_jblock (VS.s_junits (VS.s_jkept (VS.s_jsize x 0) 0) 0) 0) 0) false)) t9) A) (by decide) (Nat.le_of_ble_eq_true rfl) ?_
  intro A p e s m below meth c ls hsz hB
  obtain ⟨hx, hb, hr, hml, hown, hin, hlk, hE, hK, hP, hD, hS, hA, hN, hl⟩ := hB
  have hown : s.vm.findClass "SeriesVault$Journal" = some m.cls := hown
  have hl : lv_has ls 1 [(0, .ref (ad 0))] := hl
  obtain ⟨H, hH⟩ : ∃ z, z = s.heap := ⟨_, rfl⟩
  have hP : va_P D vwCl (VW dA h ad x) H := by rw [hH]; exact hP
  have hS : va_S A s.heap H [] := by rw [hH]; exact hS
  rw [← hH]
  refine lv_aload_n hx hb d_J_clear_0 rfl (lv_at hl 0 rfl) ?_
  refine lv_iconst (v := 0) hx hb d_J_clear_1 (by decide) ?_
  refine pF (v := .int (nI 0)) hx hb hown hE hK hP hD hS 2 rfl rfl layJ tyJ tokJ nmJ 6 (by decide) w545 rfl rfl rfl (Nat.le_of_ble_eq_true rfl) d_J_clear_2 (fun H locs hP hD hS => ?_)
  have hP : va_P D vwCl (VW dA h ad (VS.s_jsize x 0)) H := hP
  have hD : va_D A (VW dA h ad (VS.s_jsize x 0)) := hD
  refine lv_aload_n hx hb d_J_clear_5 rfl (lv_at hl 0 rfl) ?_
  refine jfV (rnV (As := []) (rest := []) hx hb hml hown hE hK (hN _ _ hS) hP hD (v_forgetUnkept l D dA H.size h ad (VS.s_jsize x 0) 0 0 0 (Nat.zero_le _) (show x.jN ≤ 65536 from by omega) (show x.jkept < 2 ^ 31 from by omega) (fun q hq => absurd hq (Nat.not_lt_zero q)) (by rw [Nat.zero_min]; rfl)) (q0 := 2) rfl rfl w557 w555 w558 w559 w556 rfl rfl ⟨⟨by decide, by decide⟩, rfl⟩ ⟨(Nat.le_of_ble_eq_true rfl), (Nat.le_of_ble_eq_true rfl)⟩ rfl hl.1 rfl (Nat.le_of_ble_eq_true rfl) d_J_clear_6 ⟨(Nat.le_of_ble_eq_true rfl), (Nat.le_of_ble_eq_true rfl)⟩) hP hD hS hA (fun u2 H locs hp9 hP hD hS => ?_)
  have hP : va_P D vwCl (VW dA h ad (VS.s_jch (VS.s_jfill (VS.s_jblock (VS.s_junits (VS.s_jkept (VS.s_jsize x (min 0 x.jkept)) (min 0 x.jkept)) 0) 0) 0) false)) H := hP
  have hD : va_D A (VW dA h ad (VS.s_jch (VS.s_jfill (VS.s_jblock (VS.s_junits (VS.s_jkept (VS.s_jsize x (min 0 x.jkept)) (min 0 x.jkept)) 0) 0) 0) false)) := hD
  have e9 : (VS.s_jch (VS.s_jfill (VS.s_jblock (VS.s_junits (VS.s_jkept (VS.s_jsize x (min 0 x.jkept)) (min 0 x.jkept)) 0) 0) 0) false : VS) = VS.s_jch (VS.s_jfill (VS.s_jblock (VS.s_junits (VS.s_jkept (VS.s_jsize x 0) 0) 0) 0) 0) false := by rw [show 0 = (min 0 x.jkept) from by (exact (Nat.zero_min _).symm), show 0 = (min 0 x.jkept) from by (exact (Nat.zero_min _).symm)] <;> rfl
  exact rfV hx hb hr hlk hS () trivial (cvPv e9 hP) (cvDv e9 hD) (Nat.le_of_ble_eq_true rfl) (Nat.le_of_ble_eq_true rfl) d_J_clear_9
set_option maxHeartbeats 4000000 in
set_option maxRecDepth 100000 in
theorem v_jreset (l : Launch) (D : va_G) (dA : Nat → ClassId) (sz : Nat) (h : Nat) (ad : Nat → Nat) (x : VS) (j : Nat) (h9 : x.jN ≤ 65536) (h8 : x.jkept < 2 ^ 31) : Met l ⟨"SeriesVault$Journal", "reset", "(I)V"⟩ [Cond.code ⟨"SeriesVault$Journal", "reset", "(I)V"⟩ prog_3_method_2_code 2 none] { frames := 3, cells := 0, slots := 0, locals := 55 } (pC D dA [.ref (ad 0), .int (nI j)] (VW dA h ad x) sz) (va_Qv (fun (u9 : Unit) => True) (fun (u9 : Unit) t9 => bW D (va_A (VW dA h ad x) sz) (VW dA h ad (VS.s_jch (VS.s_jfill (VS.s_jblock (VS.s_jlimit (VS.s_junits (VS.s_jkept (VS.s_jsize x 0) 0) 0) j) 0) 0) false)) t9) (va_A (VW dA h ad x) sz)) 0 0 (va_A (VW dA h ad x) sz) := by
  refine mkC (y := ⟨"SeriesVault$Journal", "reset", "(I)V"⟩) (cc := prog_3_method_2_code) (maxL := 2) (av := [.ref (ad 0), .int (nI j)]) (ws := VW dA h ad x) (sz := sz) (Qc := fun A => va_Qv (fun (u9 : Unit) => True) (fun (u9 : Unit) t9 => bW D A (VW dA h ad (VS.s_jch (VS.s_jfill (VS.s_jblock (VS.s_jlimit (VS.s_junits (VS.s_jkept (VS.s_jsize x 0) 0) 0) j) 0) 0) false)) t9) A) (by decide) (Nat.le_of_ble_eq_true rfl) ?_
  intro A p e s m below meth c ls hsz hB
  obtain ⟨hx, hb, hr, hml, hown, hin, hlk, hE, hK, hP, hD, hS, hA, hN, hl⟩ := hB
  have hown : s.vm.findClass "SeriesVault$Journal" = some m.cls := hown
  have hl : lv_has ls 2 [(0, .ref (ad 0)), (1, .int (nI j))] := hl
  obtain ⟨H, hH⟩ : ∃ z, z = s.heap := ⟨_, rfl⟩
  have hP : va_P D vwCl (VW dA h ad x) H := by rw [hH]; exact hP
  have hS : va_S A s.heap H [] := by rw [hH]; exact hS
  rw [← hH]
  refine lv_aload_n hx hb d_J_reset_0 rfl (lv_at hl 0 rfl) ?_
  refine lv_iload_n hx hb d_J_reset_1 rfl (lv_at hl 1 rfl) ?_
  refine pF (v := .int (nI j)) hx hb hown hE hK hP hD hS 2 rfl rfl layJ tyJ tokJ nmJ 9 (by decide) w560 rfl rfl rfl (Nat.le_of_ble_eq_true rfl) d_J_reset_2 (fun H locs hP hD hS => ?_)
  have hP : va_P D vwCl (VW dA h ad (VS.s_jlimit x j)) H := hP
  have hD : va_D A (VW dA h ad (VS.s_jlimit x j)) := hD
  refine lv_aload_n hx hb d_J_reset_5 rfl (lv_at hl 0 rfl) ?_
  refine jfV (rnV (As := []) (rest := []) hx hb hml hown hE hK (hN _ _ hS) hP hD (v_jclear l D dA H.size h ad (VS.s_jlimit x j) (show x.jN ≤ 65536 from by omega) (show x.jkept < 2 ^ 31 from by omega)) (q0 := 2) rfl rfl w562 w561 w563 w564 w556 rfl rfl ⟨⟨by decide, by decide⟩, rfl⟩ ⟨(Nat.le_of_ble_eq_true rfl), (Nat.le_of_ble_eq_true rfl)⟩ rfl hl.1 rfl (Nat.le_of_ble_eq_true rfl) d_J_reset_6 ⟨(Nat.le_of_ble_eq_true rfl), (Nat.le_of_ble_eq_true rfl)⟩) hP hD hS hA (fun u2 H locs hp9 hP hD hS => ?_)
  have hP : va_P D vwCl (VW dA h ad (VS.s_jch (VS.s_jfill (VS.s_jblock (VS.s_jlimit (VS.s_junits (VS.s_jkept (VS.s_jsize x 0) 0) 0) j) 0) 0) false)) H := hP
  have hD : va_D A (VW dA h ad (VS.s_jch (VS.s_jfill (VS.s_jblock (VS.s_jlimit (VS.s_junits (VS.s_jkept (VS.s_jsize x 0) 0) 0) j) 0) 0) false)) := hD
  exact rfV hx hb hr hlk hS () trivial hP hD (Nat.le_of_ble_eq_true rfl) (Nat.le_of_ble_eq_true rfl) d_J_reset_9
set_option maxHeartbeats 4000000 in
set_option maxRecDepth 100000 in
theorem v_makeDisk (l : Launch) (D : va_G) (dA : Nat → ClassId) (sz : Nat) (h : Nat) (ad : Nat → Nat) (x : VS) (n : Nat) (j : Nat) (h9 : x.jN ≤ 65536) (h8 : x.jkept < 2 ^ 31) : Met l ⟨"SeriesVault", "makeDisk", "(II)V"⟩ [Cond.code ⟨"SeriesVault", "makeDisk", "(II)V"⟩ prog_1_method_9_code 3 none] { frames := 4, cells := 0, slots := 0, locals := 76 } (pC D dA [.ref h, .int (nI n), .int (nI j)] (VW dA h ad x) sz) (va_Qv (fun (u9 : Unit) => True) (fun (u9 : Unit) t9 => bW D (va_A (VW dA h ad x) sz) (VW dA h ad (VS.s_scat (VS.s_sser (VS.s_shor (VS.s_ssc (VS.s_spc (VS.s_ncat (VS.s_nser (VS.s_nhor (VS.s_nsc (VS.s_npc (VS.s_hsize (VS.s_jch (VS.s_jfill (VS.s_jblock (VS.s_jlimit (VS.s_junits (VS.s_jkept (VS.s_jsize (VS.s_hasTable (VS.s_writes (VS.s_cutLeft (VS.s_powered (VS.s_diskBlocks x n) true) (-1)) 0) false) 0) 0) 0) j) 0) 0) false) 0) 0) 0) 0) 0) 0) 0) 0) 0) 0) 0)) t9) (va_A (VW dA h ad x) sz)) 0 0 (va_A (VW dA h ad x) sz) := by
  refine mkC (y := ⟨"SeriesVault", "makeDisk", "(II)V"⟩) (cc := prog_1_method_9_code) (maxL := 3) (av := [.ref h, .int (nI n), .int (nI j)]) (ws := VW dA h ad x) (sz := sz) (Qc := fun A => va_Qv (fun (u9 : Unit) => True) (fun (u9 : Unit) t9 => bW D A (VW dA h ad (VS.s_scat (VS.s_sser (VS.s_shor (VS.s_ssc (VS.s_spc (VS.s_ncat (VS.s_nser (VS.s_nhor (VS.s_nsc (VS.s_npc (VS.s_hsize (VS.s_jch (VS.s_jfill (VS.s_jblock (VS.s_jlimit (VS.s_junits (VS.s_jkept (VS.s_jsize (VS.s_hasTable (VS.s_writes (VS.s_cutLeft (VS.s_powered (VS.s_diskBlocks x n) true) (-1)) 0) false) 0) 0) 0) j) 0) 0) false) 0) 0) 0) 0) 0) 0) 0) 0) 0) 0) 0)) t9) A) (by decide) (Nat.le_of_ble_eq_true rfl) ?_
  intro A p e s m below meth c ls hsz hB
  obtain ⟨hx, hb, hr, hml, hown, hin, hlk, hE, hK, hP, hD, hS, hA, hN, hl⟩ := hB
  have hown : s.vm.findClass "SeriesVault" = some m.cls := hown
  have hl : lv_has ls 3 [(0, .ref h), (1, .int (nI n)), (2, .int (nI j))] := hl
  obtain ⟨H, hH⟩ : ∃ z, z = s.heap := ⟨_, rfl⟩
  have hP : va_P D vwCl (VW dA h ad x) H := by rw [hH]; exact hP
  have hS : va_S A s.heap H [] := by rw [hH]; exact hS
  rw [← hH]
  refine lv_aload_n hx hb d_V_makeDisk_0 rfl (lv_at hl 0 rfl) ?_
  refine lv_iload_n hx hb d_V_makeDisk_1 rfl (lv_at hl 1 rfl) ?_
  refine pF (v := .int (nI n)) hx hb hown hE hK hP hD hS 0 rfl rfl layV tyV tokV nmV 4 (by decide) w571 rfl rfl rfl (Nat.le_of_ble_eq_true rfl) d_V_makeDisk_2 (fun H locs hP hD hS => ?_)
  have hP : va_P D vwCl (VW dA h ad (VS.s_diskBlocks x n)) H := hP
  have hD : va_D A (VW dA h ad (VS.s_diskBlocks x n)) := hD
  refine lv_aload_n hx hb d_V_makeDisk_5 rfl (lv_at hl 0 rfl) ?_
  refine lv_iconst (v := 1) hx hb d_V_makeDisk_6 (by decide) ?_
  refine pF (v := .int (bI true)) hx hb hown hE hK hP hD hS 0 rfl rfl layV tyV tokV nmV 5 (by decide) w275 rfl (bI_nar true) (bI_fit true) (Nat.le_of_ble_eq_true rfl) d_V_makeDisk_7 (fun H locs hP hD hS => ?_)
  have hP : va_P D vwCl (VW dA h ad (VS.s_powered (VS.s_diskBlocks x n) true)) H := hP
  have hD : va_D A (VW dA h ad (VS.s_powered (VS.s_diskBlocks x n) true)) := hD
  refine lv_aload_n hx hb d_V_makeDisk_10 rfl (lv_at hl 0 rfl) ?_
  refine lv_iconst (v := (-1)) hx hb d_V_makeDisk_11 (by decide) ?_
  refine pF (v := .int (-1)) hx hb hown hE hK hP hD hS 0 rfl rfl layV tyV tokV nmV 6 (by decide) w281 rfl rfl rfl (Nat.le_of_ble_eq_true rfl) d_V_makeDisk_12 (fun H locs hP hD hS => ?_)
  have hP : va_P D vwCl (VW dA h ad (VS.s_cutLeft (VS.s_powered (VS.s_diskBlocks x n) true) (-1))) H := hP
  have hD : va_D A (VW dA h ad (VS.s_cutLeft (VS.s_powered (VS.s_diskBlocks x n) true) (-1))) := hD
  refine lv_aload_n hx hb d_V_makeDisk_15 rfl (lv_at hl 0 rfl) ?_
  refine lv_iconst (v := 0) hx hb d_V_makeDisk_16 (by decide) ?_
  refine pF (v := .int (nI 0)) hx hb hown hE hK hP hD hS 0 rfl rfl layV tyV tokV nmV 7 (by decide) w209 rfl rfl rfl (Nat.le_of_ble_eq_true rfl) d_V_makeDisk_17 (fun H locs hP hD hS => ?_)
  have hP : va_P D vwCl (VW dA h ad (VS.s_writes (VS.s_cutLeft (VS.s_powered (VS.s_diskBlocks x n) true) (-1)) 0)) H := hP
  have hD : va_D A (VW dA h ad (VS.s_writes (VS.s_cutLeft (VS.s_powered (VS.s_diskBlocks x n) true) (-1)) 0)) := hD
  refine lv_aload_n hx hb d_V_makeDisk_20 rfl (lv_at hl 0 rfl) ?_
  refine lv_iconst (v := 0) hx hb d_V_makeDisk_21 (by decide) ?_
  refine pF (v := .int (bI false)) hx hb hown hE hK hP hD hS 0 rfl rfl layV tyV tokV nmV 17 (by decide) w210 rfl (bI_nar false) (bI_fit false) (Nat.le_of_ble_eq_true rfl) d_V_makeDisk_22 (fun H locs hP hD hS => ?_)
  have hP : va_P D vwCl (VW dA h ad (VS.s_hasTable (VS.s_writes (VS.s_cutLeft (VS.s_powered (VS.s_diskBlocks x n) true) (-1)) 0) false)) H := hP
  have hD : va_D A (VW dA h ad (VS.s_hasTable (VS.s_writes (VS.s_cutLeft (VS.s_powered (VS.s_diskBlocks x n) true) (-1)) 0) false)) := hD
  refine lv_aload_n hx hb d_V_makeDisk_25 rfl (lv_at hl 0 rfl) ?_
  refine gF (v := .ref (ad 0)) hx hb hown hE hK hP 0 rfl rfl layV 8 (by decide) w312 rfl d_V_makeDisk_26 ?_
  refine lv_iload_n hx hb d_V_makeDisk_29 rfl (lv_at hl 2 rfl) ?_
  refine jfV (rnV (As := [.int (nI j)]) (rest := []) hx hb hml hown hE hK (hN _ _ hS) hP hD (v_jreset l D dA H.size h ad (VS.s_hasTable (VS.s_writes (VS.s_cutLeft (VS.s_powered (VS.s_diskBlocks x n) true) (-1)) 0) false) j (show x.jN ≤ 65536 from by omega) (show x.jkept < 2 ^ 31 from by omega)) (q0 := 2) rfl rfl w573 w572 w574 w575 w556 rfl rfl ⟨⟨by decide, by decide⟩, rfl⟩ ⟨(Nat.le_of_ble_eq_true rfl), (Nat.le_of_ble_eq_true rfl)⟩ rfl hl.1 rfl (Nat.le_of_ble_eq_true rfl) d_V_makeDisk_30 ⟨(Nat.le_of_ble_eq_true rfl), (Nat.le_of_ble_eq_true rfl)⟩) hP hD hS hA (fun u2 H locs hp9 hP hD hS => ?_)
  have hP : va_P D vwCl (VW dA h ad (VS.s_jch (VS.s_jfill (VS.s_jblock (VS.s_jlimit (VS.s_junits (VS.s_jkept (VS.s_jsize (VS.s_hasTable (VS.s_writes (VS.s_cutLeft (VS.s_powered (VS.s_diskBlocks x n) true) (-1)) 0) false) 0) 0) 0) j) 0) 0) false)) H := hP
  have hD : va_D A (VW dA h ad (VS.s_jch (VS.s_jfill (VS.s_jblock (VS.s_jlimit (VS.s_junits (VS.s_jkept (VS.s_jsize (VS.s_hasTable (VS.s_writes (VS.s_cutLeft (VS.s_powered (VS.s_diskBlocks x n) true) (-1)) 0) false) 0) 0) 0) j) 0) 0) false)) := hD
  refine lv_aload_n hx hb d_V_makeDisk_33 rfl (lv_at hl 0 rfl) ?_
  refine gF (v := .ref (ad 1)) hx hb hown hE hK hP 0 rfl rfl layV 9 (by decide) w576 rfl d_V_makeDisk_34 ?_
  refine jfV (rnV (As := []) (rest := []) hx hb hml hown hE hK (hN _ _ hS) hP hD (v_pclear_h l D dA H.size h ad (VS.s_jch (VS.s_jfill (VS.s_jblock (VS.s_jlimit (VS.s_junits (VS.s_jkept (VS.s_jsize (VS.s_hasTable (VS.s_writes (VS.s_cutLeft (VS.s_powered (VS.s_diskBlocks x n) true) (-1)) 0) false) 0) 0) 0) j) 0) 0) false)) (q0 := 9) rfl rfl w579 w577 w580 w581 w578 rfl rfl ⟨⟨by decide, by decide⟩, rfl⟩ ⟨(Nat.le_of_ble_eq_true rfl), (Nat.le_of_ble_eq_true rfl)⟩ rfl hl.1 rfl (Nat.le_of_ble_eq_true rfl) d_V_makeDisk_37 ⟨(Nat.le_of_ble_eq_true rfl), (Nat.le_of_ble_eq_true rfl)⟩) hP hD hS hA (fun u4 H locs hp9 hP hD hS => ?_)
  have hP : va_P D vwCl (VW dA h ad (VS.s_hsize (VS.s_jch (VS.s_jfill (VS.s_jblock (VS.s_jlimit (VS.s_junits (VS.s_jkept (VS.s_jsize (VS.s_hasTable (VS.s_writes (VS.s_cutLeft (VS.s_powered (VS.s_diskBlocks x n) true) (-1)) 0) false) 0) 0) 0) j) 0) 0) false) 0)) H := hP
  have hD : va_D A (VW dA h ad (VS.s_hsize (VS.s_jch (VS.s_jfill (VS.s_jblock (VS.s_jlimit (VS.s_junits (VS.s_jkept (VS.s_jsize (VS.s_hasTable (VS.s_writes (VS.s_cutLeft (VS.s_powered (VS.s_diskBlocks x n) true) (-1)) 0) false) 0) 0) 0) j) 0) 0) false) 0)) := hD
  refine lv_aload_n hx hb d_V_makeDisk_40 rfl (lv_at hl 0 rfl) ?_
  refine gF (v := .ref (ad 3)) hx hb hown hE hK hP 0 rfl rfl layV 11 (by decide) w297 rfl d_V_makeDisk_41 ?_
  refine jfV (rnV (As := []) (rest := []) hx hb hml hown hE hK (hN _ _ hS) hP hD (v_hclear_n l D dA H.size h ad (VS.s_hsize (VS.s_jch (VS.s_jfill (VS.s_jblock (VS.s_jlimit (VS.s_junits (VS.s_jkept (VS.s_jsize (VS.s_hasTable (VS.s_writes (VS.s_cutLeft (VS.s_powered (VS.s_diskBlocks x n) true) (-1)) 0) false) 0) 0) 0) j) 0) 0) false) 0)) (q0 := 17) rfl rfl w584 w582 w585 w586 w583 rfl rfl ⟨⟨by decide, by decide⟩, rfl⟩ ⟨(Nat.le_of_ble_eq_true rfl), (Nat.le_of_ble_eq_true rfl)⟩ rfl hl.1 rfl (Nat.le_of_ble_eq_true rfl) d_V_makeDisk_44 ⟨(Nat.le_of_ble_eq_true rfl), (Nat.le_of_ble_eq_true rfl)⟩) hP hD hS hA (fun u6 H locs hp9 hP hD hS => ?_)
  have hP : va_P D vwCl (VW dA h ad (VS.s_ncat (VS.s_nser (VS.s_nhor (VS.s_nsc (VS.s_npc (VS.s_hsize (VS.s_jch (VS.s_jfill (VS.s_jblock (VS.s_jlimit (VS.s_junits (VS.s_jkept (VS.s_jsize (VS.s_hasTable (VS.s_writes (VS.s_cutLeft (VS.s_powered (VS.s_diskBlocks x n) true) (-1)) 0) false) 0) 0) 0) j) 0) 0) false) 0) 0) 0) 0) 0) 0)) H := hP
  have hD : va_D A (VW dA h ad (VS.s_ncat (VS.s_nser (VS.s_nhor (VS.s_nsc (VS.s_npc (VS.s_hsize (VS.s_jch (VS.s_jfill (VS.s_jblock (VS.s_jlimit (VS.s_junits (VS.s_jkept (VS.s_jsize (VS.s_hasTable (VS.s_writes (VS.s_cutLeft (VS.s_powered (VS.s_diskBlocks x n) true) (-1)) 0) false) 0) 0) 0) j) 0) 0) false) 0) 0) 0) 0) 0) 0)) := hD
  refine lv_aload_n hx hb d_V_makeDisk_47 rfl (lv_at hl 0 rfl) ?_
  refine gF (v := .ref (ad 10)) hx hb hown hE hK hP 0 rfl rfl layV 12 (by decide) w587 rfl d_V_makeDisk_48 ?_
  refine jfV (rnV (As := []) (rest := []) hx hb hml hown hE hK (hN _ _ hS) hP hD (v_hclear_s l D dA H.size h ad (VS.s_ncat (VS.s_nser (VS.s_nhor (VS.s_nsc (VS.s_npc (VS.s_hsize (VS.s_jch (VS.s_jfill (VS.s_jblock (VS.s_jlimit (VS.s_junits (VS.s_jkept (VS.s_jsize (VS.s_hasTable (VS.s_writes (VS.s_cutLeft (VS.s_powered (VS.s_diskBlocks x n) true) (-1)) 0) false) 0) 0) 0) j) 0) 0) false) 0) 0) 0) 0) 0) 0)) (q0 := 24) rfl rfl w584 w582 w585 w586 w583 rfl rfl ⟨⟨by decide, by decide⟩, rfl⟩ ⟨(Nat.le_of_ble_eq_true rfl), (Nat.le_of_ble_eq_true rfl)⟩ rfl hl.1 rfl (Nat.le_of_ble_eq_true rfl) d_V_makeDisk_51 ⟨(Nat.le_of_ble_eq_true rfl), (Nat.le_of_ble_eq_true rfl)⟩) hP hD hS hA (fun u8 H locs hp9 hP hD hS => ?_)
  have hP : va_P D vwCl (VW dA h ad (VS.s_scat (VS.s_sser (VS.s_shor (VS.s_ssc (VS.s_spc (VS.s_ncat (VS.s_nser (VS.s_nhor (VS.s_nsc (VS.s_npc (VS.s_hsize (VS.s_jch (VS.s_jfill (VS.s_jblock (VS.s_jlimit (VS.s_junits (VS.s_jkept (VS.s_jsize (VS.s_hasTable (VS.s_writes (VS.s_cutLeft (VS.s_powered (VS.s_diskBlocks x n) true) (-1)) 0) false) 0) 0) 0) j) 0) 0) false) 0) 0) 0) 0) 0) 0) 0) 0) 0) 0) 0)) H := hP
  have hD : va_D A (VW dA h ad (VS.s_scat (VS.s_sser (VS.s_shor (VS.s_ssc (VS.s_spc (VS.s_ncat (VS.s_nser (VS.s_nhor (VS.s_nsc (VS.s_npc (VS.s_hsize (VS.s_jch (VS.s_jfill (VS.s_jblock (VS.s_jlimit (VS.s_junits (VS.s_jkept (VS.s_jsize (VS.s_hasTable (VS.s_writes (VS.s_cutLeft (VS.s_powered (VS.s_diskBlocks x n) true) (-1)) 0) false) 0) 0) 0) j) 0) 0) false) 0) 0) 0) 0) 0) 0) 0) 0) 0) 0) 0)) := hD
  exact rfV hx hb hr hlk hS () trivial hP hD (Nat.le_of_ble_eq_true rfl) (Nat.le_of_ble_eq_true rfl) d_V_makeDisk_54
set_option maxHeartbeats 4000000 in
set_option maxRecDepth 100000 in
theorem v_format (l : Launch) (D : va_G) (dA : Nat → ClassId) (sz : Nat) (h : Nat) (ad : Nat → Nat) (x : VS) (n : Nat) (j : Nat) (h9 : x.jN ≤ 65536) (h8 : x.jkept < 2 ^ 31) (h1 : 16 ≤ n) (h2 : n ≤ 256) (h3 : 2 ≤ j) (h4 : j ≤ n - 8) : Met l ⟨"SeriesVault", "format", "(II)V"⟩ [Cond.code ⟨"SeriesVault", "format", "(II)V"⟩ prog_1_method_8_code 3 none] { frames := 5, cells := 0, slots := 0, locals := 98 } (pC D dA [.ref h, .int (nI n), .int (nI j)] (VW dA h ad x) sz) (va_Qv (fun (u9 : Unit) => True) (fun (u9 : Unit) t9 => bW D (va_A (VW dA h ad x) sz) (VW dA h ad (VS.s_scat (VS.s_sser (VS.s_shor (VS.s_ssc (VS.s_spc (VS.s_ncat (VS.s_nser (VS.s_nhor (VS.s_nsc (VS.s_npc (VS.s_hsize (VS.s_jch (VS.s_jfill (VS.s_jblock (VS.s_jlimit (VS.s_junits (VS.s_jkept (VS.s_jsize (VS.s_hasTable (VS.s_writes (VS.s_cutLeft (VS.s_powered (VS.s_diskBlocks x n) true) (-1)) 0) false) 0) 0) 0) j) 0) 0) false) 0) 0) 0) 0) 0) 0) 0) 0) 0) 0) 0)) t9) (va_A (VW dA h ad x) sz)) 0 0 (va_A (VW dA h ad x) sz) := by
  refine mkC (y := ⟨"SeriesVault", "format", "(II)V"⟩) (cc := prog_1_method_8_code) (maxL := 3) (av := [.ref h, .int (nI n), .int (nI j)]) (ws := VW dA h ad x) (sz := sz) (Qc := fun A => va_Qv (fun (u9 : Unit) => True) (fun (u9 : Unit) t9 => bW D A (VW dA h ad (VS.s_scat (VS.s_sser (VS.s_shor (VS.s_ssc (VS.s_spc (VS.s_ncat (VS.s_nser (VS.s_nhor (VS.s_nsc (VS.s_npc (VS.s_hsize (VS.s_jch (VS.s_jfill (VS.s_jblock (VS.s_jlimit (VS.s_junits (VS.s_jkept (VS.s_jsize (VS.s_hasTable (VS.s_writes (VS.s_cutLeft (VS.s_powered (VS.s_diskBlocks x n) true) (-1)) 0) false) 0) 0) 0) j) 0) 0) false) 0) 0) 0) 0) 0) 0) 0) 0) 0) 0) 0)) t9) A) (by decide) (Nat.le_of_ble_eq_true rfl) ?_
  intro A p e s m below meth c ls hsz hB
  obtain ⟨hx, hb, hr, hml, hown, hin, hlk, hE, hK, hP, hD, hS, hA, hN, hl⟩ := hB
  have hown : s.vm.findClass "SeriesVault" = some m.cls := hown
  have hl : lv_has ls 3 [(0, .ref h), (1, .int (nI n)), (2, .int (nI j))] := hl
  obtain ⟨H, hH⟩ : ∃ z, z = s.heap := ⟨_, rfl⟩
  have hP : va_P D vwCl (VW dA h ad x) H := by rw [hH]; exact hP
  have hS : va_S A s.heap H [] := by rw [hH]; exact hS
  rw [← hH]
  refine lv_iload_n hx hb d_V_format_0 rfl (lv_at hl 1 rfl) ?_
  refine lv_bipush (v := 16) hx hb d_V_format_1 (by decide) ?_
  refine lv_icmp_lt hx hb d_V_format_3 (tgt := 26) rfl (fun h9 => absurd h9 (mt (nI_ltI (a := n) (b := 16) (by omega) (by omega)).mp (Nat.not_lt.mpr h1))) (fun _ => ?_)
  refine lv_iload_n hx hb d_V_format_6 rfl (lv_at hl 1 rfl) ?_
  refine lv_sipush (v := 256) hx hb d_V_format_7 (by decide) ?_
  refine lv_icmp_gt hx hb d_V_format_10 (tgt := 26) rfl (fun h9 => absurd h9 (mt (nI_ltI (a := 256) (b := n) (by omega) (by omega)).mp (Nat.not_lt.mpr h2))) (fun _ => ?_)
  refine lv_iload_n hx hb d_V_format_13 rfl (lv_at hl 2 rfl) ?_
  refine lv_iconst (v := 2) hx hb d_V_format_14 (by decide) ?_
  refine lv_icmp_lt hx hb d_V_format_15 (tgt := 26) rfl (fun h9 => absurd h9 (mt (nI_ltI (a := j) (b := 2) (by omega) (by omega)).mp (Nat.not_lt.mpr h3))) (fun _ => ?_)
  refine lv_iload_n hx hb d_V_format_18 rfl (lv_at hl 2 rfl) ?_
  refine lv_iload_n hx hb d_V_format_19 rfl (lv_at hl 1 rfl) ?_
  refine lv_bipush (v := 8) hx hb d_V_format_20 (by decide) ?_
  refine lv_isub hx hb d_V_format_22 (tpi (y := nI (n - 8)) (pk_sub (a := n) (b := 8) (by omega)) ?_)
  refine lv_icmp_le hx hb d_V_format_23 (tgt := 34) rfl (fun _ => ?_) (fun h9 => absurd ((nI_leI (a := j) (b := n - 8) (by omega) (by omega)).mpr h4) h9)
  refine lv_aload_n hx hb d_V_format_34 rfl (lv_at hl 0 rfl) ?_
  refine lv_iload_n hx hb d_V_format_35 rfl (lv_at hl 1 rfl) ?_
  refine lv_iload_n hx hb d_V_format_36 rfl (lv_at hl 2 rfl) ?_
  refine jfV (rnV (As := [.int (nI n), .int (nI j)]) (rest := []) hx hb hml hown hE hK (hN _ _ hS) hP hD (v_makeDisk l D dA H.size h ad x n j (show x.jN ≤ 65536 from by omega) (show x.jkept < 2 ^ 31 from by omega)) (q0 := 0) rfl rfl w589 w588 w590 w591 w277 rfl rfl ⟨⟨by decide, by decide⟩, rfl⟩ ⟨(Nat.le_of_ble_eq_true rfl), (Nat.le_of_ble_eq_true rfl)⟩ rfl hl.1 rfl (Nat.le_of_ble_eq_true rfl) d_V_format_37 ⟨(Nat.le_of_ble_eq_true rfl), (Nat.le_of_ble_eq_true rfl)⟩) hP hD hS hA (fun u2 H locs hp9 hP hD hS => ?_)
  have hP : va_P D vwCl (VW dA h ad (VS.s_scat (VS.s_sser (VS.s_shor (VS.s_ssc (VS.s_spc (VS.s_ncat (VS.s_nser (VS.s_nhor (VS.s_nsc (VS.s_npc (VS.s_hsize (VS.s_jch (VS.s_jfill (VS.s_jblock (VS.s_jlimit (VS.s_junits (VS.s_jkept (VS.s_jsize (VS.s_hasTable (VS.s_writes (VS.s_cutLeft (VS.s_powered (VS.s_diskBlocks x n) true) (-1)) 0) false) 0) 0) 0) j) 0) 0) false) 0) 0) 0) 0) 0) 0) 0) 0) 0) 0) 0)) H := hP
  have hD : va_D A (VW dA h ad (VS.s_scat (VS.s_sser (VS.s_shor (VS.s_ssc (VS.s_spc (VS.s_ncat (VS.s_nser (VS.s_nhor (VS.s_nsc (VS.s_npc (VS.s_hsize (VS.s_jch (VS.s_jfill (VS.s_jblock (VS.s_jlimit (VS.s_junits (VS.s_jkept (VS.s_jsize (VS.s_hasTable (VS.s_writes (VS.s_cutLeft (VS.s_powered (VS.s_diskBlocks x n) true) (-1)) 0) false) 0) 0) 0) j) 0) 0) false) 0) 0) 0) 0) 0) 0) 0) 0) 0) 0) 0)) := hD
  exact rfV hx hb hr hlk hS () trivial hP hD (Nat.le_of_ble_eq_true rfl) (Nat.le_of_ble_eq_true rfl) d_V_format_40
def VS.apF (x : VS) (ja pa : Nat → Nat) (w : Nat) (a b : Int64) : VS := (x.wrF ja 1 w 1 a b).cmF pa w a b
theorem wrF_h (x : VS) (ja : Nat → Nat) (kd w n : Nat) (a b : Int64) : (x.wrF ja kd w n a b).hsize = x.hsize ∧ (x.wrF ja kd w n a b).hN = x.hN ∧ (x.wrF ja kd w n a b).nhor = x.nhor ∧ (x.wrF ja kd w n a b).cmcap = x.cmcap := by
  unfold VS.wrF VS.wrB VS.wjS VS.jadF
  repeat' split
  all_goals exact ⟨rfl, rfl, rfl, rfl⟩
theorem d_V_addPoint_0 : decode prog_1_method_31_code 0 = .ok (.aload_n 0, 1) := by decide +kernel
theorem d_V_addPoint_1 : decode prog_1_method_31_code 1 = .ok (.iconst 1, 1) := by decide +kernel
theorem d_V_addPoint_2 : decode prog_1_method_31_code 2 = .ok (.iload_n 1, 1) := by decide +kernel
theorem d_V_addPoint_3 : decode prog_1_method_31_code 3 = .ok (.iconst 1, 1) := by decide +kernel
theorem d_V_addPoint_4 : decode prog_1_method_31_code 4 = .ok (.lload_n 2, 1) := by decide +kernel
theorem d_V_addPoint_5 : decode prog_1_method_31_code 5 = .ok (.lload 4, 2) := by decide +kernel
theorem d_V_addPoint_7 : decode prog_1_method_31_code 7 = .ok (.invokevirtual 241, 3) := by decide +kernel
theorem d_V_addPoint_10 : decode prog_1_method_31_code 10 = .ok (.aload_n 0, 1) := by decide +kernel
theorem d_V_addPoint_11 : decode prog_1_method_31_code 11 = .ok (.iload_n 1, 1) := by decide +kernel
theorem d_V_addPoint_12 : decode prog_1_method_31_code 12 = .ok (.lload_n 2, 1) := by decide +kernel
theorem d_V_addPoint_13 : decode prog_1_method_31_code 13 = .ok (.lload 4, 2) := by decide +kernel
theorem d_V_addPoint_15 : decode prog_1_method_31_code 15 = .ok (.invokevirtual 176, 3) := by decide +kernel
theorem d_V_addPoint_18 : decode prog_1_method_31_code 18 = .ok (.return_, 1) := by decide +kernel
theorem w1132 : Cond.methodLink "SeriesVault" 241 ⟨"SeriesVault", "writeRecord", "(IIIJJ)V"⟩ ∈ aW := aw_of (tb_5 (List.mem_of_getElem? (i := 42) rfl)) rfl
theorem w1133 : Cond.code ⟨"SeriesVault", "writeRecord", "(IIIJJ)V"⟩ prog_1_method_20_code 8 none ∈ aW := aw_of (tb_5 (List.mem_of_getElem? (i := 45) rfl)) rfl
theorem w1134 : Cond.instanceMethod ⟨"SeriesVault", "writeRecord", "(IIIJJ)V"⟩ ∈ aW := aw_of (tb_5 (List.mem_of_getElem? (i := 44) rfl)) rfl
theorem w1135 : Cond.selects "SeriesVault" ⟨"SeriesVault", "writeRecord", "(IIIJJ)V"⟩ ⟨"SeriesVault", "writeRecord", "(IIIJJ)V"⟩ ∈ aW := aw_pr (List.mem_map.mpr ⟨_, pv_1 (List.mem_of_getElem? (i := 13) rfl), rfl⟩) rfl
theorem w1136 : Cond.methodLink "SeriesVault" 176 ⟨"SeriesVault", "comePoint", "(IJJ)V"⟩ ∈ aW := aw_of (tb_5 (List.mem_of_getElem? (i := 149) rfl)) rfl
theorem w1137 : Cond.code ⟨"SeriesVault", "comePoint", "(IJJ)V"⟩ prog_1_method_32_code 6 none ∈ aW := aw_of (tb_5 (List.mem_of_getElem? (i := 152) rfl)) rfl
theorem w1138 : Cond.instanceMethod ⟨"SeriesVault", "comePoint", "(IJJ)V"⟩ ∈ aW := aw_of (tb_5 (List.mem_of_getElem? (i := 151) rfl)) rfl
theorem w1139 : Cond.selects "SeriesVault" ⟨"SeriesVault", "comePoint", "(IJJ)V"⟩ ⟨"SeriesVault", "comePoint", "(IJJ)V"⟩ ∈ aW := aw_pr (List.mem_map.mpr ⟨_, pv_2 (List.mem_of_getElem? (i := 4) rfl), rfl⟩) rfl
set_option maxHeartbeats 4000000 in
set_option maxRecDepth 100000 in
theorem v_addPoint (l : Launch) (D : va_G) (dA : Nat → ClassId) (sz : Nat) (h : Nat) (ad : Nat → Nat) (x : VS) (w : Nat) (a : Int64) (b : Int64) (hs1 : x.jsize ≤ x.jN) (hs2 : 0 < x.jN) (hs3 : x.jN ≤ 65536) (hfu : x.jfill + 1 < 2 ^ 31) (hcr : x.jfill + 1 ≤ 126 ∨ x.jch = false ∨ ¬ x.cutLeft = 0) (hw : w < 256) (hp1 : x.hsize ≤ x.hN) (hp2 : 0 < x.hN) (hp3 : x.hN ≤ 32768) : Met l ⟨"SeriesVault", "addPoint", "(IJJ)V"⟩ [Cond.code ⟨"SeriesVault", "addPoint", "(IJJ)V"⟩ prog_1_method_31_code 6 none] { frames := 5, cells := 6 * (x.jcap - x.jN) + 3 * (x.cmcap a - x.hN), slots := 12 * (x.jcap - x.jN) + 6 * (x.cmcap a - x.hN), locals := 136 } (pC D dA [.ref h, .int (nI w), .long a, .long b] (VW dA h ad x) sz) (va_Qv (fun (u9 : VS) => ∃ ja pa : Nat → Nat, u9 = x.apF ja pa w a b) (fun (u9 : VS) t9 => bW D (va_A (VW dA h ad x) sz) (VW dA h ad u9) t9) (va_A (VW dA h ad x) sz)) (6 * (x.jcap - x.jN) + 3 * (x.cmcap a - x.hN)) (12 * (x.jcap - x.jN) + 6 * (x.cmcap a - x.hN)) (va_A (VW dA h ad x) sz) := by
  refine mkC (y := ⟨"SeriesVault", "addPoint", "(IJJ)V"⟩) (cc := prog_1_method_31_code) (maxL := 6) (av := [.ref h, .int (nI w), .long a, .long b]) (ws := VW dA h ad x) (sz := sz) (Qc := fun A => va_Qv (fun (u9 : VS) => ∃ ja pa : Nat → Nat, u9 = x.apF ja pa w a b) (fun (u9 : VS) t9 => bW D A (VW dA h ad u9) t9) A) (by decide) (Nat.le_of_ble_eq_true rfl) ?_
  intro A p e s m below meth c ls hsz hB
  obtain ⟨hx, hb, hr, hml, hown, hin, hlk, hE, hK, hP, hD, hS, hA, hN, hl⟩ := hB
  have hown : s.vm.findClass "SeriesVault" = some m.cls := hown
  have hl : lv_has ls 6 [(0, .ref h), (1, .int (nI w)), (2, .long a), (4, .long b)] := hl
  obtain ⟨H, hH⟩ : ∃ z, z = s.heap := ⟨_, rfl⟩
  have hP : va_P D vwCl (VW dA h ad x) H := by rw [hH]; exact hP
  have hS : va_S A s.heap H [] := by rw [hH]; exact hS
  rw [← hH]
  refine lv_aload_n hx hb d_V_addPoint_0 rfl (lv_at hl 0 rfl) ?_
  refine lv_iconst (v := 1) hx hb d_V_addPoint_1 (by decide) ?_
  refine lv_iload_n hx hb d_V_addPoint_2 rfl (lv_at hl 1 rfl) ?_
  refine lv_iconst (v := 1) hx hb d_V_addPoint_3 (by decide) ?_
  refine lv_lload_n hx hb d_V_addPoint_4 rfl (lv_at hl 2 rfl) ?_
  refine lv_lload hx hb d_V_addPoint_5 (lv_at hl 3 rfl) ?_
  refine jfV (rnV (As := [.int 1, .int (nI w), .int 1, .long a, .long b]) (rest := []) hx hb hml hown hE hK (hN _ _ hS) hP hD (v_writeRecord l D dA H.size h ad x 1 w 1 a b (show x.jsize ≤ x.jN from by omega) (show 0 < x.jN from by omega) (show x.jN ≤ 65536 from by omega) (show x.jfill + 1 < 2 ^ 31 from by omega) hcr) (q0 := 0) rfl rfl w1133 w1132 w1134 w1135 w277 rfl rfl ⟨⟨by decide, by decide⟩, rfl⟩ ⟨(Nat.le_of_ble_eq_true rfl), (Nat.le_of_ble_eq_true rfl)⟩ rfl hl.1 rfl (Nat.le_of_ble_eq_true rfl) d_V_addPoint_7 ⟨(show 0 + (6 * (x.jcap - x.jN)) ≤ 6 * (x.jcap - x.jN) + 3 * (x.cmcap a - x.hN) by omega), (show 0 + (12 * (x.jcap - x.jN)) ≤ 12 * (x.jcap - x.jN) + 6 * (x.cmcap a - x.hN) by omega)⟩) hP hD hS hA (fun u2 H locs hp9 hP hD hS => ?_)
  obtain ⟨y3, h9u⟩ : ∃ z9, z9 = u2 := ⟨_, rfl⟩
  subst h9u
  have hP : va_P D vwCl (VW dA h ad y3) H := hP
  have hD : va_D A (VW dA h ad y3) := hD
  have f_e_4 := hp9
  obtain ⟨ja, eja⟩ := f_e_4
  obtain ⟨z1, z2, z3, z4⟩ := wrF_h x ja 1 w 1 a b
  rw [← eja] at z1 z2 z3 z4
  have z5 : y3.cmcap a = x.cmcap a := congrFun z4 a
  refine lv_aload_n hx hb d_V_addPoint_10 rfl (lv_at hl 0 rfl) ?_
  refine lv_iload_n hx hb d_V_addPoint_11 rfl (lv_at hl 1 rfl) ?_
  refine lv_lload_n hx hb d_V_addPoint_12 rfl (lv_at hl 2 rfl) ?_
  refine lv_lload hx hb d_V_addPoint_13 (lv_at hl 3 rfl) ?_
  refine jfV (rnV (As := [.int (nI w), .long a, .long b]) (rest := []) hx hb hml hown hE hK (hN _ _ hS) hP hD (v_comePoint l D dA H.size h ad y3 w a b hw (by rw [z1, z2]; exact hp1) (by rw [z2]; exact hp2) (by rw [z2]; exact hp3)) (q0 := 0) rfl rfl w1137 w1136 w1138 w1139 w277 rfl rfl ⟨⟨by decide, by decide⟩, rfl⟩ ⟨(Nat.le_of_ble_eq_true rfl), (Nat.le_of_ble_eq_true rfl)⟩ rfl hl.1 rfl (Nat.le_of_ble_eq_true rfl) d_V_addPoint_15 ⟨(show 0 + (6 * (x.jcap - x.jN)) + (3 * (y3.cmcap a - y3.hN)) ≤ 6 * (x.jcap - x.jN) + 3 * (x.cmcap a - x.hN) by omega), (show 0 + (12 * (x.jcap - x.jN)) + (6 * (y3.cmcap a - y3.hN)) ≤ 12 * (x.jcap - x.jN) + 6 * (x.cmcap a - x.hN) by omega)⟩) hP hD hS hA (fun u6 H locs hp9 hP hD hS => ?_)
  obtain ⟨y7, h9u⟩ : ∃ z9, z9 = u6 := ⟨_, rfl⟩
  subst h9u
  have hP : va_P D vwCl (VW dA h ad y7) H := hP
  have hD : va_D A (VW dA h ad y7) := hD
  have f_e_8 := hp9
  exact rfV hx hb hr hlk hS y7 (by obtain ⟨pa, h9⟩ := f_e_8; exact ⟨ja, pa, by unfold VS.apF; rw [← eja]; exact h9⟩) hP hD (show 0 + (6 * (x.jcap - x.jN)) + (3 * (y3.cmcap a - y3.hN)) ≤ 6 * (x.jcap - x.jN) + 3 * (x.cmcap a - x.hN) by omega) (show 0 + (12 * (x.jcap - x.jN)) + (6 * (y3.cmcap a - y3.hN)) ≤ 12 * (x.jcap - x.jN) + 6 * (x.cmcap a - x.hN) by omega) d_V_addPoint_18
