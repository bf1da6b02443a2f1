set_option maxHeartbeats 4000000 in
set_option maxRecDepth 100000 in
theorem v_hclear_n (l : Launch) (D : va_G) (dA : Nat → ClassId) (sz : Nat) (h : Nat) (ad : Nat → Nat) (x : VS) : Met l ⟨"SeriesVault$Shelf", "clear", "()V"⟩ [Cond.code ⟨"SeriesVault$Shelf", "clear", "()V"⟩ prog_9_method_2_code 1 none] { frames := 1, cells := 0, slots := 0, locals := 0 } (pC D dA [.ref (ad 3)] (VW dA h ad x) sz) (va_Qv (fun (u9 : Unit) => True) (fun (u9 : Unit) t9 => bW D (va_A (VW dA h ad x) sz) (VW dA h ad (VS.s_ncat (VS.s_nser (VS.s_nhor (VS.s_nsc (VS.s_npc x 0) 0) 0) 0) 0)) t9) (va_A (VW dA h ad x) sz)) 0 0 (va_A (VW dA h ad x) sz) := by
  refine mkC (y := ⟨"SeriesVault$Shelf", "clear", "()V"⟩) (cc := prog_9_method_2_code) (maxL := 1) (av := [.ref (ad 3)]) (ws := VW dA h ad x) (sz := sz) (Qc := fun A => va_Qv (fun (u9 : Unit) => True) (fun (u9 : Unit) t9 => bW D A (VW dA h ad (VS.s_ncat (VS.s_nser (VS.s_nhor (VS.s_nsc (VS.s_npc x 0) 0) 0) 0) 0)) t9) A) (by decide) (Nat.le_of_ble_eq_true rfl) ?_
  intro A p e s m below meth c ls hsz hB
  obtain ⟨hx, hb, hr, hml, hown, hin, hlk, hE, hK, hP, hD, hS, hA, hN, hl⟩ := hB
  have hown : s.vm.findClass "SeriesVault$Shelf" = some m.cls := hown
  have hl : lv_has ls 1 [(0, .ref (ad 3))] := hl
  obtain ⟨H, hH⟩ : ∃ z, z = s.heap := ⟨_, rfl⟩
  have hP : va_P D vwCl (VW dA h ad x) H := by rw [hH]; exact hP
  have hS : va_S A s.heap H [] := by rw [hH]; exact hS
  rw [← hH]
  refine lv_aload_n hx hb d_H_clear_0 rfl (lv_at hl 0 rfl) ?_
  refine lv_iconst (v := 0) hx hb d_H_clear_1 (by decide) ?_
  refine pF (v := .int (nI 0)) hx hb hown hE hK hP hD hS 17 rfl rfl layH tyH tokH nmH 1 (by decide) w566 rfl rfl rfl (Nat.le_of_ble_eq_true rfl) d_H_clear_2 (fun H locs hP hD hS => ?_)
  have hP : va_P D vwCl (VW dA h ad (VS.s_npc x 0)) H := hP
  have hD : va_D A (VW dA h ad (VS.s_npc x 0)) := hD
  refine lv_aload_n hx hb d_H_clear_5 rfl (lv_at hl 0 rfl) ?_
  refine lv_iconst (v := 0) hx hb d_H_clear_6 (by decide) ?_
  refine pF (v := .int (nI 0)) hx hb hown hE hK hP hD hS 17 rfl rfl layH tyH tokH nmH 6 (by decide) w567 rfl rfl rfl (Nat.le_of_ble_eq_true rfl) d_H_clear_7 (fun H locs hP hD hS => ?_)
  have hP : va_P D vwCl (VW dA h ad (VS.s_nsc (VS.s_npc x 0) 0)) H := hP
  have hD : va_D A (VW dA h ad (VS.s_nsc (VS.s_npc x 0) 0)) := hD
  refine lv_aload_n hx hb d_H_clear_10 rfl (lv_at hl 0 rfl) ?_
  refine lv_lconst (v := 0) hx hb d_H_clear_11 (by decide) ?_
  refine pF (v := .long 0) hx hb hown hE hK hP hD hS 17 rfl rfl layH tyH tokH nmH 7 (by decide) w568 rfl rfl rfl (Nat.le_of_ble_eq_true rfl) d_H_clear_12 (fun H locs hP hD hS => ?_)
  have hP : va_P D vwCl (VW dA h ad (VS.s_nhor (VS.s_nsc (VS.s_npc x 0) 0) 0)) H := hP
  have hD : va_D A (VW dA h ad (VS.s_nhor (VS.s_nsc (VS.s_npc x 0) 0) 0)) := hD
  refine lv_aload_n hx hb d_H_clear_15 rfl (lv_at hl 0 rfl) ?_
  refine lv_iconst (v := 0) hx hb d_H_clear_16 (by decide) ?_
  refine pF (v := .int (nI 0)) hx hb hown hE hK hP hD hS 17 rfl rfl layH tyH tokH nmH 8 (by decide) w569 rfl rfl rfl (Nat.le_of_ble_eq_true rfl) d_H_clear_17 (fun H locs hP hD hS => ?_)
  have hP : va_P D vwCl (VW dA h ad (VS.s_nser (VS.s_nhor (VS.s_nsc (VS.s_npc x 0) 0) 0) 0)) H := hP
  have hD : va_D A (VW dA h ad (VS.s_nser (VS.s_nhor (VS.s_nsc (VS.s_npc x 0) 0) 0) 0)) := hD
  refine lv_aload_n hx hb d_H_clear_20 rfl (lv_at hl 0 rfl) ?_
  refine lv_iconst (v := 0) hx hb d_H_clear_21 (by decide) ?_
  refine pF (v := .int (nI 0)) hx hb hown hE hK hP hD hS 17 rfl rfl layH tyH tokH nmH 10 (by decide) w570 rfl rfl rfl (Nat.le_of_ble_eq_true rfl) d_H_clear_22 (fun H locs hP hD hS => ?_)
  have hP : va_P D vwCl (VW dA h ad (VS.s_ncat (VS.s_nser (VS.s_nhor (VS.s_nsc (VS.s_npc x 0) 0) 0) 0) 0)) H := hP
  have hD : va_D A (VW dA h ad (VS.s_ncat (VS.s_nser (VS.s_nhor (VS.s_nsc (VS.s_npc x 0) 0) 0) 0) 0)) := hD
  exact rfV hx hb hr hlk hS () trivial hP hD (Nat.le_of_ble_eq_true rfl) (Nat.le_of_ble_eq_true rfl) d_H_clear_25
set_option maxHeartbeats 4000000 in
set_option maxRecDepth 100000 in
theorem v_hclear_s (l : Launch) (D : va_G) (dA : Nat → ClassId) (sz : Nat) (h : Nat) (ad : Nat → Nat) (x : VS) : Met l ⟨"SeriesVault$Shelf", "clear", "()V"⟩ [Cond.code ⟨"SeriesVault$Shelf", "clear", "()V"⟩ prog_9_method_2_code 1 none] { frames := 1, cells := 0, slots := 0, locals := 0 } (pC D dA [.ref (ad 10)] (VW dA h ad x) sz) (va_Qv (fun (u9 : Unit) => True) (fun (u9 : Unit) t9 => bW D (va_A (VW dA h ad x) sz) (VW dA h ad (VS.s_scat (VS.s_sser (VS.s_shor (VS.s_ssc (VS.s_spc x 0) 0) 0) 0) 0)) t9) (va_A (VW dA h ad x) sz)) 0 0 (va_A (VW dA h ad x) sz) := by
  refine mkC (y := ⟨"SeriesVault$Shelf", "clear", "()V"⟩) (cc := prog_9_method_2_code) (maxL := 1) (av := [.ref (ad 10)]) (ws := VW dA h ad x) (sz := sz) (Qc := fun A => va_Qv (fun (u9 : Unit) => True) (fun (u9 : Unit) t9 => bW D A (VW dA h ad (VS.s_scat (VS.s_sser (VS.s_shor (VS.s_ssc (VS.s_spc x 0) 0) 0) 0) 0)) t9) A) (by decide) (Nat.le_of_ble_eq_true rfl) ?_
  intro A p e s m below meth c ls hsz hB
  obtain ⟨hx, hb, hr, hml, hown, hin, hlk, hE, hK, hP, hD, hS, hA, hN, hl⟩ := hB
  have hown : s.vm.findClass "SeriesVault$Shelf" = some m.cls := hown
  have hl : lv_has ls 1 [(0, .ref (ad 10))] := hl
  obtain ⟨H, hH⟩ : ∃ z, z = s.heap := ⟨_, rfl⟩
  have hP : va_P D vwCl (VW dA h ad x) H := by rw [hH]; exact hP
  have hS : va_S A s.heap H [] := by rw [hH]; exact hS
  rw [← hH]
  refine lv_aload_n hx hb d_H_clear_0 rfl (lv_at hl 0 rfl) ?_
  refine lv_iconst (v := 0) hx hb d_H_clear_1 (by decide) ?_
  refine pF (v := .int (nI 0)) hx hb hown hE hK hP hD hS 24 rfl rfl layH tyH tokH nmH 1 (by decide) w566 rfl rfl rfl (Nat.le_of_ble_eq_true rfl) d_H_clear_2 (fun H locs hP hD hS => ?_)
  have hP : va_P D vwCl (VW dA h ad (VS.s_spc x 0)) H := hP
  have hD : va_D A (VW dA h ad (VS.s_spc x 0)) := hD
  refine lv_aload_n hx hb d_H_clear_5 rfl (lv_at hl 0 rfl) ?_
  refine lv_iconst (v := 0) hx hb d_H_clear_6 (by decide) ?_
  refine pF (v := .int (nI 0)) hx hb hown hE hK hP hD hS 24 rfl rfl layH tyH tokH nmH 6 (by decide) w567 rfl rfl rfl (Nat.le_of_ble_eq_true rfl) d_H_clear_7 (fun H locs hP hD hS => ?_)
  have hP : va_P D vwCl (VW dA h ad (VS.s_ssc (VS.s_spc x 0) 0)) H := hP
  have hD : va_D A (VW dA h ad (VS.s_ssc (VS.s_spc x 0) 0)) := hD
  refine lv_aload_n hx hb d_H_clear_10 rfl (lv_at hl 0 rfl) ?_
  refine lv_lconst (v := 0) hx hb d_H_clear_11 (by decide) ?_
  refine pF (v := .long 0) hx hb hown hE hK hP hD hS 24 rfl rfl layH tyH tokH nmH 7 (by decide) w568 rfl rfl rfl (Nat.le_of_ble_eq_true rfl) d_H_clear_12 (fun H locs hP hD hS => ?_)
  have hP : va_P D vwCl (VW dA h ad (VS.s_shor (VS.s_ssc (VS.s_spc x 0) 0) 0)) H := hP
  have hD : va_D A (VW dA h ad (VS.s_shor (VS.s_ssc (VS.s_spc x 0) 0) 0)) := hD
  refine lv_aload_n hx hb d_H_clear_15 rfl (lv_at hl 0 rfl) ?_
  refine lv_iconst (v := 0) hx hb d_H_clear_16 (by decide) ?_
  refine pF (v := .int (nI 0)) hx hb hown hE hK hP hD hS 24 rfl rfl layH tyH tokH nmH 8 (by decide) w569 rfl rfl rfl (Nat.le_of_ble_eq_true rfl) d_H_clear_17 (fun H locs hP hD hS => ?_)
  have hP : va_P D vwCl (VW dA h ad (VS.s_sser (VS.s_shor (VS.s_ssc (VS.s_spc x 0) 0) 0) 0)) H := hP
  have hD : va_D A (VW dA h ad (VS.s_sser (VS.s_shor (VS.s_ssc (VS.s_spc x 0) 0) 0) 0)) := hD
  refine lv_aload_n hx hb d_H_clear_20 rfl (lv_at hl 0 rfl) ?_
  refine lv_iconst (v := 0) hx hb d_H_clear_21 (by decide) ?_
  refine pF (v := .int (nI 0)) hx hb hown hE hK hP hD hS 24 rfl rfl layH tyH tokH nmH 10 (by decide) w570 rfl rfl rfl (Nat.le_of_ble_eq_true rfl) d_H_clear_22 (fun H locs hP hD hS => ?_)
  have hP : va_P D vwCl (VW dA h ad (VS.s_scat (VS.s_sser (VS.s_shor (VS.s_ssc (VS.s_spc x 0) 0) 0) 0) 0)) H := hP
  have hD : va_D A (VW dA h ad (VS.s_scat (VS.s_sser (VS.s_shor (VS.s_ssc (VS.s_spc x 0) 0) 0) 0) 0)) := hD
  exact rfV hx hb hr hlk hS () trivial hP hD (Nat.le_of_ble_eq_true rfl) (Nat.le_of_ble_eq_true rfl) d_H_clear_25
theorem d_H_addSeries_0 : decode prog_9_method_5_code 0 = .ok (.aload_n 0, 1) := by decide +kernel
theorem d_H_addSeries_1 : decode prog_9_method_5_code 1 = .ok (.getfield 45, 3) := by decide +kernel
theorem d_H_addSeries_4 : decode prog_9_method_5_code 4 = .ok (.sipush 256, 3) := by decide +kernel
theorem d_H_addSeries_7 : decode prog_9_method_5_code 7 = .ok (.if_icmp .ge 25, 3) := by decide +kernel
theorem d_H_addSeries_10 : decode prog_9_method_5_code 10 = .ok (.aload_n 0, 1) := by decide +kernel
theorem d_H_addSeries_11 : decode prog_9_method_5_code 11 = .ok (.getfield 31, 3) := by decide +kernel
theorem d_H_addSeries_14 : decode prog_9_method_5_code 14 = .ok (.aload_n 0, 1) := by decide +kernel
theorem d_H_addSeries_15 : decode prog_9_method_5_code 15 = .ok (.getfield 45, 3) := by decide +kernel
theorem d_H_addSeries_18 : decode prog_9_method_5_code 18 = .ok (.ldc2_w 57, 3) := by decide +kernel
theorem d_H_addSeries_21 : decode prog_9_method_5_code 21 = .ok (.lastore, 1) := by decide +kernel
theorem d_H_addSeries_22 : decode prog_9_method_5_code 22 = .ok (.aload_n 0, 1) := by decide +kernel
theorem d_H_addSeries_23 : decode prog_9_method_5_code 23 = .ok (.dup, 1) := by decide +kernel
theorem d_H_addSeries_24 : decode prog_9_method_5_code 24 = .ok (.getfield 45, 3) := by decide +kernel
theorem d_H_addSeries_27 : decode prog_9_method_5_code 27 = .ok (.iconst 1, 1) := by decide +kernel
theorem d_H_addSeries_28 : decode prog_9_method_5_code 28 = .ok (.iadd, 1) := by decide +kernel
theorem d_H_addSeries_29 : decode prog_9_method_5_code 29 = .ok (.putfield 45, 3) := by decide +kernel
theorem d_H_addSeries_32 : decode prog_9_method_5_code 32 = .ok (.return_, 1) := by decide +kernel
theorem w1093 : Cond.constantLong "SeriesVault$Shelf" 57 (-1) ∈ aW := aw_of (tb_5 (List.mem_of_getElem? (i := 91) rfl)) rfl
set_option maxHeartbeats 4000000 in
set_option maxRecDepth 100000 in
theorem v_addSeries (l : Launch) (D : va_G) (dA : Nat → ClassId) (sz : Nat) (h : Nat) (ad : Nat → Nat) (x : VS) (h0 : x.nser < 256) : Met l ⟨"SeriesVault$Shelf", "addSeries", "()V"⟩ [Cond.code ⟨"SeriesVault$Shelf", "addSeries", "()V"⟩ prog_9_method_5_code 1 none] { frames := 1, cells := 0, slots := 0, locals := 0 } (pC D dA [.ref (ad 3)] (VW dA h ad x) sz) (va_Qv (fun (u9 : Unit) => True) (fun (u9 : Unit) t9 => bW D (va_A (VW dA h ad x) sz) (VW dA h ad (VS.s_nlast (VS.s_nser x (x.nser + 1)) (va_up x.nlast x.nser (-1)))) t9) (va_A (VW dA h ad x) sz)) 0 0 (va_A (VW dA h ad x) sz) := by
  refine mkC (y := ⟨"SeriesVault$Shelf", "addSeries", "()V"⟩) (cc := prog_9_method_5_code) (maxL := 1) (av := [.ref (ad 3)]) (ws := VW dA h ad x) (sz := sz) (Qc := fun A => va_Qv (fun (u9 : Unit) => True) (fun (u9 : Unit) t9 => bW D A (VW dA h ad (VS.s_nlast (VS.s_nser x (x.nser + 1)) (va_up x.nlast x.nser (-1)))) t9) A) (by decide) (Nat.le_of_ble_eq_true rfl) ?_
  intro A p e s m below meth c ls hsz hB
  obtain ⟨hx, hb, hr, hml, hown, hin, hlk, hE, hK, hP, hD, hS, hA, hN, hl⟩ := hB
  have hown : s.vm.findClass "SeriesVault$Shelf" = some m.cls := hown
  have hl : lv_has ls 1 [(0, .ref (ad 3))] := hl
  obtain ⟨H, hH⟩ : ∃ z, z = s.heap := ⟨_, rfl⟩
  have hP : va_P D vwCl (VW dA h ad x) H := by rw [hH]; exact hP
  have hS : va_S A s.heap H [] := by rw [hH]; exact hS
  rw [← hH]
  refine lv_aload_n hx hb d_H_addSeries_0 rfl (lv_at hl 0 rfl) ?_
  refine gF (v := .int (nI x.nser)) hx hb hown hE hK hP 17 rfl rfl layH 8 (by decide) w569 rfl d_H_addSeries_1 ?_
  refine lv_sipush (v := 256) hx hb d_H_addSeries_4 (by decide) ?_
  refine lv_icmp_ge hx hb d_H_addSeries_7 (tgt := 32) rfl (fun h9 => absurd h9 (mt (nI_leI (a := 256) (b := x.nser) (by omega) (by omega)).mp (Nat.not_le.mpr h0))) (fun _ => ?_)
  refine lv_aload_n hx hb d_H_addSeries_10 rfl (lv_at hl 0 rfl) ?_
  refine gF (v := .ref (ad 9)) hx hb hown hE hK hP 17 rfl rfl layH 9 (by decide) w204 rfl d_H_addSeries_11 ?_
  refine lv_aload_n hx hb d_H_addSeries_14 rfl (lv_at hl 0 rfl) ?_
  refine gF (v := .int (nI x.nser)) hx hb hown hE hK hP 17 rfl rfl layH 8 (by decide) w569 rfl d_H_addSeries_15 ?_
  refine lv_ldc2 (v := (-1)) hx hb hown (hE.t w1093 rfl) d_H_addSeries_18 ?_
  refine nlst (n := 256) hx hb hK hP hD hS 23 2 rfl rfl (x.nser) (by omega) (by decide) d_H_addSeries_21 (fun H locs hP hD hS => ?_)
  have hP : va_P D vwCl (VW dA h ad (VS.s_nlast x (va_up x.nlast x.nser (-1)))) H := hP
  have hD : va_D A (VW dA h ad (VS.s_nlast x (va_up x.nlast x.nser (-1)))) := hD
  refine lv_aload_n hx hb d_H_addSeries_22 rfl (lv_at hl 0 rfl) ?_
  refine lv_dup hx hb d_H_addSeries_23 rfl ?_
  refine gF (v := .int (nI x.nser)) hx hb hown hE hK hP 17 rfl rfl layH 8 (by decide) w569 rfl d_H_addSeries_24 ?_
  refine lv_iconst (v := 1) hx hb d_H_addSeries_27 (by decide) ?_
  refine lv_iadd hx hb d_H_addSeries_28 (tpi (y := nI (x.nser + 1)) (nI_add (x.nser) (1)) ?_)
  refine pF (v := .int (nI (x.nser + 1))) hx hb hown hE hK hP hD hS 17 rfl rfl layH tyH tokH nmH 8 (by decide) w569 rfl rfl rfl (Nat.le_of_ble_eq_true rfl) d_H_addSeries_29 (fun H locs hP hD hS => ?_)
  have hP : va_P D vwCl (VW dA h ad (VS.s_nlast (VS.s_nser x (x.nser + 1)) (va_up x.nlast x.nser (-1)))) H := hP
  have hD : va_D A (VW dA h ad (VS.s_nlast (VS.s_nser x (x.nser + 1)) (va_up x.nlast x.nser (-1)))) := hD
  exact rfV hx hb hr hlk hS () trivial hP hD (Nat.le_of_ble_eq_true rfl) (Nat.le_of_ble_eq_true rfl) d_H_addSeries_32
/-- does scar i cover a time of a series; the first that does -/
def VS.scC (x : VS) (w : Nat) (t : Int64) (i : Nat) : Bool := decide (x.nsO i = w) && (!decide (t < x.nsF i) && !decide (x.nsT i < t))
def frst (f : Nat → Bool) : Nat → Nat → Option Nat
  | 0, _ => none
  | n + 1, k => if f k = true then some k else frst f n (k + 1)
theorem frst_t {f : Nat → Bool} {n k : Nat} (hn : 0 < n) (h : f k = true) : frst f n k = some k := by
  obtain ⟨d, rfl⟩ : ∃ d, n = d + 1 := ⟨n - 1, by omega⟩
  exact if_pos h
theorem frst_f {f : Nat → Bool} {n k : Nat} (hn : 0 < n) (h : f k = false) : frst f n k = frst f (n - 1) (k + 1) := by
  obtain ⟨d, rfl⟩ : ∃ d, n = d + 1 := ⟨n - 1, by omega⟩
  exact if_neg (by rw [h]; decide)
def VS.sc1 (x : VS) (w : Nat) (t : Int64) : Option Nat := frst (x.scC w t) x.nsc 0
def opI (z : Option Nat) : Int32 := match z with
  | none => -1
  | some k => nI k
theorem d_H_scarOf_0 : decode prog_9_method_11_code 0 = .ok (.iconst 0, 1) := by decide +kernel
theorem d_H_scarOf_1 : decode prog_9_method_11_code 1 = .ok (.istore 4, 2) := by decide +kernel
theorem d_H_scarOf_3 : decode prog_9_method_11_code 3 = .ok (.iload 4, 2) := by decide +kernel
theorem d_H_scarOf_5 : decode prog_9_method_11_code 5 = .ok (.aload_n 0, 1) := by decide +kernel
theorem d_H_scarOf_6 : decode prog_9_method_11_code 6 = .ok (.getfield 38, 3) := by decide +kernel
theorem d_H_scarOf_9 : decode prog_9_method_11_code 9 = .ok (.if_icmp .ge 47, 3) := by decide +kernel
theorem d_H_scarOf_56 : decode prog_9_method_11_code 56 = .ok (.iconst (-1), 1) := by decide +kernel
theorem d_H_scarOf_57 : decode prog_9_method_11_code 57 = .ok (.ireturn, 1) := by decide +kernel
theorem d_H_scarOf_12 : decode prog_9_method_11_code 12 = .ok (.aload_n 0, 1) := by decide +kernel
theorem d_H_scarOf_13 : decode prog_9_method_11_code 13 = .ok (.getfield 17, 3) := by decide +kernel
theorem d_H_scarOf_16 : decode prog_9_method_11_code 16 = .ok (.iload 4, 2) := by decide +kernel
theorem d_H_scarOf_18 : decode prog_9_method_11_code 18 = .ok (.iaload, 1) := by decide +kernel
theorem d_H_scarOf_19 : decode prog_9_method_11_code 19 = .ok (.iload_n 1, 1) := by decide +kernel
theorem d_H_scarOf_20 : decode prog_9_method_11_code 20 = .ok (.if_icmp .ne 30, 3) := by decide +kernel
theorem d_H_scarOf_50 : decode prog_9_method_11_code 50 = .ok (.iinc 4 1, 3) := by decide +kernel
theorem d_H_scarOf_53 : decode prog_9_method_11_code 53 = .ok (.goto (-50), 3) := by decide +kernel
theorem d_H_scarOf_23 : decode prog_9_method_11_code 23 = .ok (.lload_n 2, 1) := by decide +kernel
theorem d_H_scarOf_24 : decode prog_9_method_11_code 24 = .ok (.aload_n 0, 1) := by decide +kernel
theorem d_H_scarOf_25 : decode prog_9_method_11_code 25 = .ok (.getfield 21, 3) := by decide +kernel
theorem d_H_scarOf_28 : decode prog_9_method_11_code 28 = .ok (.iload 4, 2) := by decide +kernel
theorem d_H_scarOf_30 : decode prog_9_method_11_code 30 = .ok (.laload, 1) := by decide +kernel
theorem d_H_scarOf_31 : decode prog_9_method_11_code 31 = .ok (.lcmp, 1) := by decide +kernel
theorem d_H_scarOf_32 : decode prog_9_method_11_code 32 = .ok (.ifCond .lt 18, 3) := by decide +kernel
theorem d_H_scarOf_35 : decode prog_9_method_11_code 35 = .ok (.lload_n 2, 1) := by decide +kernel
theorem d_H_scarOf_36 : decode prog_9_method_11_code 36 = .ok (.aload_n 0, 1) := by decide +kernel
theorem d_H_scarOf_37 : decode prog_9_method_11_code 37 = .ok (.getfield 25, 3) := by decide +kernel
theorem d_H_scarOf_40 : decode prog_9_method_11_code 40 = .ok (.iload 4, 2) := by decide +kernel
theorem d_H_scarOf_42 : decode prog_9_method_11_code 42 = .ok (.laload, 1) := by decide +kernel
theorem d_H_scarOf_43 : decode prog_9_method_11_code 43 = .ok (.lcmp, 1) := by decide +kernel
theorem d_H_scarOf_44 : decode prog_9_method_11_code 44 = .ok (.ifCond .gt 6, 3) := by decide +kernel
theorem d_H_scarOf_47 : decode prog_9_method_11_code 47 = .ok (.iload 4, 2) := by decide +kernel
theorem d_H_scarOf_49 : decode prog_9_method_11_code 49 = .ok (.ireturn, 1) := by decide +kernel
set_option maxHeartbeats 4000000 in
set_option maxRecDepth 100000 in
theorem v_scarOf (l : Launch) (D : va_G) (dA : Nat → ClassId) (sz : Nat) (h : Nat) (ad : Nat → Nat) (x : VS) (w : Nat) (a : Int64) (h1 : x.nsc ≤ 64) (h8 : w < 2 ^ 31) (h7 : ∀ q : Nat, q < x.nsc → x.nsO q < 2 ^ 31) : Met l ⟨"SeriesVault$Shelf", "scarOf", "(IJ)I"⟩ [Cond.code ⟨"SeriesVault$Shelf", "scarOf", "(IJ)I"⟩ prog_9_method_11_code 5 (some FieldType.int)] { frames := 1, cells := 0, slots := 0, locals := 0 } (pC D dA [.ref (ad 3), .int (nI w), .long a] (VW dA h ad x) sz) (va_Qi (fun (r9 : Int32) (u9 : Unit) => r9 = opI (x.sc1 w a)) (fun (u9 : Unit) t9 => bW D (va_A (VW dA h ad x) sz) (VW dA h ad x) t9) (va_A (VW dA h ad x) sz)) 0 0 (va_A (VW dA h ad x) sz) := by
  refine mkC (y := ⟨"SeriesVault$Shelf", "scarOf", "(IJ)I"⟩) (cc := prog_9_method_11_code) (maxL := 5) (av := [.ref (ad 3), .int (nI w), .long a]) (ws := VW dA h ad x) (sz := sz) (Qc := fun A => va_Qi (fun (r9 : Int32) (u9 : Unit) => r9 = opI (x.sc1 w a)) (fun (u9 : Unit) t9 => bW D A (VW dA h ad x) t9) A) (by decide) (Nat.le_of_ble_eq_true rfl) ?_
  intro A p e s m below meth c ls hsz hB
  obtain ⟨hx, hb, hr, hml, hown, hin, hlk, hE, hK, hP, hD, hS, hA, hN, hl⟩ := hB
  have hown : s.vm.findClass "SeriesVault$Shelf" = some m.cls := hown
  have hl : lv_has ls 5 [(0, .ref (ad 3)), (1, .int (nI w)), (2, .long a)] := hl
  obtain ⟨H, hH⟩ : ∃ z, z = s.heap := ⟨_, rfl⟩
  have hP : va_P D vwCl (VW dA h ad x) H := by rw [hH]; exact hP
  have hS : va_S A s.heap H [] := by rw [hH]; exact hS
  rw [← hH]
  refine lv_iconst (v := 0) hx hb d_H_scarOf_0 (by decide) ?_
  refine lv_istore hx hb d_H_scarOf_1 hl (by decide) rfl (fun ls hl => ?_)
  have hl : lv_has ls 5 [(4, .int 0), (0, .ref (ad 3)), (1, .int (nI w)), (2, .long a)] := hl
  have L3 : ∀ (k9 : Nat) (k : Nat) (i1 : k ≤ x.nsc) (i2 : frst (x.scC w a) (x.nsc - k) k = x.sc1 w a) (hk9 : x.nsc - k = k9), ∀ (H : Heap) (locs : List Loc) (ls : Array Slot) (hP : va_P D vwCl (VW dA h ad x) H) (hD : va_D A (VW dA h ad x)) (hS : va_S A s.heap H locs) (hl : lv_has ls 5 [(4, .int (nI k)), (1, .int (nI w)), (2, .long a), (0, .ref (ad 3))]), W p l e ({ frames := 1, cells := 0, slots := 0, locals := 0 } : Room) s m ([.ref (ad 3), .int (nI w), .long a] : List Value).toArray below meth c H locs 0 0 (MQ below (va_Qi (fun (r9 : Int32) (u9 : Unit) => r9 = opI (x.sc1 w a)) (fun (u9 : Unit) t9 => bW D A (VW dA h ad x) t9) A) ([.ref (ad 3), .int (nI w), .long a] : List Value).toArray s 0 0 A) (F0 m 3 ls []) := by
    intro k9
    induction k9 using Nat.strongRecOn with
    | ind k9 ih3 =>
      intro k i1 i2 hk9 H locs ls hP hD hS hl
      refine lv_iload hx hb d_H_scarOf_3 (lv_at hl 0 rfl) ?_
      refine lv_aload_n hx hb d_H_scarOf_5 rfl (lv_at hl 3 rfl) ?_
      refine gF (v := .int (nI x.nsc)) hx hb hown hE hK hP 17 rfl rfl layH 6 (by decide) w567 rfl d_H_scarOf_6 ?_
      refine lv_icmp_ge hx hb d_H_scarOf_9 (tgt := 56) rfl (fun g1 => ?_) (fun g1 => ?_)
      · have g1 := (nI_leI (a := x.nsc) (b := k) (by omega) (by omega)).mp g1
        refine lv_iconst (v := (-1)) hx hb d_H_scarOf_56 (by decide) ?_
        exact rfI hx hb hr hlk hS () (by rw [← i2, show x.nsc - k = 0 by omega]; rfl) hP hD (Nat.le_of_ble_eq_true rfl) (Nat.le_of_ble_eq_true rfl) d_H_scarOf_57
      · have g1 := mt (nI_leI (a := x.nsc) (b := k) (by omega) (by omega)).mpr g1
        have b7 := h7 k (by omega)
        refine lv_aload_n hx hb d_H_scarOf_12 rfl (lv_at hl 3 rfl) ?_
        refine gF (v := .ref (ad 5)) hx hb hown hE hK hP 17 rfl rfl layH 2 (by decide) w200 rfl d_H_scarOf_13 ?_
        refine lv_iload hx hb d_H_scarOf_16 (lv_at hl 0 rfl) ?_
        refine nild (f := (fun z9 => nI (x.nsO z9))) (n := 64) hx hb hK hP 19 1 rfl rfl (k) (by omega) (by decide) d_H_scarOf_18 ?_
        refine lv_iload_n hx hb d_H_scarOf_19 rfl (lv_at hl 1 rfl) ?_
        refine lv_icmp_ne hx hb d_H_scarOf_20 (tgt := 50) rfl (fun g2 => ?_) (fun g2 => ?_)
        · have g2 := mt (nI_eq (a := x.nsO k) (b := w) (by omega) (by omega)).mpr g2
          refine lv_iinc (k := 0) (v := nI (k + 1)) hx hb d_H_scarOf_50 hl rfl (iincN (k) 1 1 (by decide)) (by decide) rfl (fun ls hl => ?_)
          have hl : lv_has ls 5 [(4, .int (nI (k + 1))), (1, .int (nI w)), (2, .long a), (0, .ref (ad 3))] := hl
          refine lv_goto hx hb d_H_scarOf_53 (tgt := 3) rfl ?_
          exact ih3 _ (by omega) (k + 1) (by omega) (by rw [← i2, frst_f (n := x.nsc - k) (by omega) (show x.scC w a k = false by show (decide _ && (!decide _ && !decide _)) = false; rw [decide_eq_false g2]; rfl), show x.nsc - k - 1 = x.nsc - (k + 1) by omega]) rfl H _ ls hP hD hS (lv_sub hl [0, 1, 2, 3] rfl)
        · have g2 := (nI_eq (a := x.nsO k) (b := w) (by omega) (by omega)).mp g2
          refine lv_lload_n hx hb d_H_scarOf_23 rfl (lv_at hl 2 rfl) ?_
          refine lv_aload_n hx hb d_H_scarOf_24 rfl (lv_at hl 3 rfl) ?_
          refine gF (v := .ref (ad 6)) hx hb hown hE hK hP 17 rfl rfl layH 3 (by decide) w201 rfl d_H_scarOf_25 ?_
          refine lv_iload hx hb d_H_scarOf_28 (lv_at hl 0 rfl) ?_
          refine nlld (f := x.nsF) (n := 64) hx hb hK hP 20 2 rfl rfl (k) (by omega) (by decide) d_H_scarOf_30 ?_
          refine W.lcmp hx hb d_H_scarOf_31 ?_
          refine lv_if_lt hx hb d_H_scarOf_32 (tgt := 50) rfl (fun g3 => ?_) (fun g3 => ?_)
          · have g3 := (lg_cmp_lt _ _).mp g3
            refine lv_iinc (k := 0) (v := nI (k + 1)) hx hb d_H_scarOf_50 hl rfl (iincN (k) 1 1 (by decide)) (by decide) rfl (fun ls hl => ?_)
            have hl : lv_has ls 5 [(4, .int (nI (k + 1))), (1, .int (nI w)), (2, .long a), (0, .ref (ad 3))] := hl
            refine lv_goto hx hb d_H_scarOf_53 (tgt := 3) rfl ?_
            exact ih3 _ (by omega) (k + 1) (by omega) (by rw [← i2, frst_f (n := x.nsc - k) (by omega) (show x.scC w a k = false by show (decide _ && (!decide _ && !decide _)) = false; rw [decide_eq_true g2, decide_eq_true g3]; rfl), show x.nsc - k - 1 = x.nsc - (k + 1) by omega]) rfl H _ ls hP hD hS (lv_sub hl [0, 1, 2, 3] rfl)
          · have g3 := mt (lg_cmp_lt _ _).mpr g3
            refine lv_lload_n hx hb d_H_scarOf_35 rfl (lv_at hl 2 rfl) ?_
            refine lv_aload_n hx hb d_H_scarOf_36 rfl (lv_at hl 3 rfl) ?_
            refine gF (v := .ref (ad 7)) hx hb hown hE hK hP 17 rfl rfl layH 4 (by decide) w202 rfl d_H_scarOf_37 ?_
            refine lv_iload hx hb d_H_scarOf_40 (lv_at hl 0 rfl) ?_
            refine nlld (f := x.nsT) (n := 64) hx hb hK hP 21 2 rfl rfl (k) (by omega) (by decide) d_H_scarOf_42 ?_
            refine W.lcmp hx hb d_H_scarOf_43 ?_
            refine lv_if_gt hx hb d_H_scarOf_44 (tgt := 50) rfl (fun g4 => ?_) (fun g4 => ?_)
            · have g4 := (lg_cmp_gt _ _).mp g4
              refine lv_iinc (k := 0) (v := nI (k + 1)) hx hb d_H_scarOf_50 hl rfl (iincN (k) 1 1 (by decide)) (by decide) rfl (fun ls hl => ?_)
              have hl : lv_has ls 5 [(4, .int (nI (k + 1))), (1, .int (nI w)), (2, .long a), (0, .ref (ad 3))] := hl
              refine lv_goto hx hb d_H_scarOf_53 (tgt := 3) rfl ?_
              exact ih3 _ (by omega) (k + 1) (by omega) (by rw [← i2, frst_f (n := x.nsc - k) (by omega) (show x.scC w a k = false by show (decide _ && (!decide _ && !decide _)) = false; rw [decide_eq_true g2, decide_eq_false g3, decide_eq_true g4]; rfl), show x.nsc - k - 1 = x.nsc - (k + 1) by omega]) rfl H _ ls hP hD hS (lv_sub hl [0, 1, 2, 3] rfl)
            · have g4 := mt (lg_cmp_gt _ _).mpr g4
              refine lv_iload hx hb d_H_scarOf_47 (lv_at hl 0 rfl) ?_
              exact rfI hx hb hr hlk hS () (by rw [← i2, frst_t (n := x.nsc - k) (by omega) (show x.scC w a k = true by show (decide _ && (!decide _ && !decide _)) = true; rw [decide_eq_true g2, decide_eq_false g3, decide_eq_false g4]; rfl)]; rfl) hP hD (Nat.le_of_ble_eq_true rfl) (Nat.le_of_ble_eq_true rfl) d_H_scarOf_49
  exact L3 _ 0 (Nat.zero_le _) rfl rfl H _ ls hP hD hS (lv_sub hl [0, 2, 3, 1] rfl)
theorem d_H_addScar_0 : decode prog_9_method_10_code 0 = .ok (.aload_n 0, 1) := by decide +kernel
theorem d_H_addScar_1 : decode prog_9_method_10_code 1 = .ok (.getfield 38, 3) := by decide +kernel
theorem d_H_addScar_4 : decode prog_9_method_10_code 4 = .ok (.bipush 64, 2) := by decide +kernel
theorem d_H_addScar_6 : decode prog_9_method_10_code 6 = .ok (.if_icmp .ge 60, 3) := by decide +kernel
theorem d_H_addScar_9 : decode prog_9_method_10_code 9 = .ok (.aload_n 0, 1) := by decide +kernel
theorem d_H_addScar_10 : decode prog_9_method_10_code 10 = .ok (.getfield 17, 3) := by decide +kernel
theorem d_H_addScar_13 : decode prog_9_method_10_code 13 = .ok (.aload_n 0, 1) := by decide +kernel
theorem d_H_addScar_14 : decode prog_9_method_10_code 14 = .ok (.getfield 38, 3) := by decide +kernel
theorem d_H_addScar_17 : decode prog_9_method_10_code 17 = .ok (.iload_n 1, 1) := by decide +kernel
theorem d_H_addScar_18 : decode prog_9_method_10_code 18 = .ok (.iastore, 1) := by decide +kernel
theorem d_H_addScar_19 : decode prog_9_method_10_code 19 = .ok (.aload_n 0, 1) := by decide +kernel
theorem d_H_addScar_20 : decode prog_9_method_10_code 20 = .ok (.getfield 21, 3) := by decide +kernel
theorem d_H_addScar_23 : decode prog_9_method_10_code 23 = .ok (.aload_n 0, 1) := by decide +kernel
theorem d_H_addScar_24 : decode prog_9_method_10_code 24 = .ok (.getfield 38, 3) := by decide +kernel
theorem d_H_addScar_27 : decode prog_9_method_10_code 27 = .ok (.lload_n 2, 1) := by decide +kernel
theorem d_H_addScar_28 : decode prog_9_method_10_code 28 = .ok (.aload_n 0, 1) := by decide +kernel
theorem d_H_addScar_29 : decode prog_9_method_10_code 29 = .ok (.getfield 41, 3) := by decide +kernel
theorem d_H_addScar_32 : decode prog_9_method_10_code 32 = .ok (.invokestatic 65, 3) := by decide +kernel
theorem d_H_addScar_35 : decode prog_9_method_10_code 35 = .ok (.lastore, 1) := by decide +kernel
theorem d_H_addScar_36 : decode prog_9_method_10_code 36 = .ok (.aload_n 0, 1) := by decide +kernel
theorem d_H_addScar_37 : decode prog_9_method_10_code 37 = .ok (.getfield 25, 3) := by decide +kernel
theorem d_H_addScar_40 : decode prog_9_method_10_code 40 = .ok (.aload_n 0, 1) := by decide +kernel
theorem d_H_addScar_41 : decode prog_9_method_10_code 41 = .ok (.getfield 38, 3) := by decide +kernel
theorem d_H_addScar_44 : decode prog_9_method_10_code 44 = .ok (.lload 4, 2) := by decide +kernel
theorem d_H_addScar_46 : decode prog_9_method_10_code 46 = .ok (.aload_n 0, 1) := by decide +kernel
theorem d_H_addScar_47 : decode prog_9_method_10_code 47 = .ok (.getfield 31, 3) := by decide +kernel
theorem d_H_addScar_50 : decode prog_9_method_10_code 50 = .ok (.iload_n 1, 1) := by decide +kernel
theorem d_H_addScar_51 : decode prog_9_method_10_code 51 = .ok (.laload, 1) := by decide +kernel
theorem d_H_addScar_52 : decode prog_9_method_10_code 52 = .ok (.invokestatic 71, 3) := by decide +kernel
theorem d_H_addScar_55 : decode prog_9_method_10_code 55 = .ok (.lastore, 1) := by decide +kernel
theorem d_H_addScar_56 : decode prog_9_method_10_code 56 = .ok (.aload_n 0, 1) := by decide +kernel
theorem d_H_addScar_57 : decode prog_9_method_10_code 57 = .ok (.dup, 1) := by decide +kernel
theorem d_H_addScar_58 : decode prog_9_method_10_code 58 = .ok (.getfield 38, 3) := by decide +kernel
theorem d_H_addScar_61 : decode prog_9_method_10_code 61 = .ok (.iconst 1, 1) := by decide +kernel
theorem d_H_addScar_62 : decode prog_9_method_10_code 62 = .ok (.iadd, 1) := by decide +kernel
theorem d_H_addScar_63 : decode prog_9_method_10_code 63 = .ok (.putfield 38, 3) := by decide +kernel
theorem d_H_addScar_66 : decode prog_9_method_10_code 66 = .ok (.return_, 1) := by decide +kernel
theorem w1094 : Cond.methodLink "SeriesVault$Shelf" 65 ⟨"java/lang/Math", "max", "(JJ)J"⟩ ∈ aW := aw_of (tb_5 (List.mem_of_getElem? (i := 213) rfl)) rfl
theorem w1095 : Cond.static ⟨"java/lang/Math", "max", "(JJ)J"⟩ ∈ aW := aw_of (tb_5 (List.mem_of_getElem? (i := 214) rfl)) rfl
theorem w1096 : Cond.code ⟨"java/lang/Math", "max", "(JJ)J"⟩ prog_26_method_66_code 4 (some FieldType.long) ∈ aW := aw_of (tb_5 (List.mem_of_getElem? (i := 215) rfl)) rfl
theorem w1097 : Cond.methodLink "SeriesVault$Shelf" 71 ⟨"java/lang/Math", "min", "(JJ)J"⟩ ∈ aW := aw_of (tb_5 (List.mem_of_getElem? (i := 216) rfl)) rfl
theorem w1098 : Cond.static ⟨"java/lang/Math", "min", "(JJ)J"⟩ ∈ aW := aw_of (tb_5 (List.mem_of_getElem? (i := 217) rfl)) rfl
theorem w1099 : Cond.code ⟨"java/lang/Math", "min", "(JJ)J"⟩ prog_26_method_70_code 4 (some FieldType.long) ∈ aW := aw_of (tb_5 (List.mem_of_getElem? (i := 218) rfl)) rfl
set_option maxHeartbeats 4000000 in
set_option maxRecDepth 100000 in
theorem v_addScar (l : Launch) (D : va_G) (dA : Nat → ClassId) (sz : Nat) (h : Nat) (ad : Nat → Nat) (x : VS) (w : Nat) (a : Int64) (b : Int64) (h1 : x.nsc < 64) (hw : w < 256) : Met l ⟨"SeriesVault$Shelf", "addScar", "(IJJ)V"⟩ [Cond.code ⟨"SeriesVault$Shelf", "addScar", "(IJJ)V"⟩ prog_9_method_10_code 6 none] { frames := 1, cells := 0, slots := 0, locals := 17 } (pC D dA [.ref (ad 3), .int (nI w), .long a, .long b] (VW dA h ad x) sz) (va_Qv (fun (u9 : Unit) => True) (fun (u9 : Unit) t9 => bW D (va_A (VW dA h ad x) sz) (VW dA h ad (VS.s_nsc (VS.s_nsT (VS.s_nsF (VS.s_nsO x (va_up x.nsO x.nsc w)) (va_up x.nsF x.nsc (maxL a x.nhor))) (va_up x.nsT x.nsc (minL b (x.nlast w)))) (x.nsc + 1))) t9) (va_A (VW dA h ad x) sz)) 0 0 (va_A (VW dA h ad x) sz) := by
  refine mkC (y := ⟨"SeriesVault$Shelf", "addScar", "(IJJ)V"⟩) (cc := prog_9_method_10_code) (maxL := 6) (av := [.ref (ad 3), .int (nI w), .long a, .long b]) (ws := VW dA h ad x) (sz := sz) (Qc := fun A => va_Qv (fun (u9 : Unit) => True) (fun (u9 : Unit) t9 => bW D A (VW dA h ad (VS.s_nsc (VS.s_nsT (VS.s_nsF (VS.s_nsO x (va_up x.nsO x.nsc w)) (va_up x.nsF x.nsc (maxL a x.nhor))) (va_up x.nsT x.nsc (minL b (x.nlast w)))) (x.nsc + 1))) t9) A) (by decide) (Nat.le_of_ble_eq_true rfl) ?_
  intro A p e s m below meth c ls hsz hB
  obtain ⟨hx, hb, hr, hml, hown, hin, hlk, hE, hK, hP, hD, hS, hA, hN, hl⟩ := hB
  have hown : s.vm.findClass "SeriesVault$Shelf" = some m.cls := hown
  have hl : lv_has ls 6 [(0, .ref (ad 3)), (1, .int (nI w)), (2, .long a), (4, .long b)] := hl
  obtain ⟨H, hH⟩ : ∃ z, z = s.heap := ⟨_, rfl⟩
  have hP : va_P D vwCl (VW dA h ad x) H := by rw [hH]; exact hP
  have hS : va_S A s.heap H [] := by rw [hH]; exact hS
  rw [← hH]
  refine lv_aload_n hx hb d_H_addScar_0 rfl (lv_at hl 0 rfl) ?_
  refine gF (v := .int (nI x.nsc)) hx hb hown hE hK hP 17 rfl rfl layH 6 (by decide) w567 rfl d_H_addScar_1 ?_
  refine lv_bipush (v := 64) hx hb d_H_addScar_4 (by decide) ?_
  refine lv_icmp_ge hx hb d_H_addScar_6 (tgt := 66) rfl (fun h9 => absurd h9 (mt (nI_leI (a := 64) (b := x.nsc) (by omega) (by omega)).mp (Nat.not_le.mpr h1))) (fun _ => ?_)
  refine lv_aload_n hx hb d_H_addScar_9 rfl (lv_at hl 0 rfl) ?_
  refine gF (v := .ref (ad 5)) hx hb hown hE hK hP 17 rfl rfl layH 2 (by decide) w200 rfl d_H_addScar_10 ?_
  refine lv_aload_n hx hb d_H_addScar_13 rfl (lv_at hl 0 rfl) ?_
  refine gF (v := .int (nI x.nsc)) hx hb hown hE hK hP 17 rfl rfl layH 6 (by decide) w567 rfl d_H_addScar_14 ?_
  refine lv_iload_n hx hb d_H_addScar_17 rfl (lv_at hl 1 rfl) ?_
  refine nistN (v := w) (n := 64) hx hb hK hP hD hS 19 1 rfl rfl (x.nsc) (by omega) (by decide) d_H_addScar_18 (fun H locs hP hD hS => ?_)
  have hP : va_P D vwCl (VW dA h ad (VS.s_nsO x (va_up x.nsO x.nsc w))) H := hP
  have hD : va_D A (VW dA h ad (VS.s_nsO x (va_up x.nsO x.nsc w))) := hD
  refine lv_aload_n hx hb d_H_addScar_19 rfl (lv_at hl 0 rfl) ?_
  refine gF (v := .ref (ad 6)) hx hb hown hE hK hP 17 rfl rfl layH 3 (by decide) w201 rfl d_H_addScar_20 ?_
  refine lv_aload_n hx hb d_H_addScar_23 rfl (lv_at hl 0 rfl) ?_
  refine gF (v := .int (nI x.nsc)) hx hb hown hE hK hP 17 rfl rfl layH 6 (by decide) w567 rfl d_H_addScar_24 ?_
  refine lv_lload_n hx hb d_H_addScar_27 rfl (lv_at hl 2 rfl) ?_
  refine lv_aload_n hx hb d_H_addScar_28 rfl (lv_at hl 0 rfl) ?_
  refine gF (v := .long x.nhor) hx hb hown hE hK hP 17 rfl rfl layH 7 (by decide) w568 rfl d_H_addScar_29 ?_
  refine va_mmax_long hx hb (hml.trans hl.1.symm) hown (hE.t w1094 rfl) (hE.t w1095 rfl) (hE.t w549 rfl) (hE.t w1096 rfl) (Nat.le_of_ble_eq_true rfl) (Nat.le_of_ble_eq_true rfl) (Nat.le_of_ble_eq_true rfl) (Nat.le_of_ble_eq_true rfl) d_H_addScar_32 (tpl (y := maxL a x.nhor) rfl ?_)
  refine nlst (n := 64) hx hb hK hP hD hS 20 2 rfl rfl (x.nsc) (by omega) (by decide) d_H_addScar_35 (fun H locs hP hD hS => ?_)
  have hP : va_P D vwCl (VW dA h ad (VS.s_nsF (VS.s_nsO x (va_up x.nsO x.nsc w)) (va_up x.nsF x.nsc (maxL a x.nhor)))) H := hP
  have hD : va_D A (VW dA h ad (VS.s_nsF (VS.s_nsO x (va_up x.nsO x.nsc w)) (va_up x.nsF x.nsc (maxL a x.nhor)))) := hD
  refine lv_aload_n hx hb d_H_addScar_36 rfl (lv_at hl 0 rfl) ?_
  refine gF (v := .ref (ad 7)) hx hb hown hE hK hP 17 rfl rfl layH 4 (by decide) w202 rfl d_H_addScar_37 ?_
  refine lv_aload_n hx hb d_H_addScar_40 rfl (lv_at hl 0 rfl) ?_
  refine gF (v := .int (nI x.nsc)) hx hb hown hE hK hP 17 rfl rfl layH 6 (by decide) w567 rfl d_H_addScar_41 ?_
  refine lv_lload hx hb d_H_addScar_44 (lv_at hl 3 rfl) ?_
  refine lv_aload_n hx hb d_H_addScar_46 rfl (lv_at hl 0 rfl) ?_
  refine gF (v := .ref (ad 9)) hx hb hown hE hK hP 17 rfl rfl layH 9 (by decide) w204 rfl d_H_addScar_47 ?_
  refine lv_iload_n hx hb d_H_addScar_50 rfl (lv_at hl 1 rfl) ?_
  refine nlld (f := x.nlast) (n := 256) hx hb hK hP 23 2 rfl rfl (w) (by omega) (by decide) d_H_addScar_51 ?_
  refine va_mmin_long hx hb (hml.trans hl.1.symm) hown (hE.t w1097 rfl) (hE.t w1098 rfl) (hE.t w549 rfl) (hE.t w1099 rfl) (Nat.le_of_ble_eq_true rfl) (Nat.le_of_ble_eq_true rfl) (Nat.le_of_ble_eq_true rfl) (Nat.le_of_ble_eq_true rfl) d_H_addScar_52 (tpl (y := minL b (x.nlast w)) rfl ?_)
  refine nlst (n := 64) hx hb hK hP hD hS 21 2 rfl rfl (x.nsc) (by omega) (by decide) d_H_addScar_55 (fun H locs hP hD hS => ?_)
  have hP : va_P D vwCl (VW dA h ad (VS.s_nsT (VS.s_nsF (VS.s_nsO x (va_up x.nsO x.nsc w)) (va_up x.nsF x.nsc (maxL a x.nhor))) (va_up x.nsT x.nsc (minL b (x.nlast w))))) H := hP
  have hD : va_D A (VW dA h ad (VS.s_nsT (VS.s_nsF (VS.s_nsO x (va_up x.nsO x.nsc w)) (va_up x.nsF x.nsc (maxL a x.nhor))) (va_up x.nsT x.nsc (minL b (x.nlast w))))) := hD
  refine lv_aload_n hx hb d_H_addScar_56 rfl (lv_at hl 0 rfl) ?_
  refine lv_dup hx hb d_H_addScar_57 rfl ?_
  refine gF (v := .int (nI x.nsc)) hx hb hown hE hK hP 17 rfl rfl layH 6 (by decide) w567 rfl d_H_addScar_58 ?_
  refine lv_iconst (v := 1) hx hb d_H_addScar_61 (by decide) ?_
  refine lv_iadd hx hb d_H_addScar_62 (tpi (y := nI (x.nsc + 1)) (nI_add (x.nsc) (1)) ?_)
  refine pF (v := .int (nI (x.nsc + 1))) hx hb hown hE hK hP hD hS 17 rfl rfl layH tyH tokH nmH 6 (by decide) w567 rfl rfl rfl (Nat.le_of_ble_eq_true rfl) d_H_addScar_63 (fun H locs hP hD hS => ?_)
  have hP : va_P D vwCl (VW dA h ad (VS.s_nsc (VS.s_nsT (VS.s_nsF (VS.s_nsO x (va_up x.nsO x.nsc w)) (va_up x.nsF x.nsc (maxL a x.nhor))) (va_up x.nsT x.nsc (minL b (x.nlast w)))) (x.nsc + 1))) H := hP
  have hD : va_D A (VW dA h ad (VS.s_nsc (VS.s_nsT (VS.s_nsF (VS.s_nsO x (va_up x.nsO x.nsc w)) (va_up x.nsF x.nsc (maxL a x.nhor))) (va_up x.nsT x.nsc (minL b (x.nlast w)))) (x.nsc + 1))) := hD
  exact rfV hx hb hr hlk hS () trivial hP hD (Nat.le_of_ble_eq_true rfl) (Nat.le_of_ble_eq_true rfl) d_H_addScar_66
set_option maxHeartbeats 4000000 in
set_option maxRecDepth 100000 in
theorem v_writeJournalBlock_0 (l : Launch) (D : va_G) (dA : Nat → ClassId) (sz : Nat) (h : Nat) (ad : Nat → Nat) (x : VS) (hc2 : x.jch = false) : Met l ⟨"SeriesVault", "writeJournalBlock", "()Z"⟩ [Cond.code ⟨"SeriesVault", "writeJournalBlock", "()Z"⟩ prog_1_method_21_code 1 (some FieldType.boolean)] { frames := 1, cells := 0, slots := 0, locals := 0 } (pC D dA [.ref h] (VW dA h ad x) sz) (va_Qi (fun (r9 : Int32) (u9 : Unit) => r9 = bI false) (fun (u9 : Unit) t9 => bW D (va_A (VW dA h ad x) sz) (VW dA h ad x) t9) (va_A (VW dA h ad x) sz)) 0 0 (va_A (VW dA h ad x) sz) := by
  refine mkC (y := ⟨"SeriesVault", "writeJournalBlock", "()Z"⟩) (cc := prog_1_method_21_code) (maxL := 1) (av := [.ref h]) (ws := VW dA h ad x) (sz := sz) (Qc := fun A => va_Qi (fun (r9 : Int32) (u9 : Unit) => r9 = bI false) (fun (u9 : Unit) t9 => bW D A (VW dA h ad x) t9) A) (by decide) (Nat.le_of_ble_eq_true rfl) ?_
  intro A p e s m below meth c ls hsz hB
  obtain ⟨hx, hb, hr, hml, hown, hin, hlk, hE, hK, hP, hD, hS, hA, hN, hl⟩ := hB
  have hown : s.vm.findClass "SeriesVault" = some m.cls := hown
  have hl : lv_has ls 1 [(0, .ref h)] := hl
  obtain ⟨H, hH⟩ : ∃ z, z = s.heap := ⟨_, rfl⟩
  have hP : va_P D vwCl (VW dA h ad x) H := by rw [hH]; exact hP
  have hS : va_S A s.heap H [] := by rw [hH]; exact hS
  rw [← hH]
  refine lv_aload_n hx hb d_V_writeJournalBlock_0 rfl (lv_at hl 0 rfl) ?_
  refine gF (v := .ref (ad 0)) hx hb hown hE hK hP 0 rfl rfl layV 8 (by decide) w312 rfl d_V_writeJournalBlock_1 ?_
  refine gFN (v := .int (bI x.jch)) hx hb hown hE hK hP 2 rfl rfl layJ 12 (by decide) w313 rfl d_V_writeJournalBlock_4 ?_
  refine lv_if_ne hx hb d_V_writeJournalBlock_7 (tgt := 12) rfl (fun h9 => absurd (by rw [hc2]; decide) h9) (fun _ => ?_)
  refine lv_iconst (v := 0) hx hb d_V_writeJournalBlock_10 (by decide) ?_
  exact rfZ hx hb hr (bI_nar false) hlk hS () rfl hP hD (Nat.le_of_ble_eq_true rfl) (Nat.le_of_ble_eq_true rfl) d_V_writeJournalBlock_11
theorem d_V_writeJournalBlock_12 : decode prog_1_method_21_code 12 = .ok (.aload_n 0, 1) := by decide +kernel
theorem d_V_writeJournalBlock_13 : decode prog_1_method_21_code 13 = .ok (.invokevirtual 133, 3) := by decide +kernel
theorem d_V_writeJournalBlock_16 : decode prog_1_method_21_code 16 = .ok (.aload_n 0, 1) := by decide +kernel
theorem d_V_writeJournalBlock_17 : decode prog_1_method_21_code 17 = .ok (.getfield 16, 3) := by decide +kernel
theorem d_V_writeJournalBlock_20 : decode prog_1_method_21_code 20 = .ok (.invokevirtual 201, 3) := by decide +kernel
theorem d_V_writeJournalBlock_23 : decode prog_1_method_21_code 23 = .ok (.iconst 1, 1) := by decide +kernel
theorem d_V_writeJournalBlock_24 : decode prog_1_method_21_code 24 = .ok (.ireturn, 1) := by decide +kernel
theorem w1100 : Cond.methodLink "SeriesVault" 201 ⟨"SeriesVault$Journal", "keepAll", "()V"⟩ ∈ aW := aw_of (tb_5 (List.mem_of_getElem? (i := 55) rfl)) rfl
theorem w1101 : Cond.code ⟨"SeriesVault$Journal", "keepAll", "()V"⟩ prog_3_method_9_code 1 none ∈ aW := aw_of (tb_5 (List.mem_of_getElem? (i := 58) rfl)) rfl
theorem w1102 : Cond.instanceMethod ⟨"SeriesVault$Journal", "keepAll", "()V"⟩ ∈ aW := aw_of (tb_5 (List.mem_of_getElem? (i := 56) rfl)) rfl
theorem w1103 : Cond.selects "SeriesVault$Journal" ⟨"SeriesVault$Journal", "keepAll", "()V"⟩ ⟨"SeriesVault$Journal", "keepAll", "()V"⟩ ∈ aW := aw_of (tb_5 (List.mem_of_getElem? (i := 57) rfl)) rfl
set_option maxHeartbeats 4000000 in
set_option maxRecDepth 100000 in
theorem v_writeJournalBlock_1 (l : Launch) (D : va_G) (dA : Nat → ClassId) (sz : Nat) (h : Nat) (ad : Nat → Nat) (x : VS) (hc2 : x.jch = true) (hc : ¬ x.cutLeft = 0) : Met l ⟨"SeriesVault", "writeJournalBlock", "()Z"⟩ [Cond.code ⟨"SeriesVault", "writeJournalBlock", "()Z"⟩ prog_1_method_21_code 1 (some FieldType.boolean)] { frames := 2, cells := 0, slots := 0, locals := 20 } (pC D dA [.ref h] (VW dA h ad x) sz) (va_Qi (fun (r9 : Int32) (u9 : Unit) => r9 = bI true) (fun (u9 : Unit) t9 => bW D (va_A (VW dA h ad x) sz) (VW dA h ad (VS.s_jch (VS.s_jkept (VS.s_writes (VS.s_cutLeft x (cutF x.cutLeft)) (x.writes + 1)) x.jsize) false)) t9) (va_A (VW dA h ad x) sz)) 0 0 (va_A (VW dA h ad x) sz) := by
  refine mkC (y := ⟨"SeriesVault", "writeJournalBlock", "()Z"⟩) (cc := prog_1_method_21_code) (maxL := 1) (av := [.ref h]) (ws := VW dA h ad x) (sz := sz) (Qc := fun A => va_Qi (fun (r9 : Int32) (u9 : Unit) => r9 = bI true) (fun (u9 : Unit) t9 => bW D A (VW dA h ad (VS.s_jch (VS.s_jkept (VS.s_writes (VS.s_cutLeft x (cutF x.cutLeft)) (x.writes + 1)) x.jsize) false)) t9) A) (by decide) (Nat.le_of_ble_eq_true rfl) ?_
  intro A p e s m below meth c ls hsz hB
  obtain ⟨hx, hb, hr, hml, hown, hin, hlk, hE, hK, hP, hD, hS, hA, hN, hl⟩ := hB
  have hown : s.vm.findClass "SeriesVault" = some m.cls := hown
  have hl : lv_has ls 1 [(0, .ref h)] := hl
  obtain ⟨H, hH⟩ : ∃ z, z = s.heap := ⟨_, rfl⟩
  have hP : va_P D vwCl (VW dA h ad x) H := by rw [hH]; exact hP
  have hS : va_S A s.heap H [] := by rw [hH]; exact hS
  rw [← hH]
  refine lv_aload_n hx hb d_V_writeJournalBlock_0 rfl (lv_at hl 0 rfl) ?_
  refine gF (v := .ref (ad 0)) hx hb hown hE hK hP 0 rfl rfl layV 8 (by decide) w312 rfl d_V_writeJournalBlock_1 ?_
  refine gFN (v := .int (bI x.jch)) hx hb hown hE hK hP 2 rfl rfl layJ 12 (by decide) w313 rfl d_V_writeJournalBlock_4 ?_
  refine lv_if_ne hx hb d_V_writeJournalBlock_7 (tgt := 12) rfl (fun _ => ?_) (fun h9 => absurd h9 (by rw [hc2]; decide))
  refine lv_aload_n hx hb d_V_writeJournalBlock_12 rfl (lv_at hl 0 rfl) ?_
  refine jfV (rnV (As := []) (rest := []) hx hb hml hown hE hK (hN _ _ hS) hP hD (v_writeBlock l D dA H.size h ad x hc) (q0 := 0) rfl rfl w737 w736 w738 w739 w277 rfl rfl ⟨⟨by decide, by decide⟩, rfl⟩ ⟨(Nat.le_of_ble_eq_true rfl), (Nat.le_of_ble_eq_true rfl)⟩ rfl hl.1 rfl (Nat.le_of_ble_eq_true rfl) d_V_writeJournalBlock_13 ⟨(Nat.le_of_ble_eq_true rfl), (Nat.le_of_ble_eq_true rfl)⟩) hP hD hS hA (fun u2 H locs hp9 hP hD hS => ?_)
  have hP : va_P D vwCl (VW dA h ad (VS.s_writes (VS.s_cutLeft x (cutF x.cutLeft)) (x.writes + 1))) H := hP
  have hD : va_D A (VW dA h ad (VS.s_writes (VS.s_cutLeft x (cutF x.cutLeft)) (x.writes + 1))) := hD
  refine lv_aload_n hx hb d_V_writeJournalBlock_16 rfl (lv_at hl 0 rfl) ?_
  refine gF (v := .ref (ad 0)) hx hb hown hE hK hP 0 rfl rfl layV 8 (by decide) w312 rfl d_V_writeJournalBlock_17 ?_
  refine jfV (rnV (As := []) (rest := []) hx hb hml hown hE hK (hN _ _ hS) hP hD (v_keepAll l D dA H.size h ad (VS.s_writes (VS.s_cutLeft x (cutF x.cutLeft)) (x.writes + 1))) (q0 := 2) rfl rfl w1101 w1100 w1102 w1103 w556 rfl rfl ⟨⟨by decide, by decide⟩, rfl⟩ ⟨(Nat.le_of_ble_eq_true rfl), (Nat.le_of_ble_eq_true rfl)⟩ rfl hl.1 rfl (Nat.le_of_ble_eq_true rfl) d_V_writeJournalBlock_20 ⟨(Nat.le_of_ble_eq_true rfl), (Nat.le_of_ble_eq_true rfl)⟩) hP hD hS hA (fun u4 H locs hp9 hP hD hS => ?_)
  have hP : va_P D vwCl (VW dA h ad (VS.s_jch (VS.s_jkept (VS.s_writes (VS.s_cutLeft x (cutF x.cutLeft)) (x.writes + 1)) x.jsize) false)) H := hP
  have hD : va_D A (VW dA h ad (VS.s_jch (VS.s_jkept (VS.s_writes (VS.s_cutLeft x (cutF x.cutLeft)) (x.writes + 1)) x.jsize) false)) := hD
  refine lv_iconst (v := 1) hx hb d_V_writeJournalBlock_23 (by decide) ?_
  exact rfZ hx hb hr (bI_nar true) hlk hS () rfl hP hD (Nat.le_of_ble_eq_true rfl) (Nat.le_of_ble_eq_true rfl) d_V_writeJournalBlock_24
set_option maxHeartbeats 4000000 in
set_option maxRecDepth 100000 in
theorem v_sync_0 (l : Launch) (D : va_G) (dA : Nat → ClassId) (sz : Nat) (h : Nat) (ad : Nat → Nat) (x : VS) (ho : x.powered = true) (hc2 : x.jch = false) : Met l ⟨"SeriesVault", "sync", "()Z"⟩ [Cond.code ⟨"SeriesVault", "sync", "()Z"⟩ prog_1_method_22_code 1 (some FieldType.boolean)] { frames := 2, cells := 0, slots := 0, locals := 20 } (pC D dA [.ref h] (VW dA h ad x) sz) (va_Qi (fun (r9 : Int32) (u9 : Unit) => r9 = bI false) (fun (u9 : Unit) t9 => bW D (va_A (VW dA h ad x) sz) (VW dA h ad x) t9) (va_A (VW dA h ad x) sz)) 0 0 (va_A (VW dA h ad x) sz) := by
  refine mkC (y := ⟨"SeriesVault", "sync", "()Z"⟩) (cc := prog_1_method_22_code) (maxL := 1) (av := [.ref h]) (ws := VW dA h ad x) (sz := sz) (Qc := fun A => va_Qi (fun (r9 : Int32) (u9 : Unit) => r9 = bI false) (fun (u9 : Unit) t9 => bW D A (VW dA h ad x) t9) A) (by decide) (Nat.le_of_ble_eq_true rfl) ?_
  intro A p e s m below meth c ls hsz hB
  obtain ⟨hx, hb, hr, hml, hown, hin, hlk, hE, hK, hP, hD, hS, hA, hN, hl⟩ := hB
  have hown : s.vm.findClass "SeriesVault" = some m.cls := hown
  have hl : lv_has ls 1 [(0, .ref h)] := hl
  obtain ⟨H, hH⟩ : ∃ z, z = s.heap := ⟨_, rfl⟩
  have hP : va_P D vwCl (VW dA h ad x) H := by rw [hH]; exact hP
  have hS : va_S A s.heap H [] := by rw [hH]; exact hS
  rw [← hH]
  refine lv_aload_n hx hb d_V_sync_0 rfl (lv_at hl 0 rfl) ?_
  refine jfV (rnV (As := []) (rest := []) hx hb hml hown hE hK (hN _ _ hS) hP hD (v_checkPower l D dA H.size h ad x ho) (q0 := 0) rfl rfl w278 w276 w279 w280 w277 rfl rfl ⟨⟨by decide, by decide⟩, rfl⟩ ⟨(Nat.le_of_ble_eq_true rfl), (Nat.le_of_ble_eq_true rfl)⟩ rfl hl.1 rfl (Nat.le_of_ble_eq_true rfl) d_V_sync_1 ⟨(Nat.le_of_ble_eq_true rfl), (Nat.le_of_ble_eq_true rfl)⟩) hP hD hS hA (fun u2 H locs hp9 hP hD hS => ?_)
  have hP : va_P D vwCl (VW dA h ad x) H := hP
  have hD : va_D A (VW dA h ad x) := hD
  refine lv_aload_n hx hb d_V_sync_4 rfl (lv_at hl 0 rfl) ?_
  refine jfI (rnV (As := []) (rest := []) hx hb hml hown hE hK (hN _ _ hS) hP hD (v_writeJournalBlock_0 l D dA H.size h ad x hc2) (q0 := 0) rfl rfl w315 w314 w316 w317 w277 rfl rfl ⟨⟨by decide, by decide⟩, rfl⟩ ⟨(Nat.le_of_ble_eq_true rfl), (Nat.le_of_ble_eq_true rfl)⟩ rfl hl.1 rfl (Nat.le_of_ble_eq_true rfl) d_V_sync_5 ⟨(Nat.le_of_ble_eq_true rfl), (Nat.le_of_ble_eq_true rfl)⟩) hP hD hS hA (fun r3 u4 H locs hp9 hP hD hS => ?_)
  have hP : va_P D vwCl (VW dA h ad x) H := hP
  have hD : va_D A (VW dA h ad x) := hD
  replace hp9 : bI false = r3 := Eq.symm hp9
  subst hp9
  exact rfZ hx hb hr (bI_nar false) hlk hS () rfl hP hD (Nat.le_of_ble_eq_true rfl) (Nat.le_of_ble_eq_true rfl) d_V_sync_8
set_option maxHeartbeats 4000000 in
set_option maxRecDepth 100000 in
theorem v_sync_1 (l : Launch) (D : va_G) (dA : Nat → ClassId) (sz : Nat) (h : Nat) (ad : Nat → Nat) (x : VS) (ho : x.powered = true) (hc2 : x.jch = true) (hc : ¬ x.cutLeft = 0) : Met l ⟨"SeriesVault", "sync", "()Z"⟩ [Cond.code ⟨"SeriesVault", "sync", "()Z"⟩ prog_1_method_22_code 1 (some FieldType.boolean)] { frames := 3, cells := 0, slots := 0, locals := 40 } (pC D dA [.ref h] (VW dA h ad x) sz) (va_Qi (fun (r9 : Int32) (u9 : Unit) => r9 = bI true) (fun (u9 : Unit) t9 => bW D (va_A (VW dA h ad x) sz) (VW dA h ad (VS.s_jch (VS.s_jkept (VS.s_writes (VS.s_cutLeft x (cutF x.cutLeft)) (x.writes + 1)) x.jsize) false)) t9) (va_A (VW dA h ad x) sz)) 0 0 (va_A (VW dA h ad x) sz) := by
  refine mkC (y := ⟨"SeriesVault", "sync", "()Z"⟩) (cc := prog_1_method_22_code) (maxL := 1) (av := [.ref h]) (ws := VW dA h ad x) (sz := sz) (Qc := fun A => va_Qi (fun (r9 : Int32) (u9 : Unit) => r9 = bI true) (fun (u9 : Unit) t9 => bW D A (VW dA h ad (VS.s_jch (VS.s_jkept (VS.s_writes (VS.s_cutLeft x (cutF x.cutLeft)) (x.writes + 1)) x.jsize) false)) t9) A) (by decide) (Nat.le_of_ble_eq_true rfl) ?_
  intro A p e s m below meth c ls hsz hB
  obtain ⟨hx, hb, hr, hml, hown, hin, hlk, hE, hK, hP, hD, hS, hA, hN, hl⟩ := hB
  have hown : s.vm.findClass "SeriesVault" = some m.cls := hown
  have hl : lv_has ls 1 [(0, .ref h)] := hl
  obtain ⟨H, hH⟩ : ∃ z, z = s.heap := ⟨_, rfl⟩
  have hP : va_P D vwCl (VW dA h ad x) H := by rw [hH]; exact hP
  have hS : va_S A s.heap H [] := by rw [hH]; exact hS
  rw [← hH]
  refine lv_aload_n hx hb d_V_sync_0 rfl (lv_at hl 0 rfl) ?_
  refine jfV (rnV (As := []) (rest := []) hx hb hml hown hE hK (hN _ _ hS) hP hD (v_checkPower l D dA H.size h ad x ho) (q0 := 0) rfl rfl w278 w276 w279 w280 w277 rfl rfl ⟨⟨by decide, by decide⟩, rfl⟩ ⟨(Nat.le_of_ble_eq_true rfl), (Nat.le_of_ble_eq_true rfl)⟩ rfl hl.1 rfl (Nat.le_of_ble_eq_true rfl) d_V_sync_1 ⟨(Nat.le_of_ble_eq_true rfl), (Nat.le_of_ble_eq_true rfl)⟩) hP hD hS hA (fun u2 H locs hp9 hP hD hS => ?_)
  have hP : va_P D vwCl (VW dA h ad x) H := hP
  have hD : va_D A (VW dA h ad x) := hD
  refine lv_aload_n hx hb d_V_sync_4 rfl (lv_at hl 0 rfl) ?_
  refine jfI (rnV (As := []) (rest := []) hx hb hml hown hE hK (hN _ _ hS) hP hD (v_writeJournalBlock_1 l D dA H.size h ad x hc2 hc) (q0 := 0) rfl rfl w315 w314 w316 w317 w277 rfl rfl ⟨⟨by decide, by decide⟩, rfl⟩ ⟨(Nat.le_of_ble_eq_true rfl), (Nat.le_of_ble_eq_true rfl)⟩ rfl hl.1 rfl (Nat.le_of_ble_eq_true rfl) d_V_sync_5 ⟨(Nat.le_of_ble_eq_true rfl), (Nat.le_of_ble_eq_true rfl)⟩) hP hD hS hA (fun r3 u4 H locs hp9 hP hD hS => ?_)
  have hP : va_P D vwCl (VW dA h ad (VS.s_jch (VS.s_jkept (VS.s_writes (VS.s_cutLeft x (cutF x.cutLeft)) (x.writes + 1)) x.jsize) false)) H := hP
  have hD : va_D A (VW dA h ad (VS.s_jch (VS.s_jkept (VS.s_writes (VS.s_cutLeft x (cutF x.cutLeft)) (x.writes + 1)) x.jsize) false)) := hD
  replace hp9 : bI true = r3 := Eq.symm hp9
  subst hp9
  exact rfZ hx hb hr (bI_nar true) hlk hS () rfl hP hD (Nat.le_of_ble_eq_true rfl) (Nat.le_of_ble_eq_true rfl) d_V_sync_8
set_option maxHeartbeats 4000000 in
set_option maxRecDepth 100000 in
theorem v_off (l : Launch) (D : va_G) (dA : Nat → ClassId) (sz : Nat) (h : Nat) (ad : Nat → Nat) (x : VS) (ho : x.powered = true) : Met l ⟨"SeriesVault", "off", "()V"⟩ [Cond.code ⟨"SeriesVault", "off", "()V"⟩ prog_1_method_12_code 1 none] { frames := 2, cells := 0, slots := 0, locals := 20 } (pC D dA [.ref h] (VW dA h ad x) sz) (va_Qv (fun (u9 : Unit) => True) (fun (u9 : Unit) t9 => bW D (va_A (VW dA h ad x) sz) (VW dA h ad (VS.s_powered x false)) t9) (va_A (VW dA h ad x) sz)) 0 0 (va_A (VW dA h ad x) sz) := by
  refine mkC (y := ⟨"SeriesVault", "off", "()V"⟩) (cc := prog_1_method_12_code) (maxL := 1) (av := [.ref h]) (ws := VW dA h ad x) (sz := sz) (Qc := fun A => va_Qv (fun (u9 : Unit) => True) (fun (u9 : Unit) t9 => bW D A (VW dA h ad (VS.s_powered x false)) t9) A) (by decide) (Nat.le_of_ble_eq_true rfl) ?_
  intro A p e s m below meth c ls hsz hB
  obtain ⟨hx, hb, hr, hml, hown, hin, hlk, hE, hK, hP, hD, hS, hA, hN, hl⟩ := hB
  have hown : s.vm.findClass "SeriesVault" = some m.cls := hown
  have hl : lv_has ls 1 [(0, .ref h)] := hl
  obtain ⟨H, hH⟩ : ∃ z, z = s.heap := ⟨_, rfl⟩
  have hP : va_P D vwCl (VW dA h ad x) H := by rw [hH]; exact hP
  have hS : va_S A s.heap H [] := by rw [hH]; exact hS
  rw [← hH]
  refine lv_aload_n hx hb d_V_off_0 rfl (lv_at hl 0 rfl) ?_
  refine jfV (rnV (As := []) (rest := []) hx hb hml hown hE hK (hN _ _ hS) hP hD (v_checkPower l D dA H.size h ad x ho) (q0 := 0) rfl rfl w278 w276 w279 w280 w277 rfl rfl ⟨⟨by decide, by decide⟩, rfl⟩ ⟨(Nat.le_of_ble_eq_true rfl), (Nat.le_of_ble_eq_true rfl)⟩ rfl hl.1 rfl (Nat.le_of_ble_eq_true rfl) d_V_off_1 ⟨(Nat.le_of_ble_eq_true rfl), (Nat.le_of_ble_eq_true rfl)⟩) hP hD hS hA (fun u2 H locs hp9 hP hD hS => ?_)
  have hP : va_P D vwCl (VW dA h ad x) H := hP
  have hD : va_D A (VW dA h ad x) := hD
  refine lv_aload_n hx hb d_V_off_4 rfl (lv_at hl 0 rfl) ?_
  refine lv_iconst (v := 0) hx hb d_V_off_5 (by decide) ?_
  refine pF (v := .int (bI false)) hx hb hown hE hK hP hD hS 0 rfl rfl layV tyV tokV nmV 5 (by decide) w275 rfl (bI_nar false) (bI_fit false) (Nat.le_of_ble_eq_true rfl) d_V_off_6 (fun H locs hP hD hS => ?_)
  have hP : va_P D vwCl (VW dA h ad (VS.s_powered x false)) H := hP
  have hD : va_D A (VW dA h ad (VS.s_powered x false)) := hD
  exact rfV hx hb hr hlk hS () trivial hP hD (Nat.le_of_ble_eq_true rfl) (Nat.le_of_ble_eq_true rfl) d_V_off_9
set_option maxHeartbeats 4000000 in
set_option maxRecDepth 100000 in
theorem v_cut (l : Launch) (D : va_G) (dA : Nat → ClassId) (sz : Nat) (h : Nat) (ad : Nat → Nat) (x : VS) (n : Int32) (ho : x.powered = true) (h1 : (-1) ≤ n) : Met l ⟨"SeriesVault", "cut", "(I)V"⟩ [Cond.code ⟨"SeriesVault", "cut", "(I)V"⟩ prog_1_method_11_code 2 none] { frames := 2, cells := 0, slots := 0, locals := 20 } (pC D dA [.ref h, .int n] (VW dA h ad x) sz) (va_Qv (fun (u9 : Unit) => True) (fun (u9 : Unit) t9 => bW D (va_A (VW dA h ad x) sz) (VW dA h ad (VS.s_cutLeft x n)) t9) (va_A (VW dA h ad x) sz)) 0 0 (va_A (VW dA h ad x) sz) := by
  refine mkC (y := ⟨"SeriesVault", "cut", "(I)V"⟩) (cc := prog_1_method_11_code) (maxL := 2) (av := [.ref h, .int n]) (ws := VW dA h ad x) (sz := sz) (Qc := fun A => va_Qv (fun (u9 : Unit) => True) (fun (u9 : Unit) t9 => bW D A (VW dA h ad (VS.s_cutLeft x n)) t9) A) (by decide) (Nat.le_of_ble_eq_true rfl) ?_
  intro A p e s m below meth c ls hsz hB
  obtain ⟨hx, hb, hr, hml, hown, hin, hlk, hE, hK, hP, hD, hS, hA, hN, hl⟩ := hB
  have hown : s.vm.findClass "SeriesVault" = some m.cls := hown
  have hl : lv_has ls 2 [(0, .ref h), (1, .int n)] := hl
  obtain ⟨H, hH⟩ : ∃ z, z = s.heap := ⟨_, rfl⟩
  have hP : va_P D vwCl (VW dA h ad x) H := by rw [hH]; exact hP
  have hS : va_S A s.heap H [] := by rw [hH]; exact hS
  rw [← hH]
  refine lv_aload_n hx hb d_V_cut_0 rfl (lv_at hl 0 rfl) ?_
  refine jfV (rnV (As := []) (rest := []) hx hb hml hown hE hK (hN _ _ hS) hP hD (v_checkPower l D dA H.size h ad x ho) (q0 := 0) rfl rfl w278 w276 w279 w280 w277 rfl rfl ⟨⟨by decide, by decide⟩, rfl⟩ ⟨(Nat.le_of_ble_eq_true rfl), (Nat.le_of_ble_eq_true rfl)⟩ rfl hl.1 rfl (Nat.le_of_ble_eq_true rfl) d_V_cut_1 ⟨(Nat.le_of_ble_eq_true rfl), (Nat.le_of_ble_eq_true rfl)⟩) hP hD hS hA (fun u2 H locs hp9 hP hD hS => ?_)
  have hP : va_P D vwCl (VW dA h ad x) H := hP
  have hD : va_D A (VW dA h ad x) := hD
  refine lv_iload_n hx hb d_V_cut_4 rfl (lv_at hl 1 rfl) ?_
  refine lv_iconst (v := (-1)) hx hb d_V_cut_5 (by decide) ?_
  refine lv_icmp_ge hx hb d_V_cut_6 (tgt := 17) rfl (fun _ => ?_) (fun h9 => absurd h1 h9)
  refine lv_aload_n hx hb d_V_cut_17 rfl (lv_at hl 0 rfl) ?_
  refine lv_iload_n hx hb d_V_cut_18 rfl (lv_at hl 1 rfl) ?_
  refine pF (v := .int n) hx hb hown hE hK hP hD hS 0 rfl rfl layV tyV tokV nmV 6 (by decide) w281 rfl rfl rfl (Nat.le_of_ble_eq_true rfl) d_V_cut_19 (fun H locs hP hD hS => ?_)
  have hP : va_P D vwCl (VW dA h ad (VS.s_cutLeft x n)) H := hP
  have hD : va_D A (VW dA h ad (VS.s_cutLeft x n)) := hD
  exact rfV hx hb hr hlk hS () trivial hP hD (Nat.le_of_ble_eq_true rfl) (Nat.le_of_ble_eq_true rfl) d_V_cut_22
theorem d_V_last_9 : decode prog_1_method_27_code 9 = .ok (.aload_n 0, 1) := by decide +kernel
theorem d_V_last_10 : decode prog_1_method_27_code 10 = .ok (.getfield 33, 3) := by decide +kernel
theorem d_V_last_13 : decode prog_1_method_27_code 13 = .ok (.getfield 251, 3) := by decide +kernel
theorem d_V_last_16 : decode prog_1_method_27_code 16 = .ok (.iload_n 1, 1) := by decide +kernel
theorem d_V_last_17 : decode prog_1_method_27_code 17 = .ok (.laload, 1) := by decide +kernel
theorem d_V_last_18 : decode prog_1_method_27_code 18 = .ok (.lreturn, 1) := by decide +kernel
theorem w1104 : Cond.fieldLinkNest "SeriesVault" 251 "SeriesVault$Shelf" "lasts" "[J" "SeriesVault" ∈ aW := aw_of (tb_1 (List.mem_of_getElem? (i := 158) rfl)) rfl
set_option maxHeartbeats 4000000 in
set_option maxRecDepth 100000 in
theorem v_last (l : Launch) (D : va_G) (dA : Nat → ClassId) (sz : Nat) (h : Nat) (ad : Nat → Nat) (x : VS) (w : Nat) (ho : x.powered = true) (hw : w < x.nser) (h2 : x.nser ≤ 256) : Met l ⟨"SeriesVault", "last", "(I)J"⟩ [Cond.code ⟨"SeriesVault", "last", "(I)J"⟩ prog_1_method_27_code 2 (some FieldType.long)] { frames := 2, cells := 0, slots := 0, locals := 21 } (pC D dA [.ref h, .int (nI w)] (VW dA h ad x) sz) (va_Ql (fun (r9 : Int64) (u9 : Unit) => r9 = x.nlast w) (fun (u9 : Unit) t9 => bW D (va_A (VW dA h ad x) sz) (VW dA h ad x) t9) (va_A (VW dA h ad x) sz)) 0 0 (va_A (VW dA h ad x) sz) := by
  refine mkC (y := ⟨"SeriesVault", "last", "(I)J"⟩) (cc := prog_1_method_27_code) (maxL := 2) (av := [.ref h, .int (nI w)]) (ws := VW dA h ad x) (sz := sz) (Qc := fun A => va_Ql (fun (r9 : Int64) (u9 : Unit) => r9 = x.nlast w) (fun (u9 : Unit) t9 => bW D A (VW dA h ad x) t9) A) (by decide) (Nat.le_of_ble_eq_true rfl) ?_
  intro A p e s m below meth c ls hsz hB
  obtain ⟨hx, hb, hr, hml, hown, hin, hlk, hE, hK, hP, hD, hS, hA, hN, hl⟩ := hB
  have hown : s.vm.findClass "SeriesVault" = some m.cls := hown
  have hl : lv_has ls 2 [(0, .ref h), (1, .int (nI w))] := hl
  obtain ⟨H, hH⟩ : ∃ z, z = s.heap := ⟨_, rfl⟩
  have hP : va_P D vwCl (VW dA h ad x) H := by rw [hH]; exact hP
  have hS : va_S A s.heap H [] := by rw [hH]; exact hS
  rw [← hH]
  refine lv_aload_n hx hb d_V_last_0 rfl (lv_at hl 0 rfl) ?_
  refine jfV (rnV (As := []) (rest := []) hx hb hml hown hE hK (hN _ _ hS) hP hD (v_checkPower l D dA H.size h ad x ho) (q0 := 0) rfl rfl w278 w276 w279 w280 w277 rfl rfl ⟨⟨by decide, by decide⟩, rfl⟩ ⟨(Nat.le_of_ble_eq_true rfl), (Nat.le_of_ble_eq_true rfl)⟩ rfl hl.1 rfl (Nat.le_of_ble_eq_true rfl) d_V_last_1 ⟨(Nat.le_of_ble_eq_true rfl), (Nat.le_of_ble_eq_true rfl)⟩) hP hD hS hA (fun u2 H locs hp9 hP hD hS => ?_)
  have hP : va_P D vwCl (VW dA h ad x) H := hP
  have hD : va_D A (VW dA h ad x) := hD
  refine lv_aload_n hx hb d_V_last_4 rfl (lv_at hl 0 rfl) ?_
  refine lv_iload_n hx hb d_V_last_5 rfl (lv_at hl 1 rfl) ?_
  refine jfV (rnV (As := [.int (nI w)]) (rest := []) hx hb hml hown hE hK (hN _ _ hS) hP hD (v_checkSeries l D dA H.size h ad x w (show w < x.nser from by omega) (show x.nser ≤ 256 from by omega)) (q0 := 0) rfl rfl w300 w299 w301 w302 w277 rfl rfl ⟨⟨by decide, by decide⟩, rfl⟩ ⟨(Nat.le_of_ble_eq_true rfl), (Nat.le_of_ble_eq_true rfl)⟩ rfl hl.1 rfl (Nat.le_of_ble_eq_true rfl) d_V_last_6 ⟨(Nat.le_of_ble_eq_true rfl), (Nat.le_of_ble_eq_true rfl)⟩) hP hD hS hA (fun u4 H locs hp9 hP hD hS => ?_)
  have hP : va_P D vwCl (VW dA h ad x) H := hP
  have hD : va_D A (VW dA h ad x) := hD
  refine lv_aload_n hx hb d_V_last_9 rfl (lv_at hl 0 rfl) ?_
  refine gF (v := .ref (ad 3)) hx hb hown hE hK hP 0 rfl rfl layV 11 (by decide) w297 rfl d_V_last_10 ?_
  refine gFN (v := .ref (ad 9)) hx hb hown hE hK hP 17 rfl rfl layH 9 (by decide) w1104 rfl d_V_last_13 ?_
  refine lv_iload_n hx hb d_V_last_16 rfl (lv_at hl 1 rfl) ?_
  refine nlld (f := x.nlast) (n := 256) hx hb hK hP 23 2 rfl rfl (w) (by omega) (by decide) d_V_last_17 ?_
  exact rfL hx hb hr hlk hS () rfl hP hD (Nat.le_of_ble_eq_true rfl) (Nat.le_of_ble_eq_true rfl) d_V_last_18
def VS.may (x : VS) (w : Nat) (a : Int64) : Bool := isTm a && (!decide (a ≤ x.nlast w) && !decide (a < x.nhor))
theorem d_V_mayCome_0 : decode prog_1_method_29_code 0 = .ok (.lload_n 2, 1) := by decide +kernel
theorem d_V_mayCome_1 : decode prog_1_method_29_code 1 = .ok (.invokestatic 262, 3) := by decide +kernel
theorem d_V_mayCome_4 : decode prog_1_method_29_code 4 = .ok (.ifCond .eq 33, 3) := by decide +kernel
theorem d_V_mayCome_37 : decode prog_1_method_29_code 37 = .ok (.iconst 0, 1) := by decide +kernel
theorem d_V_mayCome_38 : decode prog_1_method_29_code 38 = .ok (.ireturn, 1) := by decide +kernel
theorem d_V_mayCome_7 : decode prog_1_method_29_code 7 = .ok (.lload_n 2, 1) := by decide +kernel
theorem d_V_mayCome_8 : decode prog_1_method_29_code 8 = .ok (.aload_n 0, 1) := by decide +kernel
theorem d_V_mayCome_9 : decode prog_1_method_29_code 9 = .ok (.getfield 33, 3) := by decide +kernel
theorem d_V_mayCome_12 : decode prog_1_method_29_code 12 = .ok (.getfield 251, 3) := by decide +kernel
theorem d_V_mayCome_15 : decode prog_1_method_29_code 15 = .ok (.iload_n 1, 1) := by decide +kernel
theorem d_V_mayCome_16 : decode prog_1_method_29_code 16 = .ok (.laload, 1) := by decide +kernel
theorem d_V_mayCome_17 : decode prog_1_method_29_code 17 = .ok (.lcmp, 1) := by decide +kernel
theorem d_V_mayCome_18 : decode prog_1_method_29_code 18 = .ok (.ifCond .le 19, 3) := by decide +kernel
theorem d_V_mayCome_21 : decode prog_1_method_29_code 21 = .ok (.lload_n 2, 1) := by decide +kernel
theorem d_V_mayCome_22 : decode prog_1_method_29_code 22 = .ok (.aload_n 0, 1) := by decide +kernel
theorem d_V_mayCome_23 : decode prog_1_method_29_code 23 = .ok (.getfield 33, 3) := by decide +kernel
theorem d_V_mayCome_26 : decode prog_1_method_29_code 26 = .ok (.getfield 266, 3) := by decide +kernel
theorem d_V_mayCome_29 : decode prog_1_method_29_code 29 = .ok (.lcmp, 1) := by decide +kernel
theorem d_V_mayCome_30 : decode prog_1_method_29_code 30 = .ok (.ifCond .lt 7, 3) := by decide +kernel
theorem d_V_mayCome_33 : decode prog_1_method_29_code 33 = .ok (.iconst 1, 1) := by decide +kernel
theorem d_V_mayCome_34 : decode prog_1_method_29_code 34 = .ok (.goto 4, 3) := by decide +kernel
set_option maxHeartbeats 4000000 in
set_option maxRecDepth 100000 in
theorem v_mayCome (l : Launch) (D : va_G) (dA : Nat → ClassId) (sz : Nat) (h : Nat) (ad : Nat → Nat) (x : VS) (w : Nat) (a : Int64) (hw : w < 256) : Met l ⟨"SeriesVault", "mayCome", "(IJ)Z"⟩ [Cond.code ⟨"SeriesVault", "mayCome", "(IJ)Z"⟩ prog_1_method_29_code 4 (some FieldType.boolean)] { frames := 2, cells := 0, slots := 0, locals := 21 } (pC D dA [.ref h, .int (nI w), .long a] (VW dA h ad x) sz) (va_Qi (fun (r9 : Int32) (u9 : Unit) => r9 = bI (x.may w a)) (fun (u9 : Unit) t9 => bW D (va_A (VW dA h ad x) sz) (VW dA h ad x) t9) (va_A (VW dA h ad x) sz)) 0 0 (va_A (VW dA h ad x) sz) := by
  refine mkC (y := ⟨"SeriesVault", "mayCome", "(IJ)Z"⟩) (cc := prog_1_method_29_code) (maxL := 4) (av := [.ref h, .int (nI w), .long a]) (ws := VW dA h ad x) (sz := sz) (Qc := fun A => va_Qi (fun (r9 : Int32) (u9 : Unit) => r9 = bI (x.may w a)) (fun (u9 : Unit) t9 => bW D A (VW dA h ad x) t9) A) (by decide) (Nat.le_of_ble_eq_true rfl) ?_
  intro A p e s m below meth c ls hsz hB
  obtain ⟨hx, hb, hr, hml, hown, hin, hlk, hE, hK, hP, hD, hS, hA, hN, hl⟩ := hB
  have hown : s.vm.findClass "SeriesVault" = some m.cls := hown
  have hl : lv_has ls 4 [(0, .ref h), (1, .int (nI w)), (2, .long a)] := hl
  obtain ⟨H, hH⟩ : ∃ z, z = s.heap := ⟨_, rfl⟩
  have hP : va_P D vwCl (VW dA h ad x) H := by rw [hH]; exact hP
  have hS : va_S A s.heap H [] := by rw [hH]; exact hS
  rw [← hH]
  refine lv_lload_n hx hb d_V_mayCome_0 rfl (lv_at hl 2 rfl) ?_
  have hPc := hP.sub (ws' := []) [] rfl
  have hDc := hD.sub (ws' := []) [] (by decide) rfl
  refine jpI (rnS (As := [.long a]) (rest := []) hx hb hml hown hE hK (hN _ _ hS) hPc hDc (v_isTime l D dA H.size a) w693 w692 w694 w277 rfl rfl ⟨⟨by decide, by decide⟩, rfl⟩ ⟨(Nat.le_of_ble_eq_true rfl), (Nat.le_of_ble_eq_true rfl)⟩ rfl hl.1 rfl (Nat.le_of_ble_eq_true rfl) d_V_mayCome_1 ⟨(Nat.le_of_ble_eq_true rfl), (Nat.le_of_ble_eq_true rfl)⟩) hP hD hS hA (fun r1 u9 H locs hp9 hP hD hS => ?_)
  have hP : va_P D vwCl (VW dA h ad x) H := hP
  have hD : va_D A (VW dA h ad x) := hD
  replace hp9 : bI (isTm a) = r1 := Eq.symm hp9
  subst hp9
  refine lv_if_eq hx hb d_V_mayCome_4 (tgt := 37) rfl (fun g3 => ?_) (fun g3 => ?_)
  · have g3 := bI_0 g3
    refine lv_iconst (v := 0) hx hb d_V_mayCome_37 (by decide) ?_
    exact rfZ hx hb hr (bI_nar false) hlk hS () (by simp [VS.may, bI, *]) hP hD (Nat.le_of_ble_eq_true rfl) (Nat.le_of_ble_eq_true rfl) d_V_mayCome_38
  · have g3 := bI_n0 g3
    refine lv_lload_n hx hb d_V_mayCome_7 rfl (lv_at hl 2 rfl) ?_
    refine lv_aload_n hx hb d_V_mayCome_8 rfl (lv_at hl 0 rfl) ?_
    refine gF (v := .ref (ad 3)) hx hb hown hE hK hP 0 rfl rfl layV 11 (by decide) w297 rfl d_V_mayCome_9 ?_
    refine gFN (v := .ref (ad 9)) hx hb hown hE hK hP 17 rfl rfl layH 9 (by decide) w1104 rfl d_V_mayCome_12 ?_
    refine lv_iload_n hx hb d_V_mayCome_15 rfl (lv_at hl 1 rfl) ?_
    refine nlld (f := x.nlast) (n := 256) hx hb hK hP 23 2 rfl rfl (w) (by omega) (by decide) d_V_mayCome_16 ?_
    refine W.lcmp hx hb d_V_mayCome_17 ?_
    refine lv_if_le hx hb d_V_mayCome_18 (tgt := 37) rfl (fun g4 => ?_) (fun g4 => ?_)
    · have g4 := (lg_cmp_le _ _).mp g4
      refine lv_iconst (v := 0) hx hb d_V_mayCome_37 (by decide) ?_
      exact rfZ hx hb hr (bI_nar false) hlk hS () (by simp [VS.may, bI, *]) hP hD (Nat.le_of_ble_eq_true rfl) (Nat.le_of_ble_eq_true rfl) d_V_mayCome_38
    · have g4 := mt (lg_cmp_le _ _).mpr g4
      refine lv_lload_n hx hb d_V_mayCome_21 rfl (lv_at hl 2 rfl) ?_
      refine lv_aload_n hx hb d_V_mayCome_22 rfl (lv_at hl 0 rfl) ?_
      refine gF (v := .ref (ad 3)) hx hb hown hE hK hP 0 rfl rfl layV 11 (by decide) w297 rfl d_V_mayCome_23 ?_
      refine gFN (v := .long x.nhor) hx hb hown hE hK hP 17 rfl rfl layH 7 (by decide) w710 rfl d_V_mayCome_26 ?_
      refine W.lcmp hx hb d_V_mayCome_29 ?_
      refine lv_if_lt hx hb d_V_mayCome_30 (tgt := 37) rfl (fun g5 => ?_) (fun g5 => ?_)
      · have g5 := (lg_cmp_lt _ _).mp g5
        refine lv_iconst (v := 0) hx hb d_V_mayCome_37 (by decide) ?_
        exact rfZ hx hb hr (bI_nar false) hlk hS () (by simp [VS.may, bI, *]) hP hD (Nat.le_of_ble_eq_true rfl) (Nat.le_of_ble_eq_true rfl) d_V_mayCome_38
      · have g5 := mt (lg_cmp_lt _ _).mpr g5
        refine lv_iconst (v := 1) hx hb d_V_mayCome_33 (by decide) ?_
        refine lv_goto hx hb d_V_mayCome_34 (tgt := 38) rfl ?_
        exact rfZ hx hb hr (bI_nar true) hlk hS () (by simp [VS.may, bI, *]) hP hD (Nat.le_of_ble_eq_true rfl) (Nat.le_of_ble_eq_true rfl) d_V_mayCome_38
theorem d_V_comePoint_0 : decode prog_1_method_32_code 0 = .ok (.aload_n 0, 1) := by decide +kernel
theorem d_V_comePoint_1 : decode prog_1_method_32_code 1 = .ok (.getfield 33, 3) := by decide +kernel
theorem d_V_comePoint_4 : decode prog_1_method_32_code 4 = .ok (.getfield 251, 3) := by decide +kernel
theorem d_V_comePoint_7 : decode prog_1_method_32_code 7 = .ok (.iload_n 1, 1) := by decide +kernel
theorem d_V_comePoint_8 : decode prog_1_method_32_code 8 = .ok (.lload_n 2, 1) := by decide +kernel
theorem d_V_comePoint_9 : decode prog_1_method_32_code 9 = .ok (.lastore, 1) := by decide +kernel
theorem d_V_comePoint_10 : decode prog_1_method_32_code 10 = .ok (.lload_n 2, 1) := by decide +kernel
theorem d_V_comePoint_11 : decode prog_1_method_32_code 11 = .ok (.aload_n 0, 1) := by decide +kernel
theorem d_V_comePoint_12 : decode prog_1_method_32_code 12 = .ok (.getfield 33, 3) := by decide +kernel
theorem d_V_comePoint_15 : decode prog_1_method_32_code 15 = .ok (.getfield 266, 3) := by decide +kernel
theorem d_V_comePoint_18 : decode prog_1_method_32_code 18 = .ok (.lcmp, 1) := by decide +kernel
theorem d_V_comePoint_19 : decode prog_1_method_32_code 19 = .ok (.ifCond .lt 14, 3) := by decide +kernel
theorem d_V_comePoint_33 : decode prog_1_method_32_code 33 = .ok (.return_, 1) := by decide +kernel
set_option maxHeartbeats 4000000 in
set_option maxRecDepth 100000 in
theorem v_comePoint_0 (l : Launch) (D : va_G) (dA : Nat → ClassId) (sz : Nat) (h : Nat) (ad : Nat → Nat) (x : VS) (w : Nat) (a : Int64) (b : Int64) (hw : w < 256) (ht : a < x.nhor) : Met l ⟨"SeriesVault", "comePoint", "(IJJ)V"⟩ [Cond.code ⟨"SeriesVault", "comePoint", "(IJJ)V"⟩ prog_1_method_32_code 6 none] { frames := 1, cells := 0, slots := 0, locals := 0 } (pC D dA [.ref h, .int (nI w), .long a, .long b] (VW dA h ad x) sz) (va_Qv (fun (u9 : Unit) => True) (fun (u9 : Unit) t9 => bW D (va_A (VW dA h ad x) sz) (VW dA h ad (VS.s_nlast x (va_up x.nlast w a))) t9) (va_A (VW dA h ad x) sz)) 0 0 (va_A (VW dA h ad x) sz) := by
  refine mkC (y := ⟨"SeriesVault", "comePoint", "(IJJ)V"⟩) (cc := prog_1_method_32_code) (maxL := 6) (av := [.ref h, .int (nI w), .long a, .long b]) (ws := VW dA h ad x) (sz := sz) (Qc := fun A => va_Qv (fun (u9 : Unit) => True) (fun (u9 : Unit) t9 => bW D A (VW dA h ad (VS.s_nlast x (va_up x.nlast w a))) t9) A) (by decide) (Nat.le_of_ble_eq_true rfl) ?_
  intro A p e s m below meth c ls hsz hB
  obtain ⟨hx, hb, hr, hml, hown, hin, hlk, hE, hK, hP, hD, hS, hA, hN, hl⟩ := hB
  have hown : s.vm.findClass "SeriesVault" = some m.cls := hown
  have hl : lv_has ls 6 [(0, .ref h), (1, .int (nI w)), (2, .long a), (4, .long b)] := hl
  obtain ⟨H, hH⟩ : ∃ z, z = s.heap := ⟨_, rfl⟩
  have hP : va_P D vwCl (VW dA h ad x) H := by rw [hH]; exact hP
  have hS : va_S A s.heap H [] := by rw [hH]; exact hS
  rw [← hH]
  refine lv_aload_n hx hb d_V_comePoint_0 rfl (lv_at hl 0 rfl) ?_
  refine gF (v := .ref (ad 3)) hx hb hown hE hK hP 0 rfl rfl layV 11 (by decide) w297 rfl d_V_comePoint_1 ?_
  refine gFN (v := .ref (ad 9)) hx hb hown hE hK hP 17 rfl rfl layH 9 (by decide) w1104 rfl d_V_comePoint_4 ?_
  refine lv_iload_n hx hb d_V_comePoint_7 rfl (lv_at hl 1 rfl) ?_
  refine lv_lload_n hx hb d_V_comePoint_8 rfl (lv_at hl 2 rfl) ?_
  refine nlst (n := 256) hx hb hK hP hD hS 23 2 rfl rfl (w) (by omega) (by decide) d_V_comePoint_9 (fun H locs hP hD hS => ?_)
  have hP : va_P D vwCl (VW dA h ad (VS.s_nlast x (va_up x.nlast w a))) H := hP
  have hD : va_D A (VW dA h ad (VS.s_nlast x (va_up x.nlast w a))) := hD
  refine lv_lload_n hx hb d_V_comePoint_10 rfl (lv_at hl 2 rfl) ?_
  refine lv_aload_n hx hb d_V_comePoint_11 rfl (lv_at hl 0 rfl) ?_
  refine gF (v := .ref (ad 3)) hx hb hown hE hK hP 0 rfl rfl layV 11 (by decide) w297 rfl d_V_comePoint_12 ?_
  refine gFN (v := .long x.nhor) hx hb hown hE hK hP 17 rfl rfl layH 7 (by decide) w710 rfl d_V_comePoint_15 ?_
  refine W.lcmp hx hb d_V_comePoint_18 ?_
  refine lv_if_lt hx hb d_V_comePoint_19 (tgt := 33) rfl (fun _ => ?_) (fun h9 => absurd ((lg_cmp_lt _ _).mpr ht) h9)
  exact rfV hx hb hr hlk hS () trivial hP hD (Nat.le_of_ble_eq_true rfl) (Nat.le_of_ble_eq_true rfl) d_V_comePoint_33
theorem d_V_comePoint_22 : decode prog_1_method_32_code 22 = .ok (.aload_n 0, 1) := by decide +kernel
theorem d_V_comePoint_23 : decode prog_1_method_32_code 23 = .ok (.getfield 23, 3) := by decide +kernel
theorem d_V_comePoint_26 : decode prog_1_method_32_code 26 = .ok (.iload_n 1, 1) := by decide +kernel
theorem d_V_comePoint_27 : decode prog_1_method_32_code 27 = .ok (.lload_n 2, 1) := by decide +kernel
theorem d_V_comePoint_28 : decode prog_1_method_32_code 28 = .ok (.lload 4, 2) := by decide +kernel
theorem d_V_comePoint_30 : decode prog_1_method_32_code 30 = .ok (.invokevirtual 272, 3) := by decide +kernel
theorem w1105 : Cond.methodLink "SeriesVault" 272 ⟨"SeriesVault$Points", "add", "(IJJ)V"⟩ ∈ aW := aw_of (tb_5 (List.mem_of_getElem? (i := 153) rfl)) rfl
theorem w1106 : Cond.code ⟨"SeriesVault$Points", "add", "(IJJ)V"⟩ prog_5_method_3_code 6 none ∈ aW := aw_of (tb_5 (List.mem_of_getElem? (i := 156) rfl)) rfl
theorem w1107 : Cond.instanceMethod ⟨"SeriesVault$Points", "add", "(IJJ)V"⟩ ∈ aW := aw_of (tb_5 (List.mem_of_getElem? (i := 154) rfl)) rfl
theorem w1108 : Cond.selects "SeriesVault$Points" ⟨"SeriesVault$Points", "add", "(IJJ)V"⟩ ⟨"SeriesVault$Points", "add", "(IJJ)V"⟩ ∈ aW := aw_of (tb_5 (List.mem_of_getElem? (i := 155) rfl)) rfl
set_option maxHeartbeats 4000000 in
set_option maxRecDepth 100000 in
theorem v_comePoint_1 (l : Launch) (D : va_G) (dA : Nat → ClassId) (sz : Nat) (h : Nat) (ad : Nat → Nat) (x : VS) (w : Nat) (a : Int64) (b : Int64) (hw : w < 256) (ht : x.nhor ≤ a) (h0 : x.hsize < x.hN) (h9 : x.hN ≤ 65536) : Met l ⟨"SeriesVault", "comePoint", "(IJJ)V"⟩ [Cond.code ⟨"SeriesVault", "comePoint", "(IJJ)V"⟩ prog_1_method_32_code 6 none] { frames := 3, cells := 0, slots := 0, locals := 51 } (pC D dA [.ref h, .int (nI w), .long a, .long b] (VW dA h ad x) sz) (va_Qv (fun (u9 : Unit) => True) (fun (u9 : Unit) t9 => bW D (va_A (VW dA h ad x) sz) (VW dA h ad (VS.s_nlast (VS.s_hsize (VS.s_hV (VS.s_hT (VS.s_hO x (va_up x.hO x.hsize w)) (va_up x.hT x.hsize a)) (va_up x.hV x.hsize b)) (x.hsize + 1)) (va_up x.nlast w a))) t9) (va_A (VW dA h ad x) sz)) 0 0 (va_A (VW dA h ad x) sz) := by
  refine mkC (y := ⟨"SeriesVault", "comePoint", "(IJJ)V"⟩) (cc := prog_1_method_32_code) (maxL := 6) (av := [.ref h, .int (nI w), .long a, .long b]) (ws := VW dA h ad x) (sz := sz) (Qc := fun A => va_Qv (fun (u9 : Unit) => True) (fun (u9 : Unit) t9 => bW D A (VW dA h ad (VS.s_nlast (VS.s_hsize (VS.s_hV (VS.s_hT (VS.s_hO x (va_up x.hO x.hsize w)) (va_up x.hT x.hsize a)) (va_up x.hV x.hsize b)) (x.hsize + 1)) (va_up x.nlast w a))) t9) A) (by decide) (Nat.le_of_ble_eq_true rfl) ?_
  intro A p e s m below meth c ls hsz hB
  obtain ⟨hx, hb, hr, hml, hown, hin, hlk, hE, hK, hP, hD, hS, hA, hN, hl⟩ := hB
  have hown : s.vm.findClass "SeriesVault" = some m.cls := hown
  have hl : lv_has ls 6 [(0, .ref h), (1, .int (nI w)), (2, .long a), (4, .long b)] := hl
  obtain ⟨H, hH⟩ : ∃ z, z = s.heap := ⟨_, rfl⟩
  have hP : va_P D vwCl (VW dA h ad x) H := by rw [hH]; exact hP
  have hS : va_S A s.heap H [] := by rw [hH]; exact hS
  rw [← hH]
  refine lv_aload_n hx hb d_V_comePoint_0 rfl (lv_at hl 0 rfl) ?_
  refine gF (v := .ref (ad 3)) hx hb hown hE hK hP 0 rfl rfl layV 11 (by decide) w297 rfl d_V_comePoint_1 ?_
  refine gFN (v := .ref (ad 9)) hx hb hown hE hK hP 17 rfl rfl layH 9 (by decide) w1104 rfl d_V_comePoint_4 ?_
  refine lv_iload_n hx hb d_V_comePoint_7 rfl (lv_at hl 1 rfl) ?_
  refine lv_lload_n hx hb d_V_comePoint_8 rfl (lv_at hl 2 rfl) ?_
  refine nlst (n := 256) hx hb hK hP hD hS 23 2 rfl rfl (w) (by omega) (by decide) d_V_comePoint_9 (fun H locs hP hD hS => ?_)
  have hP : va_P D vwCl (VW dA h ad (VS.s_nlast x (va_up x.nlast w a))) H := hP
  have hD : va_D A (VW dA h ad (VS.s_nlast x (va_up x.nlast w a))) := hD
  refine lv_lload_n hx hb d_V_comePoint_10 rfl (lv_at hl 2 rfl) ?_
  refine lv_aload_n hx hb d_V_comePoint_11 rfl (lv_at hl 0 rfl) ?_
  refine gF (v := .ref (ad 3)) hx hb hown hE hK hP 0 rfl rfl layV 11 (by decide) w297 rfl d_V_comePoint_12 ?_
  refine gFN (v := .long x.nhor) hx hb hown hE hK hP 17 rfl rfl layH 7 (by decide) w710 rfl d_V_comePoint_15 ?_
  refine W.lcmp hx hb d_V_comePoint_18 ?_
  refine lv_if_lt hx hb d_V_comePoint_19 (tgt := 33) rfl (fun h9 => absurd h9 (mt (lg_cmp_lt _ _).mp (Int64.not_lt.mpr ht))) (fun _ => ?_)
  refine lv_aload_n hx hb d_V_comePoint_22 rfl (lv_at hl 0 rfl) ?_
  refine gF (v := .ref (ad 1)) hx hb hown hE hK hP 0 rfl rfl layV 9 (by decide) w576 rfl d_V_comePoint_23 ?_
  refine lv_iload_n hx hb d_V_comePoint_26 rfl (lv_at hl 1 rfl) ?_
  refine lv_lload_n hx hb d_V_comePoint_27 rfl (lv_at hl 2 rfl) ?_
  refine lv_lload hx hb d_V_comePoint_28 (lv_at hl 3 rfl) ?_
  refine jfV (rnV (As := [.int (nI w), .long a, .long b]) (rest := []) hx hb hml hown hE hK (hN _ _ hS) hP hD (v_padd_h l D dA H.size h ad (VS.s_nlast x (va_up x.nlast w a)) w a b (show x.hsize < x.hN from by omega) (show x.hN ≤ 65536 from by omega)) (q0 := 9) rfl rfl w1106 w1105 w1107 w1108 w578 rfl rfl ⟨⟨by decide, by decide⟩, rfl⟩ ⟨(Nat.le_of_ble_eq_true rfl), (Nat.le_of_ble_eq_true rfl)⟩ rfl hl.1 rfl (Nat.le_of_ble_eq_true rfl) d_V_comePoint_30 ⟨(Nat.le_of_ble_eq_true rfl), (Nat.le_of_ble_eq_true rfl)⟩) hP hD hS hA (fun u2 H locs hp9 hP hD hS => ?_)
  have hP : va_P D vwCl (VW dA h ad (VS.s_nlast (VS.s_hsize (VS.s_hV (VS.s_hT (VS.s_hO x (va_up x.hO x.hsize w)) (va_up x.hT x.hsize a)) (va_up x.hV x.hsize b)) (x.hsize + 1)) (va_up x.nlast w a))) H := hP
  have hD : va_D A (VW dA h ad (VS.s_nlast (VS.s_hsize (VS.s_hV (VS.s_hT (VS.s_hO x (va_up x.hO x.hsize w)) (va_up x.hT x.hsize a)) (va_up x.hV x.hsize b)) (x.hsize + 1)) (va_up x.nlast w a))) := hD
  exact rfV hx hb hr hlk hS () trivial hP hD (Nat.le_of_ble_eq_true rfl) (Nat.le_of_ble_eq_true rfl) d_V_comePoint_33
