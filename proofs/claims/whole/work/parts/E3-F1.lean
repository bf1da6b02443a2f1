section
theorem d_E_addMatch_0 : decode prog_10_method_4_code 0 = .ok (.aload_n 0, 1) := by decide +kernel
theorem d_E_addMatch_1 : decode prog_10_method_4_code 1 = .ok (.getfield 33, 3) := by decide +kernel
theorem d_E_addMatch_4 : decode prog_10_method_4_code 4 = .ok (.invokevirtual 51, 3) := by decide +kernel
theorem d_E_addMatch_7 : decode prog_10_method_4_code 7 = .ok (.istore 4, 2) := by decide +kernel
theorem d_E_addMatch_9 : decode prog_10_method_4_code 9 = .ok (.iload 4, 2) := by decide +kernel
theorem d_E_addMatch_11 : decode prog_10_method_4_code 11 = .ok (.aload_n 0, 1) := by decide +kernel
theorem d_E_addMatch_12 : decode prog_10_method_4_code 12 = .ok (.getfield 40, 3) := by decide +kernel
theorem d_E_addMatch_15 : decode prog_10_method_4_code 15 = .ok (.arraylength, 1) := by decide +kernel
theorem d_E_addMatch_16 : decode prog_10_method_4_code 16 = .ok (.if_icmp .ne 20, 3) := by decide +kernel
theorem d_E_addMatch_36 : decode prog_10_method_4_code 36 = .ok (.aload_n 0, 1) := by decide +kernel
theorem d_E_addMatch_37 : decode prog_10_method_4_code 37 = .ok (.getfield 40, 3) := by decide +kernel
theorem d_E_addMatch_40 : decode prog_10_method_4_code 40 = .ok (.iload 4, 2) := by decide +kernel
theorem d_E_addMatch_42 : decode prog_10_method_4_code 42 = .ok (.iload_n 1, 1) := by decide +kernel
theorem d_E_addMatch_43 : decode prog_10_method_4_code 43 = .ok (.iastore, 1) := by decide +kernel
theorem d_E_addMatch_44 : decode prog_10_method_4_code 44 = .ok (.aload_n 0, 1) := by decide +kernel
theorem d_E_addMatch_45 : decode prog_10_method_4_code 45 = .ok (.getfield 33, 3) := by decide +kernel
theorem d_E_addMatch_48 : decode prog_10_method_4_code 48 = .ok (.aload_n 2, 1) := by decide +kernel
theorem d_E_addMatch_49 : decode prog_10_method_4_code 49 = .ok (.invokevirtual 61, 3) := by decide +kernel
theorem d_E_addMatch_52 : decode prog_10_method_4_code 52 = .ok (.pop, 1) := by decide +kernel
theorem d_E_addMatch_53 : decode prog_10_method_4_code 53 = .ok (.aload_n 0, 1) := by decide +kernel
theorem d_E_addMatch_54 : decode prog_10_method_4_code 54 = .ok (.getfield 37, 3) := by decide +kernel
theorem d_E_addMatch_57 : decode prog_10_method_4_code 57 = .ok (.aload_n 3, 1) := by decide +kernel
theorem d_E_addMatch_58 : decode prog_10_method_4_code 58 = .ok (.invokevirtual 61, 3) := by decide +kernel
theorem d_E_addMatch_61 : decode prog_10_method_4_code 61 = .ok (.pop, 1) := by decide +kernel
theorem d_E_addMatch_62 : decode prog_10_method_4_code 62 = .ok (.return_, 1) := by decide +kernel
theorem w1536 : Cond.methodLink "SeriesVault$Step" 61 ⟨"java/util/ArrayList", "add", "(Ljava/lang/Object;)Z"⟩ ∈ aW := aw_of (tb_7 (List.mem_of_getElem? (i := 122) rfl)) rfl
set_option maxHeartbeats 4000000 in
set_option maxRecDepth 100000 in
theorem v_EaddMatch_r (l : Launch) (D : va_G) (dA : Nat → ClassId) (sz : Nat) (ws : va_W) (sp : Nat) (kd : Int32) (pl : Nat) (nu : Int64) (na : Nat) (nn : Nat) (mk : Nat) (kN : Nat) (fk : Nat → Int32) (z : Int32) (wa : Nat) (wb : Nat) (L : List Int32) (M : List Int32) (la : Nat → Nat) (g : LI) (lb : Nat → Nat) (gb : LI) (hwa : isWo dA ws wa L) (hwb : isWo dA ws wb M) (hkN : kN ≤ 131072) (h1 : g.sz < g.eN) (h2 : g.eN ≤ 65536) (h3 : gb.sz < gb.eN) (h4 : gb.eN ≤ 65536) (h5 : g.sz < kN) : Met l ⟨"SeriesVault$Step", "addMatch", "(ILSeriesVault$Word;LSeriesVault$Word;)V"⟩ [Cond.code ⟨"SeriesVault$Step", "addMatch", "(ILSeriesVault$Word;LSeriesVault$Word;)V"⟩ prog_10_method_4_code 5 none] { frames := 3, cells := 0, slots := 0, locals := 44 } (pC D dA [.ref sp, .int z, .ref wa, .ref wb] ([(sp, .inr (13, [.int kd, .int (nI pl), .long nu, .ref na, .int (nI nn), .ref (la 0), .ref (lb 0), .ref mk]))] ++ (LiW dA la g ++ (LiW dA lb gb ++ ([(mk, .inl (dA 1, kN, .inl fk))] ++ (ws))))) sz) (va_Qv (fun (u9 : Unit) => True) (fun (u9 : Unit) t9 => bW D (va_A ([(sp, .inr (13, [.int kd, .int (nI pl), .long nu, .ref na, .int (nI nn), .ref (la 0), .ref (lb 0), .ref mk]))] ++ (LiW dA la g ++ (LiW dA lb gb ++ ([(mk, .inl (dA 1, kN, .inl fk))] ++ (ws))))) sz) ([(sp, .inr (13, [.int kd, .int (nI pl), .long nu, .ref na, .int (nI nn), .ref (la 0), .ref (lb 0), .ref mk]))] ++ (LiW dA la (LI.s_el (LI.s_mc (LI.s_sz g (g.sz + 1)) (g.mc + 1)) (va_up g.el g.sz (some wa))) ++ (LiW dA lb (LI.s_el (LI.s_mc (LI.s_sz gb (gb.sz + 1)) (gb.mc + 1)) (va_up gb.el gb.sz (some wb))) ++ ([(mk, .inl (dA 1, kN, .inl (va_up fk g.sz z)))] ++ (ws))))) t9) (va_A ([(sp, .inr (13, [.int kd, .int (nI pl), .long nu, .ref na, .int (nI nn), .ref (la 0), .ref (lb 0), .ref mk]))] ++ (LiW dA la g ++ (LiW dA lb gb ++ ([(mk, .inl (dA 1, kN, .inl fk))] ++ (ws))))) sz)) 0 0 (va_A ([(sp, .inr (13, [.int kd, .int (nI pl), .long nu, .ref na, .int (nI nn), .ref (la 0), .ref (lb 0), .ref mk]))] ++ (LiW dA la g ++ (LiW dA lb gb ++ ([(mk, .inl (dA 1, kN, .inl fk))] ++ (ws))))) sz) := by
  refine mkC (y := ⟨"SeriesVault$Step", "addMatch", "(ILSeriesVault$Word;LSeriesVault$Word;)V"⟩) (cc := prog_10_method_4_code) (maxL := 5) (av := [.ref sp, .int z, .ref wa, .ref wb]) (ws := [(sp, .inr (13, [.int kd, .int (nI pl), .long nu, .ref na, .int (nI nn), .ref (la 0), .ref (lb 0), .ref mk]))] ++ (LiW dA la g ++ (LiW dA lb gb ++ ([(mk, .inl (dA 1, kN, .inl fk))] ++ (ws))))) (sz := sz) (Qc := fun A => va_Qv (fun (u9 : Unit) => True) (fun (u9 : Unit) t9 => bW D A ([(sp, .inr (13, [.int kd, .int (nI pl), .long nu, .ref na, .int (nI nn), .ref (la 0), .ref (lb 0), .ref mk]))] ++ (LiW dA la (LI.s_el (LI.s_mc (LI.s_sz g (g.sz + 1)) (g.mc + 1)) (va_up g.el g.sz (some wa))) ++ (LiW dA lb (LI.s_el (LI.s_mc (LI.s_sz gb (gb.sz + 1)) (gb.mc + 1)) (va_up gb.el gb.sz (some wb))) ++ ([(mk, .inl (dA 1, kN, .inl (va_up fk g.sz z)))] ++ (ws))))) t9) A) (by decide) (Nat.le_of_ble_eq_true rfl) ?_
  intro A p e s m below meth c ls hsz hB
  obtain ⟨hx, hb, hr, hml, hown, hin, hlk, hE, hK, hP, hD, hS, hA, hN, hl⟩ := hB
  have hown : s.vm.findClass "SeriesVault$Step" = some m.cls := hown
  have hl : lv_has ls 5 [(0, .ref sp), (1, .int z), (2, .ref wa), (3, .ref wb)] := hl
  obtain ⟨H, hH⟩ : ∃ z, z = s.heap := ⟨_, rfl⟩
  have hP : va_P D vwCl ([(sp, .inr (13, [.int kd, .int (nI pl), .long nu, .ref na, .int (nI nn), .ref (la 0), .ref (lb 0), .ref mk]))] ++ (LiW dA la g ++ (LiW dA lb gb ++ ([(mk, .inl (dA 1, kN, .inl fk))] ++ (ws))))) H := by rw [hH]; exact hP
  have hS : va_S A s.heap H [] := by rw [hH]; exact hS
  rw [← hH]
  have wac := hwa
  obtain ⟨bwa, fwa, kwa, -⟩ := wac
  have wbc := hwb
  obtain ⟨bwb, fwb, kwb, -⟩ := wbc
  refine lv_aload_n hx hb d_E_addMatch_0 rfl (lv_at hl 0 rfl) ?_
  refine gF (v := .ref (la 0)) hx hb hown hE hK hP 0 rfl rfl layE 5 (by decide) w1482 rfl d_E_addMatch_1 ?_
  have hP := pmP (show List.Perm (α := Nat × va_E) ([(sp, .inr (13, [.int kd, .int (nI pl), .long nu, .ref na, .int (nI nn), .ref (la 0), .ref (lb 0), .ref mk]))] ++ (LiW dA la g ++ (LiW dA lb gb ++ ([(mk, .inl (dA 1, kN, .inl fk))] ++ (ws))))) (LiW dA la g ++ ([(sp, .inr (13, [.int kd, .int (nI pl), .long nu, .ref na, .int (nI nn), .ref (la 0), .ref (lb 0), .ref mk]))] ++ (LiW dA lb gb ++ ([(mk, .inl (dA 1, kN, .inl fk))] ++ (ws))))) from List.perm_append_comm_assoc ([(sp, .inr (13, [.int kd, .int (nI pl), .long nu, .ref na, .int (nI nn), .ref (la 0), .ref (lb 0), .ref mk]))]) (LiW dA la g) (LiW dA lb gb ++ ([(mk, .inl (dA 1, kN, .inl fk))] ++ (ws)))) hP
  have hD := pmD (show List.Perm (α := Nat × va_E) ([(sp, .inr (13, [.int kd, .int (nI pl), .long nu, .ref na, .int (nI nn), .ref (la 0), .ref (lb 0), .ref mk]))] ++ (LiW dA la g ++ (LiW dA lb gb ++ ([(mk, .inl (dA 1, kN, .inl fk))] ++ (ws))))) (LiW dA la g ++ ([(sp, .inr (13, [.int kd, .int (nI pl), .long nu, .ref na, .int (nI nn), .ref (la 0), .ref (lb 0), .ref mk]))] ++ (LiW dA lb gb ++ ([(mk, .inl (dA 1, kN, .inl fk))] ++ (ws))))) from List.perm_append_comm_assoc ([(sp, .inr (13, [.int kd, .int (nI pl), .long nu, .ref na, .int (nI nn), .ref (la 0), .ref (lb 0), .ref mk]))]) (LiW dA la g) (LiW dA lb gb ++ ([(mk, .inl (dA 1, kN, .inl fk))] ++ (ws)))) hD
  refine jkI (wr := []) (rnV (As := []) (rest := []) hx hb hml hown hE hK (hN _ _ hS) hP hD (v_Lsize l D dA H.size ([(sp, .inr (13, [.int kd, .int (nI pl), .long nu, .ref na, .int (nI nn), .ref (la 0), .ref (lb 0), .ref mk]))] ++ (LiW dA lb gb ++ ([(mk, .inl (dA 1, kN, .inl fk))] ++ (ws)))) la g) (q0 := 0) rfl rfl w1484 w1483 w1485 w1486 w680 rfl rfl ⟨⟨by decide, by decide⟩, rfl⟩ ⟨(Nat.le_of_ble_eq_true rfl), (Nat.le_of_ble_eq_true rfl)⟩ rfl hl.1 rfl (Nat.le_of_ble_eq_true rfl) d_E_addMatch_4 ⟨(Nat.le_of_ble_eq_true rfl), (Nat.le_of_ble_eq_true rfl)⟩) hP hD hS hA (fun r1 u2 H locs hp9 hP hD hS => ?_)
  have hP : va_P D vwCl (LiW dA la g ++ ([(sp, .inr (13, [.int kd, .int (nI pl), .long nu, .ref na, .int (nI nn), .ref (la 0), .ref (lb 0), .ref mk]))] ++ (LiW dA lb gb ++ ([(mk, .inl (dA 1, kN, .inl fk))] ++ (ws))))) H := hP
  have hD : va_D A (LiW dA la g ++ ([(sp, .inr (13, [.int kd, .int (nI pl), .long nu, .ref na, .int (nI nn), .ref (la 0), .ref (lb 0), .ref mk]))] ++ (LiW dA lb gb ++ ([(mk, .inl (dA 1, kN, .inl fk))] ++ (ws))))) := hD
  replace hp9 : nI g.sz = r1 := Eq.symm hp9
  subst hp9
  refine lv_istore hx hb d_E_addMatch_7 hl (by decide) rfl (fun ls hl => ?_)
  have hl : lv_has ls 5 [(4, .int (nI g.sz)), (0, .ref sp), (1, .int z), (2, .ref wa), (3, .ref wb)] := hl
  refine lv_iload hx hb d_E_addMatch_9 (lv_at hl 0 rfl) ?_
  refine lv_aload_n hx hb d_E_addMatch_11 rfl (lv_at hl 1 rfl) ?_
  refine gF (v := .ref mk) hx hb hown hE hK hP 2 rfl rfl layE 7 (by decide) w1487 rfl d_E_addMatch_12 ?_
  refine va_alen (v := nI kN) hx hb hK hP (5) 1 rfl rfl rfl d_E_addMatch_15 ?_
  refine lv_icmp_ne hx hb d_E_addMatch_16 (tgt := 36) rfl (fun g3 => ?_) (fun g3 => ?_)
  rotate_left
  · have g3 := (nI_eq (a := g.sz) (b := kN) (by omega) (by omega)).mp g3; exfalso; omega
  have g3 := mt (nI_eq (a := g.sz) (b := kN) (by omega) (by omega)).mpr g3
  refine lv_aload_n hx hb d_E_addMatch_36 rfl (lv_at hl 1 rfl) ?_
  refine gF (v := .ref mk) hx hb hown hE hK hP 2 rfl rfl layE 7 (by decide) w1487 rfl d_E_addMatch_37 ?_
  refine lv_iload hx hb d_E_addMatch_40 (lv_at hl 0 rfl) ?_
  refine lv_iload_n hx hb d_E_addMatch_42 rfl (lv_at hl 2 rfl) ?_
  refine nist (n := kN) hx hb hK hP hD hS (5) 1 rfl rfl (g.sz) (by omega) (by omega) d_E_addMatch_43 (fun H locs hP hD hS => ?_)
  have hP : va_P D vwCl (LiW dA la g ++ ([(sp, .inr (13, [.int kd, .int (nI pl), .long nu, .ref na, .int (nI nn), .ref (la 0), .ref (lb 0), .ref mk]))] ++ (LiW dA lb gb ++ ([(mk, .inl (dA 1, kN, .inl (va_up fk g.sz z)))] ++ (ws))))) H := hP
  have hD : va_D A (LiW dA la g ++ ([(sp, .inr (13, [.int kd, .int (nI pl), .long nu, .ref na, .int (nI nn), .ref (la 0), .ref (lb 0), .ref mk]))] ++ (LiW dA lb gb ++ ([(mk, .inl (dA 1, kN, .inl (va_up fk g.sz z)))] ++ (ws))))) := hD
  refine lv_aload_n hx hb d_E_addMatch_44 rfl (lv_at hl 1 rfl) ?_
  refine gF (v := .ref (la 0)) hx hb hown hE hK hP 2 rfl rfl layE 5 (by decide) w1482 rfl d_E_addMatch_45 ?_
  refine lv_aload_n hx hb d_E_addMatch_48 rfl (lv_at hl 3 rfl) ?_
  refine jkI (wr := []) (rnV (As := [.ref wa]) (rest := []) hx hb hml hown hE hK (hN _ _ hS) hP hD (v_Ladd_W l D dA H.size ([(sp, .inr (13, [.int kd, .int (nI pl), .long nu, .ref na, .int (nI nn), .ref (la 0), .ref (lb 0), .ref mk]))] ++ (LiW dA lb gb ++ ([(mk, .inl (dA 1, kN, .inl (va_up fk g.sz z)))] ++ (ws)))) la g wa ([.ref bwa]) (show g.sz < g.eN from by omega) (show g.eN ≤ 65536 from by omega) ((fun _ hm => (List.mem_append_right _ (List.mem_append_right _ (List.mem_append_right _ hm)))) _ kwa)) (q0 := 0) rfl rfl w812 w1536 w813 w814 w680 rfl rfl ⟨⟨by decide, by decide⟩, rfl⟩ ⟨(Nat.le_of_ble_eq_true rfl), (Nat.le_of_ble_eq_true rfl)⟩ rfl hl.1 rfl (Nat.le_of_ble_eq_true rfl) d_E_addMatch_49 ⟨(Nat.le_of_ble_eq_true rfl), (Nat.le_of_ble_eq_true rfl)⟩) hP hD hS hA (fun r4 u5 H locs hp9 hP hD hS => ?_)
  have hP : va_P D vwCl (LiW dA la (LI.s_el (LI.s_mc (LI.s_sz g (g.sz + 1)) (g.mc + 1)) (va_up g.el g.sz (some wa))) ++ ([(sp, .inr (13, [.int kd, .int (nI pl), .long nu, .ref na, .int (nI nn), .ref (la 0), .ref (lb 0), .ref mk]))] ++ (LiW dA lb gb ++ ([(mk, .inl (dA 1, kN, .inl (va_up fk g.sz z)))] ++ (ws))))) H := hP
  have hD : va_D A (LiW dA la (LI.s_el (LI.s_mc (LI.s_sz g (g.sz + 1)) (g.mc + 1)) (va_up g.el g.sz (some wa))) ++ ([(sp, .inr (13, [.int kd, .int (nI pl), .long nu, .ref na, .int (nI nn), .ref (la 0), .ref (lb 0), .ref mk]))] ++ (LiW dA lb gb ++ ([(mk, .inl (dA 1, kN, .inl (va_up fk g.sz z)))] ++ (ws))))) := hD
  replace hp9 : 1 = r4 := Eq.symm hp9
  subst hp9
  refine lv_pop hx hb d_E_addMatch_52 rfl ?_
  refine lv_aload_n hx hb d_E_addMatch_53 rfl (lv_at hl 1 rfl) ?_
  refine gF (v := .ref (lb 0)) hx hb hown hE hK hP 2 rfl rfl layE 6 (by decide) w1494 rfl d_E_addMatch_54 ?_
  refine lv_aload_n hx hb d_E_addMatch_57 rfl (lv_at hl 4 rfl) ?_
  have hP := pmP (show List.Perm (α := Nat × va_E) (LiW dA la (LI.s_el (LI.s_mc (LI.s_sz g (g.sz + 1)) (g.mc + 1)) (va_up g.el g.sz (some wa))) ++ ([(sp, .inr (13, [.int kd, .int (nI pl), .long nu, .ref na, .int (nI nn), .ref (la 0), .ref (lb 0), .ref mk]))] ++ (LiW dA lb gb ++ ([(mk, .inl (dA 1, kN, .inl (va_up fk g.sz z)))] ++ (ws))))) (LiW dA lb gb ++ (LiW dA la (LI.s_el (LI.s_mc (LI.s_sz g (g.sz + 1)) (g.mc + 1)) (va_up g.el g.sz (some wa))) ++ ([(sp, .inr (13, [.int kd, .int (nI pl), .long nu, .ref na, .int (nI nn), .ref (la 0), .ref (lb 0), .ref mk]))] ++ ([(mk, .inl (dA 1, kN, .inl (va_up fk g.sz z)))] ++ (ws))))) from (List.Perm.append_left (LiW dA la (LI.s_el (LI.s_mc (LI.s_sz g (g.sz + 1)) (g.mc + 1)) (va_up g.el g.sz (some wa)))) (List.perm_append_comm_assoc ([(sp, .inr (13, [.int kd, .int (nI pl), .long nu, .ref na, .int (nI nn), .ref (la 0), .ref (lb 0), .ref mk]))]) (LiW dA lb gb) ([(mk, .inl (dA 1, kN, .inl (va_up fk g.sz z)))] ++ (ws)))).trans (List.perm_append_comm_assoc (LiW dA la (LI.s_el (LI.s_mc (LI.s_sz g (g.sz + 1)) (g.mc + 1)) (va_up g.el g.sz (some wa)))) (LiW dA lb gb) ([(sp, .inr (13, [.int kd, .int (nI pl), .long nu, .ref na, .int (nI nn), .ref (la 0), .ref (lb 0), .ref mk]))] ++ ([(mk, .inl (dA 1, kN, .inl (va_up fk g.sz z)))] ++ (ws))))) hP
  have hD := pmD (show List.Perm (α := Nat × va_E) (LiW dA la (LI.s_el (LI.s_mc (LI.s_sz g (g.sz + 1)) (g.mc + 1)) (va_up g.el g.sz (some wa))) ++ ([(sp, .inr (13, [.int kd, .int (nI pl), .long nu, .ref na, .int (nI nn), .ref (la 0), .ref (lb 0), .ref mk]))] ++ (LiW dA lb gb ++ ([(mk, .inl (dA 1, kN, .inl (va_up fk g.sz z)))] ++ (ws))))) (LiW dA lb gb ++ (LiW dA la (LI.s_el (LI.s_mc (LI.s_sz g (g.sz + 1)) (g.mc + 1)) (va_up g.el g.sz (some wa))) ++ ([(sp, .inr (13, [.int kd, .int (nI pl), .long nu, .ref na, .int (nI nn), .ref (la 0), .ref (lb 0), .ref mk]))] ++ ([(mk, .inl (dA 1, kN, .inl (va_up fk g.sz z)))] ++ (ws))))) from (List.Perm.append_left (LiW dA la (LI.s_el (LI.s_mc (LI.s_sz g (g.sz + 1)) (g.mc + 1)) (va_up g.el g.sz (some wa)))) (List.perm_append_comm_assoc ([(sp, .inr (13, [.int kd, .int (nI pl), .long nu, .ref na, .int (nI nn), .ref (la 0), .ref (lb 0), .ref mk]))]) (LiW dA lb gb) ([(mk, .inl (dA 1, kN, .inl (va_up fk g.sz z)))] ++ (ws)))).trans (List.perm_append_comm_assoc (LiW dA la (LI.s_el (LI.s_mc (LI.s_sz g (g.sz + 1)) (g.mc + 1)) (va_up g.el g.sz (some wa)))) (LiW dA lb gb) ([(sp, .inr (13, [.int kd, .int (nI pl), .long nu, .ref na, .int (nI nn), .ref (la 0), .ref (lb 0), .ref mk]))] ++ ([(mk, .inl (dA 1, kN, .inl (va_up fk g.sz z)))] ++ (ws))))) hD
  refine jkI (wr := []) (rnV (As := [.ref wb]) (rest := []) hx hb hml hown hE hK (hN _ _ hS) hP hD (v_Ladd_W l D dA H.size (LiW dA la (LI.s_el (LI.s_mc (LI.s_sz g (g.sz + 1)) (g.mc + 1)) (va_up g.el g.sz (some wa))) ++ ([(sp, .inr (13, [.int kd, .int (nI pl), .long nu, .ref na, .int (nI nn), .ref (la 0), .ref (lb 0), .ref mk]))] ++ ([(mk, .inl (dA 1, kN, .inl (va_up fk g.sz z)))] ++ (ws)))) lb gb wb ([.ref bwb]) (show gb.sz < gb.eN from by omega) (show gb.eN ≤ 65536 from by omega) ((fun _ hm => (List.mem_append_right _ (List.mem_append_right _ (List.mem_append_right _ hm)))) _ kwb)) (q0 := 0) rfl rfl w812 w1536 w813 w814 w680 rfl rfl ⟨⟨by decide, by decide⟩, rfl⟩ ⟨(Nat.le_of_ble_eq_true rfl), (Nat.le_of_ble_eq_true rfl)⟩ rfl hl.1 rfl (Nat.le_of_ble_eq_true rfl) d_E_addMatch_58 ⟨(Nat.le_of_ble_eq_true rfl), (Nat.le_of_ble_eq_true rfl)⟩) hP hD hS hA (fun r6 u7 H locs hp9 hP hD hS => ?_)
  have hP : va_P D vwCl (LiW dA lb (LI.s_el (LI.s_mc (LI.s_sz gb (gb.sz + 1)) (gb.mc + 1)) (va_up gb.el gb.sz (some wb))) ++ (LiW dA la (LI.s_el (LI.s_mc (LI.s_sz g (g.sz + 1)) (g.mc + 1)) (va_up g.el g.sz (some wa))) ++ ([(sp, .inr (13, [.int kd, .int (nI pl), .long nu, .ref na, .int (nI nn), .ref (la 0), .ref (lb 0), .ref mk]))] ++ ([(mk, .inl (dA 1, kN, .inl (va_up fk g.sz z)))] ++ (ws))))) H := hP
  have hD : va_D A (LiW dA lb (LI.s_el (LI.s_mc (LI.s_sz gb (gb.sz + 1)) (gb.mc + 1)) (va_up gb.el gb.sz (some wb))) ++ (LiW dA la (LI.s_el (LI.s_mc (LI.s_sz g (g.sz + 1)) (g.mc + 1)) (va_up g.el g.sz (some wa))) ++ ([(sp, .inr (13, [.int kd, .int (nI pl), .long nu, .ref na, .int (nI nn), .ref (la 0), .ref (lb 0), .ref mk]))] ++ ([(mk, .inl (dA 1, kN, .inl (va_up fk g.sz z)))] ++ (ws))))) := hD
  replace hp9 : 1 = r6 := Eq.symm hp9
  subst hp9
  refine lv_pop hx hb d_E_addMatch_61 rfl ?_
  have hP := pmP (show List.Perm (α := Nat × va_E) (LiW dA lb (LI.s_el (LI.s_mc (LI.s_sz gb (gb.sz + 1)) (gb.mc + 1)) (va_up gb.el gb.sz (some wb))) ++ (LiW dA la (LI.s_el (LI.s_mc (LI.s_sz g (g.sz + 1)) (g.mc + 1)) (va_up g.el g.sz (some wa))) ++ ([(sp, .inr (13, [.int kd, .int (nI pl), .long nu, .ref na, .int (nI nn), .ref (la 0), .ref (lb 0), .ref mk]))] ++ ([(mk, .inl (dA 1, kN, .inl (va_up fk g.sz z)))] ++ (ws))))) ([(sp, .inr (13, [.int kd, .int (nI pl), .long nu, .ref na, .int (nI nn), .ref (la 0), .ref (lb 0), .ref mk]))] ++ (LiW dA lb (LI.s_el (LI.s_mc (LI.s_sz gb (gb.sz + 1)) (gb.mc + 1)) (va_up gb.el gb.sz (some wb))) ++ (LiW dA la (LI.s_el (LI.s_mc (LI.s_sz g (g.sz + 1)) (g.mc + 1)) (va_up g.el g.sz (some wa))) ++ ([(mk, .inl (dA 1, kN, .inl (va_up fk g.sz z)))] ++ (ws))))) from (List.Perm.append_left (LiW dA lb (LI.s_el (LI.s_mc (LI.s_sz gb (gb.sz + 1)) (gb.mc + 1)) (va_up gb.el gb.sz (some wb)))) (List.perm_append_comm_assoc (LiW dA la (LI.s_el (LI.s_mc (LI.s_sz g (g.sz + 1)) (g.mc + 1)) (va_up g.el g.sz (some wa)))) ([(sp, .inr (13, [.int kd, .int (nI pl), .long nu, .ref na, .int (nI nn), .ref (la 0), .ref (lb 0), .ref mk]))]) ([(mk, .inl (dA 1, kN, .inl (va_up fk g.sz z)))] ++ (ws)))).trans (List.perm_append_comm_assoc (LiW dA lb (LI.s_el (LI.s_mc (LI.s_sz gb (gb.sz + 1)) (gb.mc + 1)) (va_up gb.el gb.sz (some wb)))) ([(sp, .inr (13, [.int kd, .int (nI pl), .long nu, .ref na, .int (nI nn), .ref (la 0), .ref (lb 0), .ref mk]))]) (LiW dA la (LI.s_el (LI.s_mc (LI.s_sz g (g.sz + 1)) (g.mc + 1)) (va_up g.el g.sz (some wa))) ++ ([(mk, .inl (dA 1, kN, .inl (va_up fk g.sz z)))] ++ (ws))))) hP
  have hD := pmD (show List.Perm (α := Nat × va_E) (LiW dA lb (LI.s_el (LI.s_mc (LI.s_sz gb (gb.sz + 1)) (gb.mc + 1)) (va_up gb.el gb.sz (some wb))) ++ (LiW dA la (LI.s_el (LI.s_mc (LI.s_sz g (g.sz + 1)) (g.mc + 1)) (va_up g.el g.sz (some wa))) ++ ([(sp, .inr (13, [.int kd, .int (nI pl), .long nu, .ref na, .int (nI nn), .ref (la 0), .ref (lb 0), .ref mk]))] ++ ([(mk, .inl (dA 1, kN, .inl (va_up fk g.sz z)))] ++ (ws))))) ([(sp, .inr (13, [.int kd, .int (nI pl), .long nu, .ref na, .int (nI nn), .ref (la 0), .ref (lb 0), .ref mk]))] ++ (LiW dA lb (LI.s_el (LI.s_mc (LI.s_sz gb (gb.sz + 1)) (gb.mc + 1)) (va_up gb.el gb.sz (some wb))) ++ (LiW dA la (LI.s_el (LI.s_mc (LI.s_sz g (g.sz + 1)) (g.mc + 1)) (va_up g.el g.sz (some wa))) ++ ([(mk, .inl (dA 1, kN, .inl (va_up fk g.sz z)))] ++ (ws))))) from (List.Perm.append_left (LiW dA lb (LI.s_el (LI.s_mc (LI.s_sz gb (gb.sz + 1)) (gb.mc + 1)) (va_up gb.el gb.sz (some wb)))) (List.perm_append_comm_assoc (LiW dA la (LI.s_el (LI.s_mc (LI.s_sz g (g.sz + 1)) (g.mc + 1)) (va_up g.el g.sz (some wa)))) ([(sp, .inr (13, [.int kd, .int (nI pl), .long nu, .ref na, .int (nI nn), .ref (la 0), .ref (lb 0), .ref mk]))]) ([(mk, .inl (dA 1, kN, .inl (va_up fk g.sz z)))] ++ (ws)))).trans (List.perm_append_comm_assoc (LiW dA lb (LI.s_el (LI.s_mc (LI.s_sz gb (gb.sz + 1)) (gb.mc + 1)) (va_up gb.el gb.sz (some wb)))) ([(sp, .inr (13, [.int kd, .int (nI pl), .long nu, .ref na, .int (nI nn), .ref (la 0), .ref (lb 0), .ref mk]))]) (LiW dA la (LI.s_el (LI.s_mc (LI.s_sz g (g.sz + 1)) (g.mc + 1)) (va_up g.el g.sz (some wa))) ++ ([(mk, .inl (dA 1, kN, .inl (va_up fk g.sz z)))] ++ (ws))))) hD
  have hP := pmP (show List.Perm (α := Nat × va_E) ([(sp, .inr (13, [.int kd, .int (nI pl), .long nu, .ref na, .int (nI nn), .ref (la 0), .ref (lb 0), .ref mk]))] ++ (LiW dA lb (LI.s_el (LI.s_mc (LI.s_sz gb (gb.sz + 1)) (gb.mc + 1)) (va_up gb.el gb.sz (some wb))) ++ (LiW dA la (LI.s_el (LI.s_mc (LI.s_sz g (g.sz + 1)) (g.mc + 1)) (va_up g.el g.sz (some wa))) ++ ([(mk, .inl (dA 1, kN, .inl (va_up fk g.sz z)))] ++ (ws))))) ([(sp, .inr (13, [.int kd, .int (nI pl), .long nu, .ref na, .int (nI nn), .ref (la 0), .ref (lb 0), .ref mk]))] ++ (LiW dA la (LI.s_el (LI.s_mc (LI.s_sz g (g.sz + 1)) (g.mc + 1)) (va_up g.el g.sz (some wa))) ++ (LiW dA lb (LI.s_el (LI.s_mc (LI.s_sz gb (gb.sz + 1)) (gb.mc + 1)) (va_up gb.el gb.sz (some wb))) ++ ([(mk, .inl (dA 1, kN, .inl (va_up fk g.sz z)))] ++ (ws))))) from List.Perm.append_left ([(sp, .inr (13, [.int kd, .int (nI pl), .long nu, .ref na, .int (nI nn), .ref (la 0), .ref (lb 0), .ref mk]))]) (List.perm_append_comm_assoc (LiW dA lb (LI.s_el (LI.s_mc (LI.s_sz gb (gb.sz + 1)) (gb.mc + 1)) (va_up gb.el gb.sz (some wb)))) (LiW dA la (LI.s_el (LI.s_mc (LI.s_sz g (g.sz + 1)) (g.mc + 1)) (va_up g.el g.sz (some wa)))) ([(mk, .inl (dA 1, kN, .inl (va_up fk g.sz z)))] ++ (ws)))) hP
  have hD := pmD (show List.Perm (α := Nat × va_E) ([(sp, .inr (13, [.int kd, .int (nI pl), .long nu, .ref na, .int (nI nn), .ref (la 0), .ref (lb 0), .ref mk]))] ++ (LiW dA lb (LI.s_el (LI.s_mc (LI.s_sz gb (gb.sz + 1)) (gb.mc + 1)) (va_up gb.el gb.sz (some wb))) ++ (LiW dA la (LI.s_el (LI.s_mc (LI.s_sz g (g.sz + 1)) (g.mc + 1)) (va_up g.el g.sz (some wa))) ++ ([(mk, .inl (dA 1, kN, .inl (va_up fk g.sz z)))] ++ (ws))))) ([(sp, .inr (13, [.int kd, .int (nI pl), .long nu, .ref na, .int (nI nn), .ref (la 0), .ref (lb 0), .ref mk]))] ++ (LiW dA la (LI.s_el (LI.s_mc (LI.s_sz g (g.sz + 1)) (g.mc + 1)) (va_up g.el g.sz (some wa))) ++ (LiW dA lb (LI.s_el (LI.s_mc (LI.s_sz gb (gb.sz + 1)) (gb.mc + 1)) (va_up gb.el gb.sz (some wb))) ++ ([(mk, .inl (dA 1, kN, .inl (va_up fk g.sz z)))] ++ (ws))))) from List.Perm.append_left ([(sp, .inr (13, [.int kd, .int (nI pl), .long nu, .ref na, .int (nI nn), .ref (la 0), .ref (lb 0), .ref mk]))]) (List.perm_append_comm_assoc (LiW dA lb (LI.s_el (LI.s_mc (LI.s_sz gb (gb.sz + 1)) (gb.mc + 1)) (va_up gb.el gb.sz (some wb)))) (LiW dA la (LI.s_el (LI.s_mc (LI.s_sz g (g.sz + 1)) (g.mc + 1)) (va_up g.el g.sz (some wa)))) ([(mk, .inl (dA 1, kN, .inl (va_up fk g.sz z)))] ++ (ws)))) hD
  exact rfV hx hb hr hlk hS () trivial hP hD (Nat.le_of_ble_eq_true rfl) (Nat.le_of_ble_eq_true rfl) d_E_addMatch_62
set_option maxHeartbeats 4000000 in
set_option maxRecDepth 100000 in
theorem v_EaddMatch_g (l : Launch) (D : va_G) (dA : Nat → ClassId) (sz : Nat) (e0 mi : Nat) (ws : va_W) (sp : Nat) (kd : Int32) (pl : Nat) (nu : Int64) (na : Nat) (nn : Nat) (mk : Nat) (kN : Nat) (fk : Nat → Int32) (z : Int32) (wa : Nat) (wb : Nat) (L : List Int32) (M : List Int32) (la : Nat → Nat) (g : LI) (lb : Nat → Nat) (gb : LI) (hwa : isWo dA ws wa L) (hwb : isWo dA ws wb M) (hkN : kN ≤ 131072) (hel : ∀ i : Nat, i < g.eN → ∀ y : Nat, g.el i = some y → ∃ vs : List Value, (y, .inr (10, vs)) ∈ ws) (hem : ∀ i : Nat, i < gb.eN → ∀ y : Nat, gb.el i = some y → ∃ vs : List Value, (y, .inr (10, vs)) ∈ ws) (h1 : 0 < g.eN) (h2 : g.eN ≤ 65536) (h3 : g.sz = g.eN) (h4 : 0 < gb.eN) (h5 : gb.eN ≤ 65536) (h6 : gb.sz = gb.eN) (h7 : g.sz < kN) : Met l ⟨"SeriesVault$Step", "addMatch", "(ILSeriesVault$Word;LSeriesVault$Word;)V"⟩ [Cond.code ⟨"SeriesVault$Step", "addMatch", "(ILSeriesVault$Word;LSeriesVault$Word;)V"⟩ prog_10_method_4_code 5 none] { frames := 7, cells := 2, slots := g.eN + max 1 (g.eN / 2) + (gb.eN + max 1 (gb.eN / 2)), locals := 171 } (pCy D dA e0 mi [.ref sp, .int z, .ref wa, .ref wb] ([(sp, .inr (13, [.int kd, .int (nI pl), .long nu, .ref na, .int (nI nn), .ref (la 0), .ref (lb 0), .ref mk]))] ++ (LiW dA la g ++ (LiW dA lb gb ++ ([(mk, .inl (dA 1, kN, .inl fk))] ++ (ws))))) sz) (va_Qv (fun (u9 : Nat × Nat) => True) (fun (u9 : Nat × Nat) t9 => bW D (va_A ([(sp, .inr (13, [.int kd, .int (nI pl), .long nu, .ref na, .int (nI nn), .ref (la 0), .ref (lb 0), .ref mk]))] ++ (LiW dA la g ++ (LiW dA lb gb ++ ([(mk, .inl (dA 1, kN, .inl fk))] ++ (ws))))) sz) ([(sp, .inr (13, [.int kd, .int (nI pl), .long nu, .ref na, .int (nI nn), .ref (la 0), .ref (lb 0), .ref mk]))] ++ (LiW dA la (LI.s_el (LI.s_eN (LI.s_eA (LI.s_mc (LI.s_sz g (g.sz + 1)) (g.mc + 1)) u9.1) (g.eN + max 1 (g.eN / 2))) (va_up (cpF g.el g.eN) g.sz (some wa))) ++ (LiW dA lb (LI.s_el (LI.s_eN (LI.s_eA (LI.s_mc (LI.s_sz gb (gb.sz + 1)) (gb.mc + 1)) u9.2) (gb.eN + max 1 (gb.eN / 2))) (va_up (cpF gb.el gb.eN) gb.sz (some wb))) ++ ([(mk, .inl (dA 1, kN, .inl (va_up fk g.sz z)))] ++ (ws))))) t9) (va_A ([(sp, .inr (13, [.int kd, .int (nI pl), .long nu, .ref na, .int (nI nn), .ref (la 0), .ref (lb 0), .ref mk]))] ++ (LiW dA la g ++ (LiW dA lb gb ++ ([(mk, .inl (dA 1, kN, .inl fk))] ++ (ws))))) sz)) 2 (g.eN + max 1 (g.eN / 2) + (gb.eN + max 1 (gb.eN / 2))) (va_A ([(sp, .inr (13, [.int kd, .int (nI pl), .long nu, .ref na, .int (nI nn), .ref (la 0), .ref (lb 0), .ref mk]))] ++ (LiW dA la g ++ (LiW dA lb gb ++ ([(mk, .inl (dA 1, kN, .inl fk))] ++ (ws))))) sz) := by
  refine mkY (y := ⟨"SeriesVault$Step", "addMatch", "(ILSeriesVault$Word;LSeriesVault$Word;)V"⟩) (cc := prog_10_method_4_code) (maxL := 5) (av := [.ref sp, .int z, .ref wa, .ref wb]) (ws := [(sp, .inr (13, [.int kd, .int (nI pl), .long nu, .ref na, .int (nI nn), .ref (la 0), .ref (lb 0), .ref mk]))] ++ (LiW dA la g ++ (LiW dA lb gb ++ ([(mk, .inl (dA 1, kN, .inl fk))] ++ (ws))))) (sz := sz) (Qc := fun A => va_Qv (fun (u9 : Nat × Nat) => True) (fun (u9 : Nat × Nat) t9 => bW D A ([(sp, .inr (13, [.int kd, .int (nI pl), .long nu, .ref na, .int (nI nn), .ref (la 0), .ref (lb 0), .ref mk]))] ++ (LiW dA la (LI.s_el (LI.s_eN (LI.s_eA (LI.s_mc (LI.s_sz g (g.sz + 1)) (g.mc + 1)) u9.1) (g.eN + max 1 (g.eN / 2))) (va_up (cpF g.el g.eN) g.sz (some wa))) ++ (LiW dA lb (LI.s_el (LI.s_eN (LI.s_eA (LI.s_mc (LI.s_sz gb (gb.sz + 1)) (gb.mc + 1)) u9.2) (gb.eN + max 1 (gb.eN / 2))) (va_up (cpF gb.el gb.eN) gb.sz (some wb))) ++ ([(mk, .inl (dA 1, kN, .inl (va_up fk g.sz z)))] ++ (ws))))) t9) A) (by decide) (Nat.le_of_ble_eq_true rfl) ?_
  intro A p e s m below meth c ls hsz hZ hT hM hB
  obtain ⟨hx, hb, hr, hml, hown, hin, hlk, hE, hK, hP, hD, hS, hA, hN, hl⟩ := hB
  have hown : s.vm.findClass "SeriesVault$Step" = some m.cls := hown
  have hl : lv_has ls 5 [(0, .ref sp), (1, .int z), (2, .ref wa), (3, .ref wb)] := hl
  obtain ⟨H, hH⟩ : ∃ z, z = s.heap := ⟨_, rfl⟩
  have hP : va_P D vwCl ([(sp, .inr (13, [.int kd, .int (nI pl), .long nu, .ref na, .int (nI nn), .ref (la 0), .ref (lb 0), .ref mk]))] ++ (LiW dA la g ++ (LiW dA lb gb ++ ([(mk, .inl (dA 1, kN, .inl fk))] ++ (ws))))) H := by rw [hH]; exact hP
  have hS : va_S A s.heap H [] := by rw [hH]; exact hS
  rw [← hH]
  have wac := hwa
  obtain ⟨bwa, fwa, kwa, -⟩ := wac
  have wbc := hwb
  obtain ⟨bwb, fwb, kwb, -⟩ := wbc
  refine lv_aload_n hx hb d_E_addMatch_0 rfl (lv_at hl 0 rfl) ?_
  refine gF (v := .ref (la 0)) hx hb hown hE hK hP 0 rfl rfl layE 5 (by decide) w1482 rfl d_E_addMatch_1 ?_
  have hP := pmP (show List.Perm (α := Nat × va_E) ([(sp, .inr (13, [.int kd, .int (nI pl), .long nu, .ref na, .int (nI nn), .ref (la 0), .ref (lb 0), .ref mk]))] ++ (LiW dA la g ++ (LiW dA lb gb ++ ([(mk, .inl (dA 1, kN, .inl fk))] ++ (ws))))) (LiW dA la g ++ ([(sp, .inr (13, [.int kd, .int (nI pl), .long nu, .ref na, .int (nI nn), .ref (la 0), .ref (lb 0), .ref mk]))] ++ (LiW dA lb gb ++ ([(mk, .inl (dA 1, kN, .inl fk))] ++ (ws))))) from List.perm_append_comm_assoc ([(sp, .inr (13, [.int kd, .int (nI pl), .long nu, .ref na, .int (nI nn), .ref (la 0), .ref (lb 0), .ref mk]))]) (LiW dA la g) (LiW dA lb gb ++ ([(mk, .inl (dA 1, kN, .inl fk))] ++ (ws)))) hP
  have hD := pmD (show List.Perm (α := Nat × va_E) ([(sp, .inr (13, [.int kd, .int (nI pl), .long nu, .ref na, .int (nI nn), .ref (la 0), .ref (lb 0), .ref mk]))] ++ (LiW dA la g ++ (LiW dA lb gb ++ ([(mk, .inl (dA 1, kN, .inl fk))] ++ (ws))))) (LiW dA la g ++ ([(sp, .inr (13, [.int kd, .int (nI pl), .long nu, .ref na, .int (nI nn), .ref (la 0), .ref (lb 0), .ref mk]))] ++ (LiW dA lb gb ++ ([(mk, .inl (dA 1, kN, .inl fk))] ++ (ws))))) from List.perm_append_comm_assoc ([(sp, .inr (13, [.int kd, .int (nI pl), .long nu, .ref na, .int (nI nn), .ref (la 0), .ref (lb 0), .ref mk]))]) (LiW dA la g) (LiW dA lb gb ++ ([(mk, .inl (dA 1, kN, .inl fk))] ++ (ws)))) hD
  refine jkI (wr := []) (rnV (As := []) (rest := []) hx hb hml hown hE hK (hN _ _ hS) hP hD (v_Lsize l D dA H.size ([(sp, .inr (13, [.int kd, .int (nI pl), .long nu, .ref na, .int (nI nn), .ref (la 0), .ref (lb 0), .ref mk]))] ++ (LiW dA lb gb ++ ([(mk, .inl (dA 1, kN, .inl fk))] ++ (ws)))) la g) (q0 := 0) rfl rfl w1484 w1483 w1485 w1486 w680 rfl rfl ⟨⟨by decide, by decide⟩, rfl⟩ ⟨(Nat.le_of_ble_eq_true rfl), (Nat.le_of_ble_eq_true rfl)⟩ rfl hl.1 rfl (Nat.le_of_ble_eq_true rfl) d_E_addMatch_4 ⟨(show 0 + 0 ≤ 2 by omega), (show 0 + 0 ≤ g.eN + max 1 (g.eN / 2) + (gb.eN + max 1 (gb.eN / 2)) by omega)⟩) hP hD hS hA (fun r1 u2 H locs hp9 hP hD hS => ?_)
  have hP : va_P D vwCl (LiW dA la g ++ ([(sp, .inr (13, [.int kd, .int (nI pl), .long nu, .ref na, .int (nI nn), .ref (la 0), .ref (lb 0), .ref mk]))] ++ (LiW dA lb gb ++ ([(mk, .inl (dA 1, kN, .inl fk))] ++ (ws))))) H := hP
  have hD : va_D A (LiW dA la g ++ ([(sp, .inr (13, [.int kd, .int (nI pl), .long nu, .ref na, .int (nI nn), .ref (la 0), .ref (lb 0), .ref mk]))] ++ (LiW dA lb gb ++ ([(mk, .inl (dA 1, kN, .inl fk))] ++ (ws))))) := hD
  replace hp9 : nI g.sz = r1 := Eq.symm hp9
  subst hp9
  refine lv_istore hx hb d_E_addMatch_7 hl (by decide) rfl (fun ls hl => ?_)
  have hl : lv_has ls 5 [(4, .int (nI g.sz)), (0, .ref sp), (1, .int z), (2, .ref wa), (3, .ref wb)] := hl
  refine lv_iload hx hb d_E_addMatch_9 (lv_at hl 0 rfl) ?_
  refine lv_aload_n hx hb d_E_addMatch_11 rfl (lv_at hl 1 rfl) ?_
  refine gF (v := .ref mk) hx hb hown hE hK hP 2 rfl rfl layE 7 (by decide) w1487 rfl d_E_addMatch_12 ?_
  refine va_alen (v := nI kN) hx hb hK hP (5) 1 rfl rfl rfl d_E_addMatch_15 ?_
  refine lv_icmp_ne hx hb d_E_addMatch_16 (tgt := 36) rfl (fun g3 => ?_) (fun g3 => ?_)
  rotate_left
  · have g3 := (nI_eq (a := g.sz) (b := kN) (by omega) (by omega)).mp g3; exfalso; omega
  have g3 := mt (nI_eq (a := g.sz) (b := kN) (by omega) (by omega)).mpr g3
  refine lv_aload_n hx hb d_E_addMatch_36 rfl (lv_at hl 1 rfl) ?_
  refine gF (v := .ref mk) hx hb hown hE hK hP 2 rfl rfl layE 7 (by decide) w1487 rfl d_E_addMatch_37 ?_
  refine lv_iload hx hb d_E_addMatch_40 (lv_at hl 0 rfl) ?_
  refine lv_iload_n hx hb d_E_addMatch_42 rfl (lv_at hl 2 rfl) ?_
  refine nist (n := kN) hx hb hK hP hD hS (5) 1 rfl rfl (g.sz) (by omega) (by omega) d_E_addMatch_43 (fun H locs hP hD hS => ?_)
  have hP : va_P D vwCl (LiW dA la g ++ ([(sp, .inr (13, [.int kd, .int (nI pl), .long nu, .ref na, .int (nI nn), .ref (la 0), .ref (lb 0), .ref mk]))] ++ (LiW dA lb gb ++ ([(mk, .inl (dA 1, kN, .inl (va_up fk g.sz z)))] ++ (ws))))) H := hP
  have hD : va_D A (LiW dA la g ++ ([(sp, .inr (13, [.int kd, .int (nI pl), .long nu, .ref na, .int (nI nn), .ref (la 0), .ref (lb 0), .ref mk]))] ++ (LiW dA lb gb ++ ([(mk, .inl (dA 1, kN, .inl (va_up fk g.sz z)))] ++ (ws))))) := hD
  refine lv_aload_n hx hb d_E_addMatch_44 rfl (lv_at hl 1 rfl) ?_
  refine gF (v := .ref (la 0)) hx hb hown hE hK hP 2 rfl rfl layE 5 (by decide) w1482 rfl d_E_addMatch_45 ?_
  refine lv_aload_n hx hb d_E_addMatch_48 rfl (lv_at hl 3 rfl) ?_
  refine jkI (wr := []) (rnVy (As := [.ref wa]) (rest := []) hx hb hml hown hE hK hZ hT hM hS (hN _ _ hS) hP hD (v_Ladd_gW l D dA H.size e0 mi ([(sp, .inr (13, [.int kd, .int (nI pl), .long nu, .ref na, .int (nI nn), .ref (la 0), .ref (lb 0), .ref mk]))] ++ (LiW dA lb gb ++ ([(mk, .inl (dA 1, kN, .inl (va_up fk g.sz z)))] ++ (ws)))) la g wa ([.ref bwa]) (fun i hi y hy => by obtain ⟨vs, hv⟩ := hel i hi y hy; exact ⟨vs, (fun _ hm => (List.mem_append_right _ (List.mem_append_right _ (List.mem_append_right _ hm)))) _ hv⟩) (show 0 < g.eN from by omega) (show g.eN ≤ 65536 from by omega) (show g.sz = g.eN from by omega) ((fun _ hm => (List.mem_append_right _ (List.mem_append_right _ (List.mem_append_right _ hm)))) _ kwa)) (q0 := 0) rfl rfl w812 w1536 w813 w814 w680 rfl rfl ⟨⟨by decide, by decide⟩, rfl⟩ ⟨(Nat.le_of_ble_eq_true rfl), (Nat.le_of_ble_eq_true rfl)⟩ rfl hl.1 rfl (Nat.le_of_ble_eq_true rfl) d_E_addMatch_49 ⟨(show 0 + 0 + 1 ≤ 2 by omega), (show 0 + 0 + (g.eN + max 1 (g.eN / 2)) ≤ g.eN + max 1 (g.eN / 2) + (gb.eN + max 1 (gb.eN / 2)) by omega)⟩) hP hD hS hA (fun r4 u5 H locs hp9 hP hD hS => ?_)
  obtain ⟨qa, h9u⟩ : ∃ z9, z9 = u5 := ⟨_, rfl⟩
  subst h9u
  have hP : va_P D vwCl (LiW dA la (LI.s_el (LI.s_eN (LI.s_eA (LI.s_mc (LI.s_sz g (g.sz + 1)) (g.mc + 1)) qa) (g.eN + max 1 (g.eN / 2))) (va_up (cpF g.el g.eN) g.sz (some wa))) ++ ([(sp, .inr (13, [.int kd, .int (nI pl), .long nu, .ref na, .int (nI nn), .ref (la 0), .ref (lb 0), .ref mk]))] ++ (LiW dA lb gb ++ ([(mk, .inl (dA 1, kN, .inl (va_up fk g.sz z)))] ++ (ws))))) H := hP
  have hD : va_D A (LiW dA la (LI.s_el (LI.s_eN (LI.s_eA (LI.s_mc (LI.s_sz g (g.sz + 1)) (g.mc + 1)) qa) (g.eN + max 1 (g.eN / 2))) (va_up (cpF g.el g.eN) g.sz (some wa))) ++ ([(sp, .inr (13, [.int kd, .int (nI pl), .long nu, .ref na, .int (nI nn), .ref (la 0), .ref (lb 0), .ref mk]))] ++ (LiW dA lb gb ++ ([(mk, .inl (dA 1, kN, .inl (va_up fk g.sz z)))] ++ (ws))))) := hD
  replace hp9 : 1 = r4 := Eq.symm hp9
  subst hp9
  refine lv_pop hx hb d_E_addMatch_52 rfl ?_
  refine lv_aload_n hx hb d_E_addMatch_53 rfl (lv_at hl 1 rfl) ?_
  refine gF (v := .ref (lb 0)) hx hb hown hE hK hP 2 rfl rfl layE 6 (by decide) w1494 rfl d_E_addMatch_54 ?_
  refine lv_aload_n hx hb d_E_addMatch_57 rfl (lv_at hl 4 rfl) ?_
  have hP := pmP (show List.Perm (α := Nat × va_E) (LiW dA la (LI.s_el (LI.s_eN (LI.s_eA (LI.s_mc (LI.s_sz g (g.sz + 1)) (g.mc + 1)) qa) (g.eN + max 1 (g.eN / 2))) (va_up (cpF g.el g.eN) g.sz (some wa))) ++ ([(sp, .inr (13, [.int kd, .int (nI pl), .long nu, .ref na, .int (nI nn), .ref (la 0), .ref (lb 0), .ref mk]))] ++ (LiW dA lb gb ++ ([(mk, .inl (dA 1, kN, .inl (va_up fk g.sz z)))] ++ (ws))))) (LiW dA lb gb ++ (LiW dA la (LI.s_el (LI.s_eN (LI.s_eA (LI.s_mc (LI.s_sz g (g.sz + 1)) (g.mc + 1)) qa) (g.eN + max 1 (g.eN / 2))) (va_up (cpF g.el g.eN) g.sz (some wa))) ++ ([(sp, .inr (13, [.int kd, .int (nI pl), .long nu, .ref na, .int (nI nn), .ref (la 0), .ref (lb 0), .ref mk]))] ++ ([(mk, .inl (dA 1, kN, .inl (va_up fk g.sz z)))] ++ (ws))))) from (List.Perm.append_left (LiW dA la (LI.s_el (LI.s_eN (LI.s_eA (LI.s_mc (LI.s_sz g (g.sz + 1)) (g.mc + 1)) qa) (g.eN + max 1 (g.eN / 2))) (va_up (cpF g.el g.eN) g.sz (some wa)))) (List.perm_append_comm_assoc ([(sp, .inr (13, [.int kd, .int (nI pl), .long nu, .ref na, .int (nI nn), .ref (la 0), .ref (lb 0), .ref mk]))]) (LiW dA lb gb) ([(mk, .inl (dA 1, kN, .inl (va_up fk g.sz z)))] ++ (ws)))).trans (List.perm_append_comm_assoc (LiW dA la (LI.s_el (LI.s_eN (LI.s_eA (LI.s_mc (LI.s_sz g (g.sz + 1)) (g.mc + 1)) qa) (g.eN + max 1 (g.eN / 2))) (va_up (cpF g.el g.eN) g.sz (some wa)))) (LiW dA lb gb) ([(sp, .inr (13, [.int kd, .int (nI pl), .long nu, .ref na, .int (nI nn), .ref (la 0), .ref (lb 0), .ref mk]))] ++ ([(mk, .inl (dA 1, kN, .inl (va_up fk g.sz z)))] ++ (ws))))) hP
  have hD := pmD (show List.Perm (α := Nat × va_E) (LiW dA la (LI.s_el (LI.s_eN (LI.s_eA (LI.s_mc (LI.s_sz g (g.sz + 1)) (g.mc + 1)) qa) (g.eN + max 1 (g.eN / 2))) (va_up (cpF g.el g.eN) g.sz (some wa))) ++ ([(sp, .inr (13, [.int kd, .int (nI pl), .long nu, .ref na, .int (nI nn), .ref (la 0), .ref (lb 0), .ref mk]))] ++ (LiW dA lb gb ++ ([(mk, .inl (dA 1, kN, .inl (va_up fk g.sz z)))] ++ (ws))))) (LiW dA lb gb ++ (LiW dA la (LI.s_el (LI.s_eN (LI.s_eA (LI.s_mc (LI.s_sz g (g.sz + 1)) (g.mc + 1)) qa) (g.eN + max 1 (g.eN / 2))) (va_up (cpF g.el g.eN) g.sz (some wa))) ++ ([(sp, .inr (13, [.int kd, .int (nI pl), .long nu, .ref na, .int (nI nn), .ref (la 0), .ref (lb 0), .ref mk]))] ++ ([(mk, .inl (dA 1, kN, .inl (va_up fk g.sz z)))] ++ (ws))))) from (List.Perm.append_left (LiW dA la (LI.s_el (LI.s_eN (LI.s_eA (LI.s_mc (LI.s_sz g (g.sz + 1)) (g.mc + 1)) qa) (g.eN + max 1 (g.eN / 2))) (va_up (cpF g.el g.eN) g.sz (some wa)))) (List.perm_append_comm_assoc ([(sp, .inr (13, [.int kd, .int (nI pl), .long nu, .ref na, .int (nI nn), .ref (la 0), .ref (lb 0), .ref mk]))]) (LiW dA lb gb) ([(mk, .inl (dA 1, kN, .inl (va_up fk g.sz z)))] ++ (ws)))).trans (List.perm_append_comm_assoc (LiW dA la (LI.s_el (LI.s_eN (LI.s_eA (LI.s_mc (LI.s_sz g (g.sz + 1)) (g.mc + 1)) qa) (g.eN + max 1 (g.eN / 2))) (va_up (cpF g.el g.eN) g.sz (some wa)))) (LiW dA lb gb) ([(sp, .inr (13, [.int kd, .int (nI pl), .long nu, .ref na, .int (nI nn), .ref (la 0), .ref (lb 0), .ref mk]))] ++ ([(mk, .inl (dA 1, kN, .inl (va_up fk g.sz z)))] ++ (ws))))) hD
  refine jkI (wr := []) (rnVy (As := [.ref wb]) (rest := []) hx hb hml hown hE hK hZ hT hM hS (hN _ _ hS) hP hD (v_Ladd_gW l D dA H.size e0 mi (LiW dA la (LI.s_el (LI.s_eN (LI.s_eA (LI.s_mc (LI.s_sz g (g.sz + 1)) (g.mc + 1)) qa) (g.eN + max 1 (g.eN / 2))) (va_up (cpF g.el g.eN) g.sz (some wa))) ++ ([(sp, .inr (13, [.int kd, .int (nI pl), .long nu, .ref na, .int (nI nn), .ref (la 0), .ref (lb 0), .ref mk]))] ++ ([(mk, .inl (dA 1, kN, .inl (va_up fk g.sz z)))] ++ (ws)))) lb gb wb ([.ref bwb]) (fun i hi y hy => by obtain ⟨vs, hv⟩ := hem i hi y hy; exact ⟨vs, (fun _ hm => (List.mem_append_right _ (List.mem_append_right _ (List.mem_append_right _ hm)))) _ hv⟩) (show 0 < gb.eN from by omega) (show gb.eN ≤ 65536 from by omega) (show gb.sz = gb.eN from by omega) ((fun _ hm => (List.mem_append_right _ (List.mem_append_right _ (List.mem_append_right _ hm)))) _ kwb)) (q0 := 0) rfl rfl w812 w1536 w813 w814 w680 rfl rfl ⟨⟨by decide, by decide⟩, rfl⟩ ⟨(Nat.le_of_ble_eq_true rfl), (Nat.le_of_ble_eq_true rfl)⟩ rfl hl.1 rfl (Nat.le_of_ble_eq_true rfl) d_E_addMatch_58 ⟨(show 0 + 0 + 1 + 1 ≤ 2 by omega), (show 0 + 0 + (g.eN + max 1 (g.eN / 2)) + (gb.eN + max 1 (gb.eN / 2)) ≤ g.eN + max 1 (g.eN / 2) + (gb.eN + max 1 (gb.eN / 2)) by omega)⟩) hP hD hS hA (fun r6 u7 H locs hp9 hP hD hS => ?_)
  obtain ⟨qb, h9u⟩ : ∃ z9, z9 = u7 := ⟨_, rfl⟩
  subst h9u
  have hP : va_P D vwCl (LiW dA lb (LI.s_el (LI.s_eN (LI.s_eA (LI.s_mc (LI.s_sz gb (gb.sz + 1)) (gb.mc + 1)) qb) (gb.eN + max 1 (gb.eN / 2))) (va_up (cpF gb.el gb.eN) gb.sz (some wb))) ++ (LiW dA la (LI.s_el (LI.s_eN (LI.s_eA (LI.s_mc (LI.s_sz g (g.sz + 1)) (g.mc + 1)) qa) (g.eN + max 1 (g.eN / 2))) (va_up (cpF g.el g.eN) g.sz (some wa))) ++ ([(sp, .inr (13, [.int kd, .int (nI pl), .long nu, .ref na, .int (nI nn), .ref (la 0), .ref (lb 0), .ref mk]))] ++ ([(mk, .inl (dA 1, kN, .inl (va_up fk g.sz z)))] ++ (ws))))) H := hP
  have hD : va_D A (LiW dA lb (LI.s_el (LI.s_eN (LI.s_eA (LI.s_mc (LI.s_sz gb (gb.sz + 1)) (gb.mc + 1)) qb) (gb.eN + max 1 (gb.eN / 2))) (va_up (cpF gb.el gb.eN) gb.sz (some wb))) ++ (LiW dA la (LI.s_el (LI.s_eN (LI.s_eA (LI.s_mc (LI.s_sz g (g.sz + 1)) (g.mc + 1)) qa) (g.eN + max 1 (g.eN / 2))) (va_up (cpF g.el g.eN) g.sz (some wa))) ++ ([(sp, .inr (13, [.int kd, .int (nI pl), .long nu, .ref na, .int (nI nn), .ref (la 0), .ref (lb 0), .ref mk]))] ++ ([(mk, .inl (dA 1, kN, .inl (va_up fk g.sz z)))] ++ (ws))))) := hD
  replace hp9 : 1 = r6 := Eq.symm hp9
  subst hp9
  refine lv_pop hx hb d_E_addMatch_61 rfl ?_
  have hP := pmP (show List.Perm (α := Nat × va_E) (LiW dA lb (LI.s_el (LI.s_eN (LI.s_eA (LI.s_mc (LI.s_sz gb (gb.sz + 1)) (gb.mc + 1)) qb) (gb.eN + max 1 (gb.eN / 2))) (va_up (cpF gb.el gb.eN) gb.sz (some wb))) ++ (LiW dA la (LI.s_el (LI.s_eN (LI.s_eA (LI.s_mc (LI.s_sz g (g.sz + 1)) (g.mc + 1)) qa) (g.eN + max 1 (g.eN / 2))) (va_up (cpF g.el g.eN) g.sz (some wa))) ++ ([(sp, .inr (13, [.int kd, .int (nI pl), .long nu, .ref na, .int (nI nn), .ref (la 0), .ref (lb 0), .ref mk]))] ++ ([(mk, .inl (dA 1, kN, .inl (va_up fk g.sz z)))] ++ (ws))))) ([(sp, .inr (13, [.int kd, .int (nI pl), .long nu, .ref na, .int (nI nn), .ref (la 0), .ref (lb 0), .ref mk]))] ++ (LiW dA lb (LI.s_el (LI.s_eN (LI.s_eA (LI.s_mc (LI.s_sz gb (gb.sz + 1)) (gb.mc + 1)) qb) (gb.eN + max 1 (gb.eN / 2))) (va_up (cpF gb.el gb.eN) gb.sz (some wb))) ++ (LiW dA la (LI.s_el (LI.s_eN (LI.s_eA (LI.s_mc (LI.s_sz g (g.sz + 1)) (g.mc + 1)) qa) (g.eN + max 1 (g.eN / 2))) (va_up (cpF g.el g.eN) g.sz (some wa))) ++ ([(mk, .inl (dA 1, kN, .inl (va_up fk g.sz z)))] ++ (ws))))) from (List.Perm.append_left (LiW dA lb (LI.s_el (LI.s_eN (LI.s_eA (LI.s_mc (LI.s_sz gb (gb.sz + 1)) (gb.mc + 1)) qb) (gb.eN + max 1 (gb.eN / 2))) (va_up (cpF gb.el gb.eN) gb.sz (some wb)))) (List.perm_append_comm_assoc (LiW dA la (LI.s_el (LI.s_eN (LI.s_eA (LI.s_mc (LI.s_sz g (g.sz + 1)) (g.mc + 1)) qa) (g.eN + max 1 (g.eN / 2))) (va_up (cpF g.el g.eN) g.sz (some wa)))) ([(sp, .inr (13, [.int kd, .int (nI pl), .long nu, .ref na, .int (nI nn), .ref (la 0), .ref (lb 0), .ref mk]))]) ([(mk, .inl (dA 1, kN, .inl (va_up fk g.sz z)))] ++ (ws)))).trans (List.perm_append_comm_assoc (LiW dA lb (LI.s_el (LI.s_eN (LI.s_eA (LI.s_mc (LI.s_sz gb (gb.sz + 1)) (gb.mc + 1)) qb) (gb.eN + max 1 (gb.eN / 2))) (va_up (cpF gb.el gb.eN) gb.sz (some wb)))) ([(sp, .inr (13, [.int kd, .int (nI pl), .long nu, .ref na, .int (nI nn), .ref (la 0), .ref (lb 0), .ref mk]))]) (LiW dA la (LI.s_el (LI.s_eN (LI.s_eA (LI.s_mc (LI.s_sz g (g.sz + 1)) (g.mc + 1)) qa) (g.eN + max 1 (g.eN / 2))) (va_up (cpF g.el g.eN) g.sz (some wa))) ++ ([(mk, .inl (dA 1, kN, .inl (va_up fk g.sz z)))] ++ (ws))))) hP
  have hD := pmD (show List.Perm (α := Nat × va_E) (LiW dA lb (LI.s_el (LI.s_eN (LI.s_eA (LI.s_mc (LI.s_sz gb (gb.sz + 1)) (gb.mc + 1)) qb) (gb.eN + max 1 (gb.eN / 2))) (va_up (cpF gb.el gb.eN) gb.sz (some wb))) ++ (LiW dA la (LI.s_el (LI.s_eN (LI.s_eA (LI.s_mc (LI.s_sz g (g.sz + 1)) (g.mc + 1)) qa) (g.eN + max 1 (g.eN / 2))) (va_up (cpF g.el g.eN) g.sz (some wa))) ++ ([(sp, .inr (13, [.int kd, .int (nI pl), .long nu, .ref na, .int (nI nn), .ref (la 0), .ref (lb 0), .ref mk]))] ++ ([(mk, .inl (dA 1, kN, .inl (va_up fk g.sz z)))] ++ (ws))))) ([(sp, .inr (13, [.int kd, .int (nI pl), .long nu, .ref na, .int (nI nn), .ref (la 0), .ref (lb 0), .ref mk]))] ++ (LiW dA lb (LI.s_el (LI.s_eN (LI.s_eA (LI.s_mc (LI.s_sz gb (gb.sz + 1)) (gb.mc + 1)) qb) (gb.eN + max 1 (gb.eN / 2))) (va_up (cpF gb.el gb.eN) gb.sz (some wb))) ++ (LiW dA la (LI.s_el (LI.s_eN (LI.s_eA (LI.s_mc (LI.s_sz g (g.sz + 1)) (g.mc + 1)) qa) (g.eN + max 1 (g.eN / 2))) (va_up (cpF g.el g.eN) g.sz (some wa))) ++ ([(mk, .inl (dA 1, kN, .inl (va_up fk g.sz z)))] ++ (ws))))) from (List.Perm.append_left (LiW dA lb (LI.s_el (LI.s_eN (LI.s_eA (LI.s_mc (LI.s_sz gb (gb.sz + 1)) (gb.mc + 1)) qb) (gb.eN + max 1 (gb.eN / 2))) (va_up (cpF gb.el gb.eN) gb.sz (some wb)))) (List.perm_append_comm_assoc (LiW dA la (LI.s_el (LI.s_eN (LI.s_eA (LI.s_mc (LI.s_sz g (g.sz + 1)) (g.mc + 1)) qa) (g.eN + max 1 (g.eN / 2))) (va_up (cpF g.el g.eN) g.sz (some wa)))) ([(sp, .inr (13, [.int kd, .int (nI pl), .long nu, .ref na, .int (nI nn), .ref (la 0), .ref (lb 0), .ref mk]))]) ([(mk, .inl (dA 1, kN, .inl (va_up fk g.sz z)))] ++ (ws)))).trans (List.perm_append_comm_assoc (LiW dA lb (LI.s_el (LI.s_eN (LI.s_eA (LI.s_mc (LI.s_sz gb (gb.sz + 1)) (gb.mc + 1)) qb) (gb.eN + max 1 (gb.eN / 2))) (va_up (cpF gb.el gb.eN) gb.sz (some wb)))) ([(sp, .inr (13, [.int kd, .int (nI pl), .long nu, .ref na, .int (nI nn), .ref (la 0), .ref (lb 0), .ref mk]))]) (LiW dA la (LI.s_el (LI.s_eN (LI.s_eA (LI.s_mc (LI.s_sz g (g.sz + 1)) (g.mc + 1)) qa) (g.eN + max 1 (g.eN / 2))) (va_up (cpF g.el g.eN) g.sz (some wa))) ++ ([(mk, .inl (dA 1, kN, .inl (va_up fk g.sz z)))] ++ (ws))))) hD
  have hP := pmP (show List.Perm (α := Nat × va_E) ([(sp, .inr (13, [.int kd, .int (nI pl), .long nu, .ref na, .int (nI nn), .ref (la 0), .ref (lb 0), .ref mk]))] ++ (LiW dA lb (LI.s_el (LI.s_eN (LI.s_eA (LI.s_mc (LI.s_sz gb (gb.sz + 1)) (gb.mc + 1)) qb) (gb.eN + max 1 (gb.eN / 2))) (va_up (cpF gb.el gb.eN) gb.sz (some wb))) ++ (LiW dA la (LI.s_el (LI.s_eN (LI.s_eA (LI.s_mc (LI.s_sz g (g.sz + 1)) (g.mc + 1)) qa) (g.eN + max 1 (g.eN / 2))) (va_up (cpF g.el g.eN) g.sz (some wa))) ++ ([(mk, .inl (dA 1, kN, .inl (va_up fk g.sz z)))] ++ (ws))))) ([(sp, .inr (13, [.int kd, .int (nI pl), .long nu, .ref na, .int (nI nn), .ref (la 0), .ref (lb 0), .ref mk]))] ++ (LiW dA la (LI.s_el (LI.s_eN (LI.s_eA (LI.s_mc (LI.s_sz g (g.sz + 1)) (g.mc + 1)) qa) (g.eN + max 1 (g.eN / 2))) (va_up (cpF g.el g.eN) g.sz (some wa))) ++ (LiW dA lb (LI.s_el (LI.s_eN (LI.s_eA (LI.s_mc (LI.s_sz gb (gb.sz + 1)) (gb.mc + 1)) qb) (gb.eN + max 1 (gb.eN / 2))) (va_up (cpF gb.el gb.eN) gb.sz (some wb))) ++ ([(mk, .inl (dA 1, kN, .inl (va_up fk g.sz z)))] ++ (ws))))) from List.Perm.append_left ([(sp, .inr (13, [.int kd, .int (nI pl), .long nu, .ref na, .int (nI nn), .ref (la 0), .ref (lb 0), .ref mk]))]) (List.perm_append_comm_assoc (LiW dA lb (LI.s_el (LI.s_eN (LI.s_eA (LI.s_mc (LI.s_sz gb (gb.sz + 1)) (gb.mc + 1)) qb) (gb.eN + max 1 (gb.eN / 2))) (va_up (cpF gb.el gb.eN) gb.sz (some wb)))) (LiW dA la (LI.s_el (LI.s_eN (LI.s_eA (LI.s_mc (LI.s_sz g (g.sz + 1)) (g.mc + 1)) qa) (g.eN + max 1 (g.eN / 2))) (va_up (cpF g.el g.eN) g.sz (some wa)))) ([(mk, .inl (dA 1, kN, .inl (va_up fk g.sz z)))] ++ (ws)))) hP
  have hD := pmD (show List.Perm (α := Nat × va_E) ([(sp, .inr (13, [.int kd, .int (nI pl), .long nu, .ref na, .int (nI nn), .ref (la 0), .ref (lb 0), .ref mk]))] ++ (LiW dA lb (LI.s_el (LI.s_eN (LI.s_eA (LI.s_mc (LI.s_sz gb (gb.sz + 1)) (gb.mc + 1)) qb) (gb.eN + max 1 (gb.eN / 2))) (va_up (cpF gb.el gb.eN) gb.sz (some wb))) ++ (LiW dA la (LI.s_el (LI.s_eN (LI.s_eA (LI.s_mc (LI.s_sz g (g.sz + 1)) (g.mc + 1)) qa) (g.eN + max 1 (g.eN / 2))) (va_up (cpF g.el g.eN) g.sz (some wa))) ++ ([(mk, .inl (dA 1, kN, .inl (va_up fk g.sz z)))] ++ (ws))))) ([(sp, .inr (13, [.int kd, .int (nI pl), .long nu, .ref na, .int (nI nn), .ref (la 0), .ref (lb 0), .ref mk]))] ++ (LiW dA la (LI.s_el (LI.s_eN (LI.s_eA (LI.s_mc (LI.s_sz g (g.sz + 1)) (g.mc + 1)) qa) (g.eN + max 1 (g.eN / 2))) (va_up (cpF g.el g.eN) g.sz (some wa))) ++ (LiW dA lb (LI.s_el (LI.s_eN (LI.s_eA (LI.s_mc (LI.s_sz gb (gb.sz + 1)) (gb.mc + 1)) qb) (gb.eN + max 1 (gb.eN / 2))) (va_up (cpF gb.el gb.eN) gb.sz (some wb))) ++ ([(mk, .inl (dA 1, kN, .inl (va_up fk g.sz z)))] ++ (ws))))) from List.Perm.append_left ([(sp, .inr (13, [.int kd, .int (nI pl), .long nu, .ref na, .int (nI nn), .ref (la 0), .ref (lb 0), .ref mk]))]) (List.perm_append_comm_assoc (LiW dA lb (LI.s_el (LI.s_eN (LI.s_eA (LI.s_mc (LI.s_sz gb (gb.sz + 1)) (gb.mc + 1)) qb) (gb.eN + max 1 (gb.eN / 2))) (va_up (cpF gb.el gb.eN) gb.sz (some wb)))) (LiW dA la (LI.s_el (LI.s_eN (LI.s_eA (LI.s_mc (LI.s_sz g (g.sz + 1)) (g.mc + 1)) qa) (g.eN + max 1 (g.eN / 2))) (va_up (cpF g.el g.eN) g.sz (some wa)))) ([(mk, .inl (dA 1, kN, .inl (va_up fk g.sz z)))] ++ (ws)))) hD
  exact rfV hx hb hr hlk hS (⟨qa, qb⟩) trivial hP hD (show 0 + 0 + 1 + 1 ≤ 2 by omega) (show 0 + 0 + (g.eN + max 1 (g.eN / 2)) + (gb.eN + max 1 (gb.eN / 2)) ≤ g.eN + max 1 (g.eN / 2) + (gb.eN + max 1 (gb.eN / 2)) by omega) d_E_addMatch_62
end
section
set_option maxHeartbeats 4000000 in
set_option maxRecDepth 100000 in
theorem v_Lsize_0 (l : Launch) (D : va_G) (dA : Nat → ClassId) (sz : Nat) (e0 mi : Nat) (ws : va_W) (a : Nat) (mc : Int32) : Met l ⟨"java/util/ArrayList", "size", "()I"⟩ [Cond.code ⟨"java/util/ArrayList", "size", "()I"⟩ prog_37_method_8_code 1 (some FieldType.int)] { frames := 1, cells := 0, slots := 0, locals := 0 } (pCy D dA e0 mi [.ref a] ([(a, .inr (6, [.ref e0, .int 0, .int mc]))] ++ (ws)) sz) (va_Qi (fun (r9 : Int32) (u9 : Unit) => r9 = 0) (fun (u9 : Unit) t9 => bW D (va_A ([(a, .inr (6, [.ref e0, .int 0, .int mc]))] ++ (ws)) sz) ([(a, .inr (6, [.ref e0, .int 0, .int mc]))] ++ (ws)) t9) (va_A ([(a, .inr (6, [.ref e0, .int 0, .int mc]))] ++ (ws)) sz)) 0 0 (va_A ([(a, .inr (6, [.ref e0, .int 0, .int mc]))] ++ (ws)) sz) := by
  refine mkY (y := ⟨"java/util/ArrayList", "size", "()I"⟩) (cc := prog_37_method_8_code) (maxL := 1) (av := [.ref a]) (ws := [(a, .inr (6, [.ref e0, .int 0, .int mc]))] ++ (ws)) (sz := sz) (Qc := fun A => va_Qi (fun (r9 : Int32) (u9 : Unit) => r9 = 0) (fun (u9 : Unit) t9 => bW D A ([(a, .inr (6, [.ref e0, .int 0, .int mc]))] ++ (ws)) t9) A) (by decide) (Nat.le_of_ble_eq_true rfl) ?_
  intro A p e s m below meth c ls hsz hZ hT hM hB
  obtain ⟨hx, hb, hr, hml, hown, hin, hlk, hE, hK, hP, hD, hS, hA, hN, hl⟩ := hB
  have hown : s.vm.findClass "java/util/ArrayList" = some m.cls := hown
  have hl : lv_has ls 1 [(0, .ref a)] := hl
  obtain ⟨H, hH⟩ : ∃ z, z = s.heap := ⟨_, rfl⟩
  have hP : va_P D vwCl ([(a, .inr (6, [.ref e0, .int 0, .int mc]))] ++ (ws)) H := by rw [hH]; exact hP
  have hS : va_S A s.heap H [] := by rw [hH]; exact hS
  rw [← hH]
  refine lv_aload_n hx hb d_L_size_0 rfl (lv_at hl 0 rfl) ?_
  refine gF (v := .int 0) hx hb hown hE hK hP 0 rfl rfl layL 1 (by decide) w657 rfl d_L_size_1 ?_
  exact rfI hx hb hr hlk hS () rfl hP hD (Nat.le_of_ble_eq_true rfl) (Nat.le_of_ble_eq_true rfl) d_L_size_4
set_option maxHeartbeats 4000000 in
set_option maxRecDepth 100000 in
theorem v_EaddMatch_0 (l : Launch) (D : va_G) (dA : Nat → ClassId) (sz : Nat) (e0 mi : Nat) (ws : va_W) (sp : Nat) (kd : Int32) (pl : Nat) (nu : Int64) (na : Nat) (nn : Nat) (mk : Nat) (kN : Nat) (fk : Nat → Int32) (z : Int32) (wa : Nat) (wb : Nat) (L : List Int32) (M : List Int32) (ln : Nat) (mc : Int32) (lt : Nat) (md : Int32) (hwa : isWo dA ws wa L) (hwb : isWo dA ws wb M) (hkN : kN ≤ 131072) (h1 : 0 < kN) : Met l ⟨"SeriesVault$Step", "addMatch", "(ILSeriesVault$Word;LSeriesVault$Word;)V"⟩ [Cond.code ⟨"SeriesVault$Step", "addMatch", "(ILSeriesVault$Word;LSeriesVault$Word;)V"⟩ prog_10_method_4_code 5 none] { frames := 5, cells := 2, slots := 20, locals := 101 } (pCy D dA e0 mi [.ref sp, .int z, .ref wa, .ref wb] ([(sp, .inr (13, [.int kd, .int (nI pl), .long nu, .ref na, .int (nI nn), .ref ln, .ref lt, .ref mk]))] ++ ([(ln, .inr (6, [.ref e0, .int 0, .int mc]))] ++ ([(lt, .inr (6, [.ref e0, .int 0, .int md]))] ++ ([(mk, .inl (dA 1, kN, .inl fk))] ++ (ws))))) sz) (va_Qv (fun (u9 : Nat × Nat) => True) (fun (u9 : Nat × Nat) t9 => bW D (va_A ([(sp, .inr (13, [.int kd, .int (nI pl), .long nu, .ref na, .int (nI nn), .ref ln, .ref lt, .ref mk]))] ++ ([(ln, .inr (6, [.ref e0, .int 0, .int mc]))] ++ ([(lt, .inr (6, [.ref e0, .int 0, .int md]))] ++ ([(mk, .inl (dA 1, kN, .inl fk))] ++ (ws))))) sz) ([(u9.1, .inl (dA 7, 10, .inr (.inr (.inr (.inr (va_up (fun _ => none) 0 (some wa)))))))] ++ ([(u9.2, .inl (dA 7, 10, .inr (.inr (.inr (.inr (va_up (fun _ => none) 0 (some wb)))))))] ++ ([(sp, .inr (13, [.int kd, .int (nI pl), .long nu, .ref na, .int (nI nn), .ref ln, .ref lt, .ref mk]))] ++ ([(ln, .inr (6, [.ref u9.1, .int 1, .int (mc + 1)]))] ++ ([(lt, .inr (6, [.ref u9.2, .int 1, .int (md + 1)]))] ++ ([(mk, .inl (dA 1, kN, .inl (va_up fk 0 z)))] ++ (ws))))))) t9) (va_A ([(sp, .inr (13, [.int kd, .int (nI pl), .long nu, .ref na, .int (nI nn), .ref ln, .ref lt, .ref mk]))] ++ ([(ln, .inr (6, [.ref e0, .int 0, .int mc]))] ++ ([(lt, .inr (6, [.ref e0, .int 0, .int md]))] ++ ([(mk, .inl (dA 1, kN, .inl fk))] ++ (ws))))) sz)) 2 20 (va_A ([(sp, .inr (13, [.int kd, .int (nI pl), .long nu, .ref na, .int (nI nn), .ref ln, .ref lt, .ref mk]))] ++ ([(ln, .inr (6, [.ref e0, .int 0, .int mc]))] ++ ([(lt, .inr (6, [.ref e0, .int 0, .int md]))] ++ ([(mk, .inl (dA 1, kN, .inl fk))] ++ (ws))))) sz) := by
  refine mkY (y := ⟨"SeriesVault$Step", "addMatch", "(ILSeriesVault$Word;LSeriesVault$Word;)V"⟩) (cc := prog_10_method_4_code) (maxL := 5) (av := [.ref sp, .int z, .ref wa, .ref wb]) (ws := [(sp, .inr (13, [.int kd, .int (nI pl), .long nu, .ref na, .int (nI nn), .ref ln, .ref lt, .ref mk]))] ++ ([(ln, .inr (6, [.ref e0, .int 0, .int mc]))] ++ ([(lt, .inr (6, [.ref e0, .int 0, .int md]))] ++ ([(mk, .inl (dA 1, kN, .inl fk))] ++ (ws))))) (sz := sz) (Qc := fun A => va_Qv (fun (u9 : Nat × Nat) => True) (fun (u9 : Nat × Nat) t9 => bW D A ([(u9.1, .inl (dA 7, 10, .inr (.inr (.inr (.inr (va_up (fun _ => none) 0 (some wa)))))))] ++ ([(u9.2, .inl (dA 7, 10, .inr (.inr (.inr (.inr (va_up (fun _ => none) 0 (some wb)))))))] ++ ([(sp, .inr (13, [.int kd, .int (nI pl), .long nu, .ref na, .int (nI nn), .ref ln, .ref lt, .ref mk]))] ++ ([(ln, .inr (6, [.ref u9.1, .int 1, .int (mc + 1)]))] ++ ([(lt, .inr (6, [.ref u9.2, .int 1, .int (md + 1)]))] ++ ([(mk, .inl (dA 1, kN, .inl (va_up fk 0 z)))] ++ (ws))))))) t9) A) (by decide) (Nat.le_of_ble_eq_true rfl) ?_
  intro A p e s m below meth c ls hsz hZ hT hM hB
  obtain ⟨hx, hb, hr, hml, hown, hin, hlk, hE, hK, hP, hD, hS, hA, hN, hl⟩ := hB
  have hown : s.vm.findClass "SeriesVault$Step" = some m.cls := hown
  have hl : lv_has ls 5 [(0, .ref sp), (1, .int z), (2, .ref wa), (3, .ref wb)] := hl
  obtain ⟨H, hH⟩ : ∃ z, z = s.heap := ⟨_, rfl⟩
  have hP : va_P D vwCl ([(sp, .inr (13, [.int kd, .int (nI pl), .long nu, .ref na, .int (nI nn), .ref ln, .ref lt, .ref mk]))] ++ ([(ln, .inr (6, [.ref e0, .int 0, .int mc]))] ++ ([(lt, .inr (6, [.ref e0, .int 0, .int md]))] ++ ([(mk, .inl (dA 1, kN, .inl fk))] ++ (ws))))) H := by rw [hH]; exact hP
  have hS : va_S A s.heap H [] := by rw [hH]; exact hS
  rw [← hH]
  have wac := hwa
  obtain ⟨bwa, fwa, kwa, -⟩ := wac
  have wbc := hwb
  obtain ⟨bwb, fwb, kwb, -⟩ := wbc
  refine lv_aload_n hx hb d_E_addMatch_0 rfl (lv_at hl 0 rfl) ?_
  refine gF (v := .ref ln) hx hb hown hE hK hP 0 rfl rfl layE 5 (by decide) w1482 rfl d_E_addMatch_1 ?_
  have hP := pmP (show List.Perm (α := Nat × va_E) ([(sp, .inr (13, [.int kd, .int (nI pl), .long nu, .ref na, .int (nI nn), .ref ln, .ref lt, .ref mk]))] ++ ([(ln, .inr (6, [.ref e0, .int 0, .int mc]))] ++ ([(lt, .inr (6, [.ref e0, .int 0, .int md]))] ++ ([(mk, .inl (dA 1, kN, .inl fk))] ++ (ws))))) ([(ln, .inr (6, [.ref e0, .int 0, .int mc]))] ++ ([(sp, .inr (13, [.int kd, .int (nI pl), .long nu, .ref na, .int (nI nn), .ref ln, .ref lt, .ref mk]))] ++ ([(lt, .inr (6, [.ref e0, .int 0, .int md]))] ++ ([(mk, .inl (dA 1, kN, .inl fk))] ++ (ws))))) from List.perm_append_comm_assoc ([(sp, .inr (13, [.int kd, .int (nI pl), .long nu, .ref na, .int (nI nn), .ref ln, .ref lt, .ref mk]))]) ([(ln, .inr (6, [.ref e0, .int 0, .int mc]))]) ([(lt, .inr (6, [.ref e0, .int 0, .int md]))] ++ ([(mk, .inl (dA 1, kN, .inl fk))] ++ (ws)))) hP
  have hD := pmD (show List.Perm (α := Nat × va_E) ([(sp, .inr (13, [.int kd, .int (nI pl), .long nu, .ref na, .int (nI nn), .ref ln, .ref lt, .ref mk]))] ++ ([(ln, .inr (6, [.ref e0, .int 0, .int mc]))] ++ ([(lt, .inr (6, [.ref e0, .int 0, .int md]))] ++ ([(mk, .inl (dA 1, kN, .inl fk))] ++ (ws))))) ([(ln, .inr (6, [.ref e0, .int 0, .int mc]))] ++ ([(sp, .inr (13, [.int kd, .int (nI pl), .long nu, .ref na, .int (nI nn), .ref ln, .ref lt, .ref mk]))] ++ ([(lt, .inr (6, [.ref e0, .int 0, .int md]))] ++ ([(mk, .inl (dA 1, kN, .inl fk))] ++ (ws))))) from List.perm_append_comm_assoc ([(sp, .inr (13, [.int kd, .int (nI pl), .long nu, .ref na, .int (nI nn), .ref ln, .ref lt, .ref mk]))]) ([(ln, .inr (6, [.ref e0, .int 0, .int mc]))]) ([(lt, .inr (6, [.ref e0, .int 0, .int md]))] ++ ([(mk, .inl (dA 1, kN, .inl fk))] ++ (ws)))) hD
  refine jkI (wr := []) (rnVy (As := []) (rest := []) hx hb hml hown hE hK hZ hT hM hS (hN _ _ hS) hP hD (v_Lsize_0 l D dA H.size e0 mi ([(sp, .inr (13, [.int kd, .int (nI pl), .long nu, .ref na, .int (nI nn), .ref ln, .ref lt, .ref mk]))] ++ ([(lt, .inr (6, [.ref e0, .int 0, .int md]))] ++ ([(mk, .inl (dA 1, kN, .inl fk))] ++ (ws)))) ln mc) (q0 := 0) rfl rfl w1484 w1483 w1485 w1486 w680 rfl rfl ⟨⟨by decide, by decide⟩, rfl⟩ ⟨(Nat.le_of_ble_eq_true rfl), (Nat.le_of_ble_eq_true rfl)⟩ rfl hl.1 rfl (Nat.le_of_ble_eq_true rfl) d_E_addMatch_4 ⟨(show 0 + 0 ≤ 2 by omega), (show 0 + 0 ≤ 20 by omega)⟩) hP hD hS hA (fun r1 u2 H locs hp9 hP hD hS => ?_)
  have hP : va_P D vwCl ([(ln, .inr (6, [.ref e0, .int 0, .int mc]))] ++ ([(sp, .inr (13, [.int kd, .int (nI pl), .long nu, .ref na, .int (nI nn), .ref ln, .ref lt, .ref mk]))] ++ ([(lt, .inr (6, [.ref e0, .int 0, .int md]))] ++ ([(mk, .inl (dA 1, kN, .inl fk))] ++ (ws))))) H := hP
  have hD : va_D A ([(ln, .inr (6, [.ref e0, .int 0, .int mc]))] ++ ([(sp, .inr (13, [.int kd, .int (nI pl), .long nu, .ref na, .int (nI nn), .ref ln, .ref lt, .ref mk]))] ++ ([(lt, .inr (6, [.ref e0, .int 0, .int md]))] ++ ([(mk, .inl (dA 1, kN, .inl fk))] ++ (ws))))) := hD
  replace hp9 : 0 = r1 := Eq.symm hp9
  subst hp9
  refine lv_istore hx hb d_E_addMatch_7 hl (by decide) rfl (fun ls hl => ?_)
  have hl : lv_has ls 5 [(4, .int 0), (0, .ref sp), (1, .int z), (2, .ref wa), (3, .ref wb)] := hl
  refine lv_iload hx hb d_E_addMatch_9 (lv_at hl 0 rfl) ?_
  refine lv_aload_n hx hb d_E_addMatch_11 rfl (lv_at hl 1 rfl) ?_
  refine gF (v := .ref mk) hx hb hown hE hK hP 1 rfl rfl layE 7 (by decide) w1487 rfl d_E_addMatch_12 ?_
  refine va_alen (v := nI kN) hx hb hK hP (3) 1 rfl rfl rfl d_E_addMatch_15 ?_
  refine lv_icmp_ne hx hb d_E_addMatch_16 (tgt := 36) rfl (fun g3 => ?_) (fun g3 => ?_)
  rotate_left
  · have g3 := (nI_eq (a := 0) (b := kN) (by omega) (by omega)).mp g3; exfalso; omega
  have g3 := mt (nI_eq (a := 0) (b := kN) (by omega) (by omega)).mpr g3
  refine lv_aload_n hx hb d_E_addMatch_36 rfl (lv_at hl 1 rfl) ?_
  refine gF (v := .ref mk) hx hb hown hE hK hP 1 rfl rfl layE 7 (by decide) w1487 rfl d_E_addMatch_37 ?_
  refine lv_iload hx hb d_E_addMatch_40 (lv_at hl 0 rfl) ?_
  refine lv_iload_n hx hb d_E_addMatch_42 rfl (lv_at hl 2 rfl) ?_
  refine nist (n := kN) hx hb hK hP hD hS (3) 1 rfl rfl (0) (by omega) (by omega) d_E_addMatch_43 (fun H locs hP hD hS => ?_)
  have hP : va_P D vwCl ([(ln, .inr (6, [.ref e0, .int 0, .int mc]))] ++ ([(sp, .inr (13, [.int kd, .int (nI pl), .long nu, .ref na, .int (nI nn), .ref ln, .ref lt, .ref mk]))] ++ ([(lt, .inr (6, [.ref e0, .int 0, .int md]))] ++ ([(mk, .inl (dA 1, kN, .inl (va_up fk 0 z)))] ++ (ws))))) H := hP
  have hD : va_D A ([(ln, .inr (6, [.ref e0, .int 0, .int mc]))] ++ ([(sp, .inr (13, [.int kd, .int (nI pl), .long nu, .ref na, .int (nI nn), .ref ln, .ref lt, .ref mk]))] ++ ([(lt, .inr (6, [.ref e0, .int 0, .int md]))] ++ ([(mk, .inl (dA 1, kN, .inl (va_up fk 0 z)))] ++ (ws))))) := hD
  refine lv_aload_n hx hb d_E_addMatch_44 rfl (lv_at hl 1 rfl) ?_
  refine gF (v := .ref ln) hx hb hown hE hK hP 1 rfl rfl layE 5 (by decide) w1482 rfl d_E_addMatch_45 ?_
  refine lv_aload_n hx hb d_E_addMatch_48 rfl (lv_at hl 3 rfl) ?_
  refine jkI (wr := []) (rnVy (As := [.ref wa]) (rest := []) hx hb hml hown hE hK hZ hT hM hS (hN _ _ hS) hP hD (v_Ladd_0W l D dA H.size e0 mi ([(sp, .inr (13, [.int kd, .int (nI pl), .long nu, .ref na, .int (nI nn), .ref ln, .ref lt, .ref mk]))] ++ ([(lt, .inr (6, [.ref e0, .int 0, .int md]))] ++ ([(mk, .inl (dA 1, kN, .inl (va_up fk 0 z)))] ++ (ws)))) ln mc wa ([.ref bwa]) ((fun _ hm => (List.mem_append_right _ (List.mem_append_right _ (List.mem_append_right _ hm)))) _ kwa)) (q0 := 0) rfl rfl w812 w1536 w813 w814 w680 rfl rfl ⟨⟨by decide, by decide⟩, rfl⟩ ⟨(Nat.le_of_ble_eq_true rfl), (Nat.le_of_ble_eq_true rfl)⟩ rfl hl.1 rfl (Nat.le_of_ble_eq_true rfl) d_E_addMatch_49 ⟨(show 0 + 0 + 1 ≤ 2 by omega), (show 0 + 0 + 10 ≤ 20 by omega)⟩) hP hD hS hA (fun r4 u5 H locs hp9 hP hD hS => ?_)
  obtain ⟨qa, h9u⟩ : ∃ z9, z9 = u5 := ⟨_, rfl⟩
  subst h9u
  have hP : va_P D vwCl ([(qa, .inl (dA 7, 10, .inr (.inr (.inr (.inr (va_up (fun _ => none) 0 (some wa)))))))] ++ ([(ln, .inr (6, [.ref qa, .int 1, .int (mc + 1)]))] ++ ([(sp, .inr (13, [.int kd, .int (nI pl), .long nu, .ref na, .int (nI nn), .ref ln, .ref lt, .ref mk]))] ++ ([(lt, .inr (6, [.ref e0, .int 0, .int md]))] ++ ([(mk, .inl (dA 1, kN, .inl (va_up fk 0 z)))] ++ (ws)))))) H := hP
  have hD : va_D A ([(qa, .inl (dA 7, 10, .inr (.inr (.inr (.inr (va_up (fun _ => none) 0 (some wa)))))))] ++ ([(ln, .inr (6, [.ref qa, .int 1, .int (mc + 1)]))] ++ ([(sp, .inr (13, [.int kd, .int (nI pl), .long nu, .ref na, .int (nI nn), .ref ln, .ref lt, .ref mk]))] ++ ([(lt, .inr (6, [.ref e0, .int 0, .int md]))] ++ ([(mk, .inl (dA 1, kN, .inl (va_up fk 0 z)))] ++ (ws)))))) := hD
  replace hp9 : 1 = r4 := Eq.symm hp9
  subst hp9
  refine lv_pop hx hb d_E_addMatch_52 rfl ?_
  refine lv_aload_n hx hb d_E_addMatch_53 rfl (lv_at hl 1 rfl) ?_
  refine gF (v := .ref lt) hx hb hown hE hK hP 2 rfl rfl layE 6 (by decide) w1494 rfl d_E_addMatch_54 ?_
  refine lv_aload_n hx hb d_E_addMatch_57 rfl (lv_at hl 4 rfl) ?_
  have hP := pmP (show List.Perm (α := Nat × va_E) ([(qa, .inl (dA 7, 10, .inr (.inr (.inr (.inr (va_up (fun _ => none) 0 (some wa)))))))] ++ ([(ln, .inr (6, [.ref qa, .int 1, .int (mc + 1)]))] ++ ([(sp, .inr (13, [.int kd, .int (nI pl), .long nu, .ref na, .int (nI nn), .ref ln, .ref lt, .ref mk]))] ++ ([(lt, .inr (6, [.ref e0, .int 0, .int md]))] ++ ([(mk, .inl (dA 1, kN, .inl (va_up fk 0 z)))] ++ (ws)))))) ([(lt, .inr (6, [.ref e0, .int 0, .int md]))] ++ ([(qa, .inl (dA 7, 10, .inr (.inr (.inr (.inr (va_up (fun _ => none) 0 (some wa)))))))] ++ ([(ln, .inr (6, [.ref qa, .int 1, .int (mc + 1)]))] ++ ([(sp, .inr (13, [.int kd, .int (nI pl), .long nu, .ref na, .int (nI nn), .ref ln, .ref lt, .ref mk]))] ++ ([(mk, .inl (dA 1, kN, .inl (va_up fk 0 z)))] ++ (ws)))))) from (List.Perm.append_left ([(qa, .inl (dA 7, 10, .inr (.inr (.inr (.inr (va_up (fun _ => none) 0 (some wa)))))))]) ((List.Perm.append_left ([(ln, .inr (6, [.ref qa, .int 1, .int (mc + 1)]))]) (List.perm_append_comm_assoc ([(sp, .inr (13, [.int kd, .int (nI pl), .long nu, .ref na, .int (nI nn), .ref ln, .ref lt, .ref mk]))]) ([(lt, .inr (6, [.ref e0, .int 0, .int md]))]) ([(mk, .inl (dA 1, kN, .inl (va_up fk 0 z)))] ++ (ws)))).trans (List.perm_append_comm_assoc ([(ln, .inr (6, [.ref qa, .int 1, .int (mc + 1)]))]) ([(lt, .inr (6, [.ref e0, .int 0, .int md]))]) ([(sp, .inr (13, [.int kd, .int (nI pl), .long nu, .ref na, .int (nI nn), .ref ln, .ref lt, .ref mk]))] ++ ([(mk, .inl (dA 1, kN, .inl (va_up fk 0 z)))] ++ (ws)))))).trans (List.perm_append_comm_assoc ([(qa, .inl (dA 7, 10, .inr (.inr (.inr (.inr (va_up (fun _ => none) 0 (some wa)))))))]) ([(lt, .inr (6, [.ref e0, .int 0, .int md]))]) ([(ln, .inr (6, [.ref qa, .int 1, .int (mc + 1)]))] ++ ([(sp, .inr (13, [.int kd, .int (nI pl), .long nu, .ref na, .int (nI nn), .ref ln, .ref lt, .ref mk]))] ++ ([(mk, .inl (dA 1, kN, .inl (va_up fk 0 z)))] ++ (ws)))))) hP
  have hD := pmD (show List.Perm (α := Nat × va_E) ([(qa, .inl (dA 7, 10, .inr (.inr (.inr (.inr (va_up (fun _ => none) 0 (some wa)))))))] ++ ([(ln, .inr (6, [.ref qa, .int 1, .int (mc + 1)]))] ++ ([(sp, .inr (13, [.int kd, .int (nI pl), .long nu, .ref na, .int (nI nn), .ref ln, .ref lt, .ref mk]))] ++ ([(lt, .inr (6, [.ref e0, .int 0, .int md]))] ++ ([(mk, .inl (dA 1, kN, .inl (va_up fk 0 z)))] ++ (ws)))))) ([(lt, .inr (6, [.ref e0, .int 0, .int md]))] ++ ([(qa, .inl (dA 7, 10, .inr (.inr (.inr (.inr (va_up (fun _ => none) 0 (some wa)))))))] ++ ([(ln, .inr (6, [.ref qa, .int 1, .int (mc + 1)]))] ++ ([(sp, .inr (13, [.int kd, .int (nI pl), .long nu, .ref na, .int (nI nn), .ref ln, .ref lt, .ref mk]))] ++ ([(mk, .inl (dA 1, kN, .inl (va_up fk 0 z)))] ++ (ws)))))) from (List.Perm.append_left ([(qa, .inl (dA 7, 10, .inr (.inr (.inr (.inr (va_up (fun _ => none) 0 (some wa)))))))]) ((List.Perm.append_left ([(ln, .inr (6, [.ref qa, .int 1, .int (mc + 1)]))]) (List.perm_append_comm_assoc ([(sp, .inr (13, [.int kd, .int (nI pl), .long nu, .ref na, .int (nI nn), .ref ln, .ref lt, .ref mk]))]) ([(lt, .inr (6, [.ref e0, .int 0, .int md]))]) ([(mk, .inl (dA 1, kN, .inl (va_up fk 0 z)))] ++ (ws)))).trans (List.perm_append_comm_assoc ([(ln, .inr (6, [.ref qa, .int 1, .int (mc + 1)]))]) ([(lt, .inr (6, [.ref e0, .int 0, .int md]))]) ([(sp, .inr (13, [.int kd, .int (nI pl), .long nu, .ref na, .int (nI nn), .ref ln, .ref lt, .ref mk]))] ++ ([(mk, .inl (dA 1, kN, .inl (va_up fk 0 z)))] ++ (ws)))))).trans (List.perm_append_comm_assoc ([(qa, .inl (dA 7, 10, .inr (.inr (.inr (.inr (va_up (fun _ => none) 0 (some wa)))))))]) ([(lt, .inr (6, [.ref e0, .int 0, .int md]))]) ([(ln, .inr (6, [.ref qa, .int 1, .int (mc + 1)]))] ++ ([(sp, .inr (13, [.int kd, .int (nI pl), .long nu, .ref na, .int (nI nn), .ref ln, .ref lt, .ref mk]))] ++ ([(mk, .inl (dA 1, kN, .inl (va_up fk 0 z)))] ++ (ws)))))) hD
  refine jkI (wr := []) (rnVy (As := [.ref wb]) (rest := []) hx hb hml hown hE hK hZ hT hM hS (hN _ _ hS) hP hD (v_Ladd_0W l D dA H.size e0 mi ([(qa, .inl (dA 7, 10, .inr (.inr (.inr (.inr (va_up (fun _ => none) 0 (some wa)))))))] ++ ([(ln, .inr (6, [.ref qa, .int 1, .int (mc + 1)]))] ++ ([(sp, .inr (13, [.int kd, .int (nI pl), .long nu, .ref na, .int (nI nn), .ref ln, .ref lt, .ref mk]))] ++ ([(mk, .inl (dA 1, kN, .inl (va_up fk 0 z)))] ++ (ws))))) lt md wb ([.ref bwb]) ((fun _ hm => (List.mem_append_right _ (List.mem_append_right _ (List.mem_append_right _ (List.mem_append_right _ hm))))) _ kwb)) (q0 := 0) rfl rfl w812 w1536 w813 w814 w680 rfl rfl ⟨⟨by decide, by decide⟩, rfl⟩ ⟨(Nat.le_of_ble_eq_true rfl), (Nat.le_of_ble_eq_true rfl)⟩ rfl hl.1 rfl (Nat.le_of_ble_eq_true rfl) d_E_addMatch_58 ⟨(show 0 + 0 + 1 + 1 ≤ 2 by omega), (show 0 + 0 + 10 + 10 ≤ 20 by omega)⟩) hP hD hS hA (fun r6 u7 H locs hp9 hP hD hS => ?_)
  obtain ⟨qb, h9u⟩ : ∃ z9, z9 = u7 := ⟨_, rfl⟩
  subst h9u
  have hP : va_P D vwCl ([(qb, .inl (dA 7, 10, .inr (.inr (.inr (.inr (va_up (fun _ => none) 0 (some wb)))))))] ++ ([(lt, .inr (6, [.ref qb, .int 1, .int (md + 1)]))] ++ ([(qa, .inl (dA 7, 10, .inr (.inr (.inr (.inr (va_up (fun _ => none) 0 (some wa)))))))] ++ ([(ln, .inr (6, [.ref qa, .int 1, .int (mc + 1)]))] ++ ([(sp, .inr (13, [.int kd, .int (nI pl), .long nu, .ref na, .int (nI nn), .ref ln, .ref lt, .ref mk]))] ++ ([(mk, .inl (dA 1, kN, .inl (va_up fk 0 z)))] ++ (ws))))))) H := hP
  have hD : va_D A ([(qb, .inl (dA 7, 10, .inr (.inr (.inr (.inr (va_up (fun _ => none) 0 (some wb)))))))] ++ ([(lt, .inr (6, [.ref qb, .int 1, .int (md + 1)]))] ++ ([(qa, .inl (dA 7, 10, .inr (.inr (.inr (.inr (va_up (fun _ => none) 0 (some wa)))))))] ++ ([(ln, .inr (6, [.ref qa, .int 1, .int (mc + 1)]))] ++ ([(sp, .inr (13, [.int kd, .int (nI pl), .long nu, .ref na, .int (nI nn), .ref ln, .ref lt, .ref mk]))] ++ ([(mk, .inl (dA 1, kN, .inl (va_up fk 0 z)))] ++ (ws))))))) := hD
  replace hp9 : 1 = r6 := Eq.symm hp9
  subst hp9
  refine lv_pop hx hb d_E_addMatch_61 rfl ?_
  have hP := pmP (show List.Perm (α := Nat × va_E) ([(qb, .inl (dA 7, 10, .inr (.inr (.inr (.inr (va_up (fun _ => none) 0 (some wb)))))))] ++ ([(lt, .inr (6, [.ref qb, .int 1, .int (md + 1)]))] ++ ([(qa, .inl (dA 7, 10, .inr (.inr (.inr (.inr (va_up (fun _ => none) 0 (some wa)))))))] ++ ([(ln, .inr (6, [.ref qa, .int 1, .int (mc + 1)]))] ++ ([(sp, .inr (13, [.int kd, .int (nI pl), .long nu, .ref na, .int (nI nn), .ref ln, .ref lt, .ref mk]))] ++ ([(mk, .inl (dA 1, kN, .inl (va_up fk 0 z)))] ++ (ws))))))) ([(qa, .inl (dA 7, 10, .inr (.inr (.inr (.inr (va_up (fun _ => none) 0 (some wa)))))))] ++ ([(qb, .inl (dA 7, 10, .inr (.inr (.inr (.inr (va_up (fun _ => none) 0 (some wb)))))))] ++ ([(lt, .inr (6, [.ref qb, .int 1, .int (md + 1)]))] ++ ([(ln, .inr (6, [.ref qa, .int 1, .int (mc + 1)]))] ++ ([(sp, .inr (13, [.int kd, .int (nI pl), .long nu, .ref na, .int (nI nn), .ref ln, .ref lt, .ref mk]))] ++ ([(mk, .inl (dA 1, kN, .inl (va_up fk 0 z)))] ++ (ws))))))) from (List.Perm.append_left ([(qb, .inl (dA 7, 10, .inr (.inr (.inr (.inr (va_up (fun _ => none) 0 (some wb)))))))]) (List.perm_append_comm_assoc ([(lt, .inr (6, [.ref qb, .int 1, .int (md + 1)]))]) ([(qa, .inl (dA 7, 10, .inr (.inr (.inr (.inr (va_up (fun _ => none) 0 (some wa)))))))]) ([(ln, .inr (6, [.ref qa, .int 1, .int (mc + 1)]))] ++ ([(sp, .inr (13, [.int kd, .int (nI pl), .long nu, .ref na, .int (nI nn), .ref ln, .ref lt, .ref mk]))] ++ ([(mk, .inl (dA 1, kN, .inl (va_up fk 0 z)))] ++ (ws)))))).trans (List.perm_append_comm_assoc ([(qb, .inl (dA 7, 10, .inr (.inr (.inr (.inr (va_up (fun _ => none) 0 (some wb)))))))]) ([(qa, .inl (dA 7, 10, .inr (.inr (.inr (.inr (va_up (fun _ => none) 0 (some wa)))))))]) ([(lt, .inr (6, [.ref qb, .int 1, .int (md + 1)]))] ++ ([(ln, .inr (6, [.ref qa, .int 1, .int (mc + 1)]))] ++ ([(sp, .inr (13, [.int kd, .int (nI pl), .long nu, .ref na, .int (nI nn), .ref ln, .ref lt, .ref mk]))] ++ ([(mk, .inl (dA 1, kN, .inl (va_up fk 0 z)))] ++ (ws))))))) hP
  have hD := pmD (show List.Perm (α := Nat × va_E) ([(qb, .inl (dA 7, 10, .inr (.inr (.inr (.inr (va_up (fun _ => none) 0 (some wb)))))))] ++ ([(lt, .inr (6, [.ref qb, .int 1, .int (md + 1)]))] ++ ([(qa, .inl (dA 7, 10, .inr (.inr (.inr (.inr (va_up (fun _ => none) 0 (some wa)))))))] ++ ([(ln, .inr (6, [.ref qa, .int 1, .int (mc + 1)]))] ++ ([(sp, .inr (13, [.int kd, .int (nI pl), .long nu, .ref na, .int (nI nn), .ref ln, .ref lt, .ref mk]))] ++ ([(mk, .inl (dA 1, kN, .inl (va_up fk 0 z)))] ++ (ws))))))) ([(qa, .inl (dA 7, 10, .inr (.inr (.inr (.inr (va_up (fun _ => none) 0 (some wa)))))))] ++ ([(qb, .inl (dA 7, 10, .inr (.inr (.inr (.inr (va_up (fun _ => none) 0 (some wb)))))))] ++ ([(lt, .inr (6, [.ref qb, .int 1, .int (md + 1)]))] ++ ([(ln, .inr (6, [.ref qa, .int 1, .int (mc + 1)]))] ++ ([(sp, .inr (13, [.int kd, .int (nI pl), .long nu, .ref na, .int (nI nn), .ref ln, .ref lt, .ref mk]))] ++ ([(mk, .inl (dA 1, kN, .inl (va_up fk 0 z)))] ++ (ws))))))) from (List.Perm.append_left ([(qb, .inl (dA 7, 10, .inr (.inr (.inr (.inr (va_up (fun _ => none) 0 (some wb)))))))]) (List.perm_append_comm_assoc ([(lt, .inr (6, [.ref qb, .int 1, .int (md + 1)]))]) ([(qa, .inl (dA 7, 10, .inr (.inr (.inr (.inr (va_up (fun _ => none) 0 (some wa)))))))]) ([(ln, .inr (6, [.ref qa, .int 1, .int (mc + 1)]))] ++ ([(sp, .inr (13, [.int kd, .int (nI pl), .long nu, .ref na, .int (nI nn), .ref ln, .ref lt, .ref mk]))] ++ ([(mk, .inl (dA 1, kN, .inl (va_up fk 0 z)))] ++ (ws)))))).trans (List.perm_append_comm_assoc ([(qb, .inl (dA 7, 10, .inr (.inr (.inr (.inr (va_up (fun _ => none) 0 (some wb)))))))]) ([(qa, .inl (dA 7, 10, .inr (.inr (.inr (.inr (va_up (fun _ => none) 0 (some wa)))))))]) ([(lt, .inr (6, [.ref qb, .int 1, .int (md + 1)]))] ++ ([(ln, .inr (6, [.ref qa, .int 1, .int (mc + 1)]))] ++ ([(sp, .inr (13, [.int kd, .int (nI pl), .long nu, .ref na, .int (nI nn), .ref ln, .ref lt, .ref mk]))] ++ ([(mk, .inl (dA 1, kN, .inl (va_up fk 0 z)))] ++ (ws))))))) hD
  have hP := pmP (show List.Perm (α := Nat × va_E) ([(qa, .inl (dA 7, 10, .inr (.inr (.inr (.inr (va_up (fun _ => none) 0 (some wa)))))))] ++ ([(qb, .inl (dA 7, 10, .inr (.inr (.inr (.inr (va_up (fun _ => none) 0 (some wb)))))))] ++ ([(lt, .inr (6, [.ref qb, .int 1, .int (md + 1)]))] ++ ([(ln, .inr (6, [.ref qa, .int 1, .int (mc + 1)]))] ++ ([(sp, .inr (13, [.int kd, .int (nI pl), .long nu, .ref na, .int (nI nn), .ref ln, .ref lt, .ref mk]))] ++ ([(mk, .inl (dA 1, kN, .inl (va_up fk 0 z)))] ++ (ws))))))) ([(qa, .inl (dA 7, 10, .inr (.inr (.inr (.inr (va_up (fun _ => none) 0 (some wa)))))))] ++ ([(qb, .inl (dA 7, 10, .inr (.inr (.inr (.inr (va_up (fun _ => none) 0 (some wb)))))))] ++ ([(sp, .inr (13, [.int kd, .int (nI pl), .long nu, .ref na, .int (nI nn), .ref ln, .ref lt, .ref mk]))] ++ ([(lt, .inr (6, [.ref qb, .int 1, .int (md + 1)]))] ++ ([(ln, .inr (6, [.ref qa, .int 1, .int (mc + 1)]))] ++ ([(mk, .inl (dA 1, kN, .inl (va_up fk 0 z)))] ++ (ws))))))) from List.Perm.append_left ([(qa, .inl (dA 7, 10, .inr (.inr (.inr (.inr (va_up (fun _ => none) 0 (some wa)))))))]) (List.Perm.append_left ([(qb, .inl (dA 7, 10, .inr (.inr (.inr (.inr (va_up (fun _ => none) 0 (some wb)))))))]) ((List.Perm.append_left ([(lt, .inr (6, [.ref qb, .int 1, .int (md + 1)]))]) (List.perm_append_comm_assoc ([(ln, .inr (6, [.ref qa, .int 1, .int (mc + 1)]))]) ([(sp, .inr (13, [.int kd, .int (nI pl), .long nu, .ref na, .int (nI nn), .ref ln, .ref lt, .ref mk]))]) ([(mk, .inl (dA 1, kN, .inl (va_up fk 0 z)))] ++ (ws)))).trans (List.perm_append_comm_assoc ([(lt, .inr (6, [.ref qb, .int 1, .int (md + 1)]))]) ([(sp, .inr (13, [.int kd, .int (nI pl), .long nu, .ref na, .int (nI nn), .ref ln, .ref lt, .ref mk]))]) ([(ln, .inr (6, [.ref qa, .int 1, .int (mc + 1)]))] ++ ([(mk, .inl (dA 1, kN, .inl (va_up fk 0 z)))] ++ (ws))))))) hP
  have hD := pmD (show List.Perm (α := Nat × va_E) ([(qa, .inl (dA 7, 10, .inr (.inr (.inr (.inr (va_up (fun _ => none) 0 (some wa)))))))] ++ ([(qb, .inl (dA 7, 10, .inr (.inr (.inr (.inr (va_up (fun _ => none) 0 (some wb)))))))] ++ ([(lt, .inr (6, [.ref qb, .int 1, .int (md + 1)]))] ++ ([(ln, .inr (6, [.ref qa, .int 1, .int (mc + 1)]))] ++ ([(sp, .inr (13, [.int kd, .int (nI pl), .long nu, .ref na, .int (nI nn), .ref ln, .ref lt, .ref mk]))] ++ ([(mk, .inl (dA 1, kN, .inl (va_up fk 0 z)))] ++ (ws))))))) ([(qa, .inl (dA 7, 10, .inr (.inr (.inr (.inr (va_up (fun _ => none) 0 (some wa)))))))] ++ ([(qb, .inl (dA 7, 10, .inr (.inr (.inr (.inr (va_up (fun _ => none) 0 (some wb)))))))] ++ ([(sp, .inr (13, [.int kd, .int (nI pl), .long nu, .ref na, .int (nI nn), .ref ln, .ref lt, .ref mk]))] ++ ([(lt, .inr (6, [.ref qb, .int 1, .int (md + 1)]))] ++ ([(ln, .inr (6, [.ref qa, .int 1, .int (mc + 1)]))] ++ ([(mk, .inl (dA 1, kN, .inl (va_up fk 0 z)))] ++ (ws))))))) from List.Perm.append_left ([(qa, .inl (dA 7, 10, .inr (.inr (.inr (.inr (va_up (fun _ => none) 0 (some wa)))))))]) (List.Perm.append_left ([(qb, .inl (dA 7, 10, .inr (.inr (.inr (.inr (va_up (fun _ => none) 0 (some wb)))))))]) ((List.Perm.append_left ([(lt, .inr (6, [.ref qb, .int 1, .int (md + 1)]))]) (List.perm_append_comm_assoc ([(ln, .inr (6, [.ref qa, .int 1, .int (mc + 1)]))]) ([(sp, .inr (13, [.int kd, .int (nI pl), .long nu, .ref na, .int (nI nn), .ref ln, .ref lt, .ref mk]))]) ([(mk, .inl (dA 1, kN, .inl (va_up fk 0 z)))] ++ (ws)))).trans (List.perm_append_comm_assoc ([(lt, .inr (6, [.ref qb, .int 1, .int (md + 1)]))]) ([(sp, .inr (13, [.int kd, .int (nI pl), .long nu, .ref na, .int (nI nn), .ref ln, .ref lt, .ref mk]))]) ([(ln, .inr (6, [.ref qa, .int 1, .int (mc + 1)]))] ++ ([(mk, .inl (dA 1, kN, .inl (va_up fk 0 z)))] ++ (ws))))))) hD
  have hP := pmP (show List.Perm (α := Nat × va_E) ([(qa, .inl (dA 7, 10, .inr (.inr (.inr (.inr (va_up (fun _ => none) 0 (some wa)))))))] ++ ([(qb, .inl (dA 7, 10, .inr (.inr (.inr (.inr (va_up (fun _ => none) 0 (some wb)))))))] ++ ([(sp, .inr (13, [.int kd, .int (nI pl), .long nu, .ref na, .int (nI nn), .ref ln, .ref lt, .ref mk]))] ++ ([(lt, .inr (6, [.ref qb, .int 1, .int (md + 1)]))] ++ ([(ln, .inr (6, [.ref qa, .int 1, .int (mc + 1)]))] ++ ([(mk, .inl (dA 1, kN, .inl (va_up fk 0 z)))] ++ (ws))))))) ([(qa, .inl (dA 7, 10, .inr (.inr (.inr (.inr (va_up (fun _ => none) 0 (some wa)))))))] ++ ([(qb, .inl (dA 7, 10, .inr (.inr (.inr (.inr (va_up (fun _ => none) 0 (some wb)))))))] ++ ([(sp, .inr (13, [.int kd, .int (nI pl), .long nu, .ref na, .int (nI nn), .ref ln, .ref lt, .ref mk]))] ++ ([(ln, .inr (6, [.ref qa, .int 1, .int (mc + 1)]))] ++ ([(lt, .inr (6, [.ref qb, .int 1, .int (md + 1)]))] ++ ([(mk, .inl (dA 1, kN, .inl (va_up fk 0 z)))] ++ (ws))))))) from List.Perm.append_left ([(qa, .inl (dA 7, 10, .inr (.inr (.inr (.inr (va_up (fun _ => none) 0 (some wa)))))))]) (List.Perm.append_left ([(qb, .inl (dA 7, 10, .inr (.inr (.inr (.inr (va_up (fun _ => none) 0 (some wb)))))))]) (List.Perm.append_left ([(sp, .inr (13, [.int kd, .int (nI pl), .long nu, .ref na, .int (nI nn), .ref ln, .ref lt, .ref mk]))]) (List.perm_append_comm_assoc ([(lt, .inr (6, [.ref qb, .int 1, .int (md + 1)]))]) ([(ln, .inr (6, [.ref qa, .int 1, .int (mc + 1)]))]) ([(mk, .inl (dA 1, kN, .inl (va_up fk 0 z)))] ++ (ws)))))) hP
  have hD := pmD (show List.Perm (α := Nat × va_E) ([(qa, .inl (dA 7, 10, .inr (.inr (.inr (.inr (va_up (fun _ => none) 0 (some wa)))))))] ++ ([(qb, .inl (dA 7, 10, .inr (.inr (.inr (.inr (va_up (fun _ => none) 0 (some wb)))))))] ++ ([(sp, .inr (13, [.int kd, .int (nI pl), .long nu, .ref na, .int (nI nn), .ref ln, .ref lt, .ref mk]))] ++ ([(lt, .inr (6, [.ref qb, .int 1, .int (md + 1)]))] ++ ([(ln, .inr (6, [.ref qa, .int 1, .int (mc + 1)]))] ++ ([(mk, .inl (dA 1, kN, .inl (va_up fk 0 z)))] ++ (ws))))))) ([(qa, .inl (dA 7, 10, .inr (.inr (.inr (.inr (va_up (fun _ => none) 0 (some wa)))))))] ++ ([(qb, .inl (dA 7, 10, .inr (.inr (.inr (.inr (va_up (fun _ => none) 0 (some wb)))))))] ++ ([(sp, .inr (13, [.int kd, .int (nI pl), .long nu, .ref na, .int (nI nn), .ref ln, .ref lt, .ref mk]))] ++ ([(ln, .inr (6, [.ref qa, .int 1, .int (mc + 1)]))] ++ ([(lt, .inr (6, [.ref qb, .int 1, .int (md + 1)]))] ++ ([(mk, .inl (dA 1, kN, .inl (va_up fk 0 z)))] ++ (ws))))))) from List.Perm.append_left ([(qa, .inl (dA 7, 10, .inr (.inr (.inr (.inr (va_up (fun _ => none) 0 (some wa)))))))]) (List.Perm.append_left ([(qb, .inl (dA 7, 10, .inr (.inr (.inr (.inr (va_up (fun _ => none) 0 (some wb)))))))]) (List.Perm.append_left ([(sp, .inr (13, [.int kd, .int (nI pl), .long nu, .ref na, .int (nI nn), .ref ln, .ref lt, .ref mk]))]) (List.perm_append_comm_assoc ([(lt, .inr (6, [.ref qb, .int 1, .int (md + 1)]))]) ([(ln, .inr (6, [.ref qa, .int 1, .int (mc + 1)]))]) ([(mk, .inl (dA 1, kN, .inl (va_up fk 0 z)))] ++ (ws)))))) hD
  exact rfV hx hb hr hlk hS (⟨qa, qb⟩) trivial hP hD (show 0 + 0 + 1 + 1 ≤ 2 by omega) (show 0 + 0 + 10 + 10 ≤ 20 by omega) d_E_addMatch_62
end
section
/-! The class behind a point met, field by field. -/
section MXE
variable (fn : Int32) (t : TB) (x : VS) (r w o : Nat) (tm v : Int64)
def mxT : Nat → Int64 := if fn = 4 ∨ fn = 5 then (if ccB fn t x r w o tm = true then va_up x.bT (r * x.awi + w) tm else x.bT) else x.bT
def mxO : Nat → Nat := if fn = 4 ∨ fn = 5 then (if ccB fn t x r w o tm = true then va_up x.bO (r * x.awi + w) o else x.bO) else x.bO
theorem meX_e : meX fn t x r w o tm v = VS.s_bO (VS.s_bT (VS.s_abf (VS.s_ahb x (va_up x.ahb o true)) (va_up x.abf o v)) (mxT fn t x r w o tm)) (mxO fn t x r w o tm) := by
  unfold meX mxT mxO
  by_cases h : fn = 4 ∨ fn = 5
  · rw [if_pos h, if_pos h, if_pos h]
    by_cases h2 : ccB fn t x r w o tm = true
    · rw [if_pos h2, if_pos h2, if_pos h2]; rfl
    · rw [if_neg h2, if_neg h2, if_neg h2]; rfl
  · rw [if_neg h, if_neg h, if_neg h]; rfl
theorem mxO_lt (h : ∀ k, x.bO k < 256) (ho : o < 256) : ∀ k, mxO fn t x r w o tm k < 256 := by
  intro k
  unfold mxO
  by_cases h1 : fn = 4 ∨ fn = 5
  · rw [if_pos h1]
    by_cases h2 : ccB fn t x r w o tm = true
    · rw [if_pos h2]
      unfold va_up
      by_cases e : k = r * x.awi + w
      · rw [if_pos e]; exact ho
      · rw [if_neg e]; exact h k
    · rw [if_neg h2]; exact h k
  · rw [if_neg h1]; exact h k
end MXE
section MTK
variable {fn : Int32} {t : TB} {x : VS} {r w o : Nat} {tm v : Int64}
theorem gwT_k {hb : Bool} {bf : Int64} : (gwT t hb bf v r w).wi = t.wi ∧ (gwT t hb bf v r w).rc = t.rc ∧ (gwT t hb bf v r w).cN = t.cN ∧ (gwT t hb bf v r w).rs = t.rs ∧ (gwT t hb bf v r w).nm = t.nm ∧ (gwT t hb bf v r w).nc = t.nc ∧ (gwT t hb bf v r w).cA = t.cA := by
  unfold gwT
  split
  · exact ⟨rfl, rfl, rfl, rfl, rfl, rfl, rfl⟩
  · exact ⟨rfl, rfl, rfl, rfl, rfl, rfl, rfl⟩
theorem mtT_k : (mtT fn t x r w o tm v).wi = t.wi ∧ (mtT fn t x r w o tm v).rc = t.rc ∧ (mtT fn t x r w o tm v).cN = t.cN ∧ (mtT fn t x r w o tm v).rs = t.rs ∧ (mtT fn t x r w o tm v).nm = t.nm ∧ (mtT fn t x r w o tm v).nc = t.nc ∧ (mtT fn t x r w o tm v).cA = t.cA := by
  unfold mtT
  split
  · exact gwT_k
  · split
    · split
      · exact ⟨rfl, rfl, rfl, rfl, rfl, rfl, rfl⟩
      · exact ⟨rfl, rfl, rfl, rfl, rfl, rfl, rfl⟩
    · exact ⟨rfl, rfl, rfl, rfl, rfl, rfl, rfl⟩
end MTK
/-- a finished step's cells make a step -/
theorem isStp_mk {dA : Nat → ClassId} {ws : va_W} {a na ln lt mk cap kN : Nat} {kd : Int32} {pc : Nat} {nu : Int64} {nn : Nat} {NL : Nat → List Int32} {n : Nat} {KD : Nat → Int32} {MN MT : Nat → List Int32} {fn : Nat → Option Nat} (h1 : (a, .inr (13, [.int kd, .int (nI pc), .long nu, .ref na, .int (nI nn), .ref ln, .ref lt, .ref mk])) ∈ ws) (h2 : (na, .inl (dA 6, cap, .inr (.inr (.inr (.inr fn))))) ∈ ws) (h3 : nn ≤ cap) (h4 : cap ≤ 6) (h5 : nmOk dA ws fn nn NL) (h6 : isLst dA ws ln n MN) (h7 : isLst dA ws lt n MT) (h8 : (mk, .inl (dA 1, kN, .inl KD)) ∈ ws) (h9 : n ≤ kN) (h10 : kN ≤ 262144) (h11 : ∀ i, i < n → isKd (KD i)) : isStp dA ws a kd pc nu nn NL n KD MN MT :=
  ⟨na, ln, lt, mk, cap, kN, fn, KD, h1, h2, h3, h4, h5, h6, h7, h8, h9, h10, fun i hi => ⟨rfl, h11 i hi⟩⟩
end
section
theorem d_A_table_0 : decode prog_2_method_2_code 0 = .ok (.aload_n 0, 1) := by decide +kernel
theorem d_A_table_1 : decode prog_2_method_2_code 1 = .ok (.getfield 12, 3) := by decide +kernel
theorem d_A_table_4 : decode prog_2_method_2_code 4 = .ok (.iconst 0, 1) := by decide +kernel
theorem d_A_table_5 : decode prog_2_method_2_code 5 = .ok (.invokevirtual 43, 3) := by decide +kernel
theorem d_A_table_8 : decode prog_2_method_2_code 8 = .ok (.checkcast 36, 3) := by decide +kernel
theorem d_A_table_11 : decode prog_2_method_2_code 11 = .ok (.areturn, 1) := by decide +kernel
theorem w1537 : Cond.methodLink "SeriesVault$Answers" 43 ⟨"java/util/ArrayList", "get", "(I)Ljava/lang/Object;"⟩ ∈ aW := aw_of (tb_3 (List.mem_of_getElem? (i := 32) rfl)) rfl
set_option maxHeartbeats 4000000 in
set_option maxRecDepth 100000 in
theorem v_Atable (l : Launch) (D : va_G) (dA : Nat → ClassId) (sz : Nat) (h : Nat) (ad : Nat → Nat) (ta : Nat → Nat) (t : TB) (la : Nat → Nat) (g : LI) (x : VS) (hla : la 0 = ad 25) (hs : g.sz ≤ g.eN) (hn : g.eN ≤ 65536) (h1 : 0 < g.sz) (hel : g.el 0 = some (ta 0)) : Met l ⟨"SeriesVault$Answers", "table", "()LSeriesVault$Table;"⟩ [Cond.code ⟨"SeriesVault$Answers", "table", "()LSeriesVault$Table;"⟩ prog_2_method_2_code 1 (some (FieldType.object "SeriesVault$Table"))] { frames := 4, cells := 0, slots := 0, locals := 64 } (pC D dA [.ref (ad 24)] (TbW dA ta t ++ (LiW dA la g ++ (VW dA h ad x))) sz) (va_Qr (fun (_ : Unit) => True) (fun (u9 : Unit) (r9 : Nat) t9 => (ta 0 = r9) ∧ bW D (va_A (TbW dA ta t ++ (LiW dA la g ++ (VW dA h ad x))) sz) (TbW dA ta t ++ (LiW dA la g ++ (VW dA h ad x))) t9) (va_A (TbW dA ta t ++ (LiW dA la g ++ (VW dA h ad x))) sz)) 0 0 (va_A (TbW dA ta t ++ (LiW dA la g ++ (VW dA h ad x))) sz) := by
  refine mkC (y := ⟨"SeriesVault$Answers", "table", "()LSeriesVault$Table;"⟩) (cc := prog_2_method_2_code) (maxL := 1) (av := [.ref (ad 24)]) (ws := TbW dA ta t ++ (LiW dA la g ++ (VW dA h ad x))) (sz := sz) (Qc := fun A => va_Qr (fun (_ : Unit) => True) (fun (u9 : Unit) (r9 : Nat) t9 => (ta 0 = r9) ∧ bW D A (TbW dA ta t ++ (LiW dA la g ++ (VW dA h ad x))) t9) A) (by decide) (Nat.le_of_ble_eq_true rfl) ?_
  intro A p e s m below meth c ls hsz hB
  obtain ⟨hx, hb, hr, hml, hown, hin, hlk, hE, hK, hP, hD, hS, hA, hN, hl⟩ := hB
  have hown : s.vm.findClass "SeriesVault$Answers" = some m.cls := hown
  have hl : lv_has ls 1 [(0, .ref (ad 24))] := hl
  obtain ⟨H, hH⟩ : ∃ z, z = s.heap := ⟨_, rfl⟩
  have hP : va_P D vwCl (TbW dA ta t ++ (LiW dA la g ++ (VW dA h ad x))) H := by rw [hH]; exact hP
  have hS : va_S A s.heap H [] := by rw [hH]; exact hS
  rw [← hH]
  refine lv_aload_n hx hb d_A_table_0 rfl (lv_at hl 0 rfl) ?_
  refine gF (v := .ref (ad 25)) hx hb hown hE hK hP 44 rfl rfl layA 0 (by decide) w799 rfl d_A_table_1 ?_
  rw [← hla]
  refine lv_iconst (v := 0) hx hb d_A_table_4 (by decide) ?_
  have hP := pmP (show List.Perm (α := Nat × va_E) (TbW dA ta t ++ (LiW dA la g ++ (VW dA h ad x))) (LiW dA la g ++ (TbW dA ta t ++ (VW dA h ad x))) from List.perm_append_comm_assoc (TbW dA ta t) (LiW dA la g) (VW dA h ad x)) hP
  have hD := pmD (show List.Perm (α := Nat × va_E) (TbW dA ta t ++ (LiW dA la g ++ (VW dA h ad x))) (LiW dA la g ++ (TbW dA ta t ++ (VW dA h ad x))) from List.perm_append_comm_assoc (TbW dA ta t) (LiW dA la g) (VW dA h ad x)) hD
  refine jkR (wr := []) (rnV (As := [.int 0]) (rest := []) hx hb hml hown hE hK (hN _ _ hS) hP hD (v_Lget l D dA H.size (TbW dA ta t ++ (VW dA h ad x)) la g 0 (ta 0) hs hn (show 0 < g.sz from by omega) hel) (q0 := 0) rfl rfl w1489 w1537 w1490 w1491 w680 rfl rfl ⟨⟨by decide, by decide⟩, rfl⟩ ⟨(Nat.le_of_ble_eq_true rfl), (Nat.le_of_ble_eq_true rfl)⟩ rfl hl.1 rfl (Nat.le_of_ble_eq_true rfl) d_A_table_5 ⟨(Nat.le_of_ble_eq_true rfl), (Nat.le_of_ble_eq_true rfl)⟩) hP hD hS hA (fun u2 r1 H locs hp9 hP hD hS => ?_)
  have hP : va_P D vwCl (LiW dA la g ++ (TbW dA ta t ++ (VW dA h ad x))) H := hP
  have hD : va_D A (LiW dA la g ++ (TbW dA ta t ++ (VW dA h ad x))) := hD
  have f_e_3 := hp9
  have e9 := f_e_3
  subst e9
  refine va_castE hx hb hown (hE.t w805 rfl) (va_recv hK hP (ci := 8) (q0 := 2) (q := ("SeriesVault$Table", TT, 7)) rfl rfl) d_A_table_8 ?_
  have hP := pmP (show List.Perm (α := Nat × va_E) (LiW dA la g ++ (TbW dA ta t ++ (VW dA h ad x))) (TbW dA ta t ++ (LiW dA la g ++ (VW dA h ad x))) from List.perm_append_comm_assoc (LiW dA la g) (TbW dA ta t) (VW dA h ad x)) hP
  have hD := pmD (show List.Perm (α := Nat × va_E) (LiW dA la g ++ (TbW dA ta t ++ (VW dA h ad x))) (TbW dA ta t ++ (LiW dA la g ++ (VW dA h ad x))) from List.perm_append_comm_assoc (LiW dA la g) (TbW dA ta t) (VW dA h ad x)) hD
  exact rkR hx hb hr (Or.inl ⟨_, rfl⟩) hlk hS () rfl hP hD (Nat.le_of_ble_eq_true rfl) (Nat.le_of_ble_eq_true rfl) d_A_table_11
theorem d_A_push_0 : decode prog_2_method_4_code 0 = .ok (.aload_n 0, 1) := by decide +kernel
theorem d_A_push_1 : decode prog_2_method_4_code 1 = .ok (.getfield 58, 3) := by decide +kernel
theorem d_A_push_4 : decode prog_2_method_4_code 4 = .ok (.aload_n 0, 1) := by decide +kernel
theorem d_A_push_5 : decode prog_2_method_4_code 5 = .ok (.getfield 12, 3) := by decide +kernel
theorem d_A_push_8 : decode prog_2_method_4_code 8 = .ok (.invokevirtual 66, 3) := by decide +kernel
theorem d_A_push_11 : decode prog_2_method_4_code 11 = .ok (.if_icmp .ne 18, 3) := by decide +kernel
theorem d_A_push_29 : decode prog_2_method_4_code 29 = .ok (.aload_n 0, 1) := by decide +kernel
theorem d_A_push_30 : decode prog_2_method_4_code 30 = .ok (.dup, 1) := by decide +kernel
theorem d_A_push_31 : decode prog_2_method_4_code 31 = .ok (.getfield 58, 3) := by decide +kernel
theorem d_A_push_34 : decode prog_2_method_4_code 34 = .ok (.iconst 1, 1) := by decide +kernel
theorem d_A_push_35 : decode prog_2_method_4_code 35 = .ok (.iadd, 1) := by decide +kernel
theorem d_A_push_36 : decode prog_2_method_4_code 36 = .ok (.putfield 58, 3) := by decide +kernel
theorem d_A_push_39 : decode prog_2_method_4_code 39 = .ok (.aload_n 0, 1) := by decide +kernel
theorem d_A_push_40 : decode prog_2_method_4_code 40 = .ok (.getfield 12, 3) := by decide +kernel
theorem d_A_push_43 : decode prog_2_method_4_code 43 = .ok (.aload_n 0, 1) := by decide +kernel
theorem d_A_push_44 : decode prog_2_method_4_code 44 = .ok (.getfield 58, 3) := by decide +kernel
theorem d_A_push_47 : decode prog_2_method_4_code 47 = .ok (.iconst 1, 1) := by decide +kernel
theorem d_A_push_48 : decode prog_2_method_4_code 48 = .ok (.isub, 1) := by decide +kernel
theorem d_A_push_49 : decode prog_2_method_4_code 49 = .ok (.invokevirtual 43, 3) := by decide +kernel
theorem d_A_push_52 : decode prog_2_method_4_code 52 = .ok (.checkcast 36, 3) := by decide +kernel
theorem d_A_push_55 : decode prog_2_method_4_code 55 = .ok (.areturn, 1) := by decide +kernel
theorem w1538 : Cond.fieldLink "SeriesVault$Answers" 58 "SeriesVault$Answers" "depth" "I" ∈ aW := aw_of (tb_2 (List.mem_of_getElem? (i := 150) rfl)) rfl
theorem w1539 : Cond.methodLink "SeriesVault$Answers" 66 ⟨"java/util/ArrayList", "size", "()I"⟩ ∈ aW := aw_of (tb_7 (List.mem_of_getElem? (i := 134) rfl)) rfl
set_option maxHeartbeats 4000000 in
set_option maxRecDepth 100000 in
theorem v_push_0 (l : Launch) (D : va_G) (dA : Nat → ClassId) (sz : Nat) (h : Nat) (ad : Nat → Nat) (ta : Nat → Nat) (t : TB) (la : Nat → Nat) (g : LI) (x : VS) (hla : la 0 = ad 25) (hs : g.sz ≤ g.eN) (hn : g.eN ≤ 65536) (h1 : x.adep < g.sz) (hel : g.el x.adep = some (ta 0)) : Met l ⟨"SeriesVault$Answers", "push", "()LSeriesVault$Table;"⟩ [Cond.code ⟨"SeriesVault$Answers", "push", "()LSeriesVault$Table;"⟩ prog_2_method_4_code 1 (some (FieldType.object "SeriesVault$Table"))] { frames := 4, cells := 0, slots := 0, locals := 64 } (pC D dA [.ref (ad 24)] (TbW dA ta t ++ (LiW dA la g ++ (VW dA h ad x))) sz) (va_Qr (fun (_ : Unit) => True) (fun (u9 : Unit) (r9 : Nat) t9 => (ta 0 = r9) ∧ bW D (va_A (TbW dA ta t ++ (LiW dA la g ++ (VW dA h ad x))) sz) (TbW dA ta t ++ (LiW dA la g ++ (VW dA h ad (VS.s_adep x (x.adep + 1))))) t9) (va_A (TbW dA ta t ++ (LiW dA la g ++ (VW dA h ad x))) sz)) 0 0 (va_A (TbW dA ta t ++ (LiW dA la g ++ (VW dA h ad x))) sz) := by
  refine mkC (y := ⟨"SeriesVault$Answers", "push", "()LSeriesVault$Table;"⟩) (cc := prog_2_method_4_code) (maxL := 1) (av := [.ref (ad 24)]) (ws := TbW dA ta t ++ (LiW dA la g ++ (VW dA h ad x))) (sz := sz) (Qc := fun A => va_Qr (fun (_ : Unit) => True) (fun (u9 : Unit) (r9 : Nat) t9 => (ta 0 = r9) ∧ bW D A (TbW dA ta t ++ (LiW dA la g ++ (VW dA h ad (VS.s_adep x (x.adep + 1))))) t9) A) (by decide) (Nat.le_of_ble_eq_true rfl) ?_
  intro A p e s m below meth c ls hsz hB
  obtain ⟨hx, hb, hr, hml, hown, hin, hlk, hE, hK, hP, hD, hS, hA, hN, hl⟩ := hB
  have hown : s.vm.findClass "SeriesVault$Answers" = some m.cls := hown
  have hl : lv_has ls 1 [(0, .ref (ad 24))] := hl
  obtain ⟨H, hH⟩ : ∃ z, z = s.heap := ⟨_, rfl⟩
  have hP : va_P D vwCl (TbW dA ta t ++ (LiW dA la g ++ (VW dA h ad x))) H := by rw [hH]; exact hP
  have hS : va_S A s.heap H [] := by rw [hH]; exact hS
  rw [← hH]
  refine lv_aload_n hx hb d_A_push_0 rfl (lv_at hl 0 rfl) ?_
  refine gF (v := .int (nI x.adep)) hx hb hown hE hK hP 44 rfl rfl layA 1 (by decide) w1538 rfl d_A_push_1 ?_
  refine lv_aload_n hx hb d_A_push_4 rfl (lv_at hl 0 rfl) ?_
  refine gF (v := .ref (ad 25)) hx hb hown hE hK hP 44 rfl rfl layA 0 (by decide) w799 rfl d_A_push_5 ?_
  rw [← hla]
  have hP := pmP (show List.Perm (α := Nat × va_E) (TbW dA ta t ++ (LiW dA la g ++ (VW dA h ad x))) (LiW dA la g ++ (TbW dA ta t ++ (VW dA h ad x))) from List.perm_append_comm_assoc (TbW dA ta t) (LiW dA la g) (VW dA h ad x)) hP
  have hD := pmD (show List.Perm (α := Nat × va_E) (TbW dA ta t ++ (LiW dA la g ++ (VW dA h ad x))) (LiW dA la g ++ (TbW dA ta t ++ (VW dA h ad x))) from List.perm_append_comm_assoc (TbW dA ta t) (LiW dA la g) (VW dA h ad x)) hD
  refine jkI (wr := []) (rnV (As := []) (rest := [.int (nI x.adep)]) hx hb hml hown hE hK (hN _ _ hS) hP hD (v_Lsize l D dA H.size (TbW dA ta t ++ (VW dA h ad x)) la g) (q0 := 0) rfl rfl w1484 w1539 w1485 w1486 w680 rfl rfl ⟨⟨by decide, by decide⟩, rfl⟩ ⟨(Nat.le_of_ble_eq_true rfl), (Nat.le_of_ble_eq_true rfl)⟩ rfl hl.1 rfl (Nat.le_of_ble_eq_true rfl) d_A_push_8 ⟨(Nat.le_of_ble_eq_true rfl), (Nat.le_of_ble_eq_true rfl)⟩) hP hD hS hA (fun r1 u2 H locs hp9 hP hD hS => ?_)
  have hP : va_P D vwCl (LiW dA la g ++ (TbW dA ta t ++ (VW dA h ad x))) H := hP
  have hD : va_D A (LiW dA la g ++ (TbW dA ta t ++ (VW dA h ad x))) := hD
  replace hp9 : nI g.sz = r1 := Eq.symm hp9
  subst hp9
  refine lv_icmp_ne hx hb d_A_push_11 (tgt := 29) rfl (fun g3 => ?_) (fun g3 => ?_)
  rotate_left
  · have g3 := (nI_eq (a := x.adep) (b := g.sz) (by omega) (by omega)).mp g3; exfalso; omega
  have g3 := mt (nI_eq (a := x.adep) (b := g.sz) (by omega) (by omega)).mpr g3
  refine lv_aload_n hx hb d_A_push_29 rfl (lv_at hl 0 rfl) ?_
  refine lv_dup hx hb d_A_push_30 rfl ?_
  refine gF (v := .int (nI x.adep)) hx hb hown hE hK hP 44 rfl rfl layA 1 (by decide) w1538 rfl d_A_push_31 ?_
  refine lv_iconst (v := 1) hx hb d_A_push_34 (by decide) ?_
  refine lv_iadd hx hb d_A_push_35 (tpi (y := nI (x.adep + 1)) (nI_add (x.adep) (1)) ?_)
  refine pF (v := .int (nI (x.adep + 1))) hx hb hown hE hK hP hD hS 44 rfl rfl layA tyA tokA nmA 1 (by decide) w1538 rfl rfl rfl (Nat.le_of_ble_eq_true rfl) d_A_push_36 (fun H locs hP hD hS => ?_)
  have hP : va_P D vwCl (LiW dA la g ++ (TbW dA ta t ++ (VW dA h ad (VS.s_adep x (x.adep + 1))))) H := hP
  have hD : va_D A (LiW dA la g ++ (TbW dA ta t ++ (VW dA h ad (VS.s_adep x (x.adep + 1))))) := hD
  refine lv_aload_n hx hb d_A_push_39 rfl (lv_at hl 0 rfl) ?_
  refine gF (v := .ref (ad 25)) hx hb hown hE hK hP 44 rfl rfl layA 0 (by decide) w799 rfl d_A_push_40 ?_
  rw [← hla]
  refine lv_aload_n hx hb d_A_push_43 rfl (lv_at hl 0 rfl) ?_
  refine gF (v := .int (nI (x.adep + 1))) hx hb hown hE hK hP 44 rfl rfl layA 1 (by decide) w1538 rfl d_A_push_44 ?_
  refine lv_iconst (v := 1) hx hb d_A_push_47 (by decide) ?_
  refine lv_isub hx hb d_A_push_48 (tpi (y := nI ((x.adep + 1) - 1)) (pk_sub (a := x.adep + 1) (b := 1) (by omega)) ?_)
  refine jkR (wr := []) (rnV (As := [.int (nI ((x.adep + 1) - 1))]) (rest := []) hx hb hml hown hE hK (hN _ _ hS) hP hD (v_Lget l D dA H.size (TbW dA ta t ++ (VW dA h ad (VS.s_adep x (x.adep + 1)))) la g ((x.adep + 1) - 1) (ta 0) hs hn (show ((x.adep + 1) - 1) < g.sz from by omega) (show g.el (x.adep + 1 - 1) = some (ta 0) by rw [show x.adep + 1 - 1 = x.adep by omega]; exact hel)) (q0 := 0) rfl rfl w1489 w1537 w1490 w1491 w680 rfl rfl ⟨⟨by decide, by decide⟩, rfl⟩ ⟨(Nat.le_of_ble_eq_true rfl), (Nat.le_of_ble_eq_true rfl)⟩ rfl hl.1 rfl (Nat.le_of_ble_eq_true rfl) d_A_push_49 ⟨(Nat.le_of_ble_eq_true rfl), (Nat.le_of_ble_eq_true rfl)⟩) hP hD hS hA (fun u5 r4 H locs hp9 hP hD hS => ?_)
  have hP : va_P D vwCl (LiW dA la g ++ (TbW dA ta t ++ (VW dA h ad (VS.s_adep x (x.adep + 1))))) H := hP
  have hD : va_D A (LiW dA la g ++ (TbW dA ta t ++ (VW dA h ad (VS.s_adep x (x.adep + 1))))) := hD
  have f_e_6 := hp9
  have e9 := f_e_6
  subst e9
  refine va_castE hx hb hown (hE.t w805 rfl) (va_recv hK hP (ci := 8) (q0 := 2) (q := ("SeriesVault$Table", TT, 7)) rfl rfl) d_A_push_52 ?_
  have hP := pmP (show List.Perm (α := Nat × va_E) (LiW dA la g ++ (TbW dA ta t ++ (VW dA h ad (VS.s_adep x (x.adep + 1))))) (TbW dA ta t ++ (LiW dA la g ++ (VW dA h ad (VS.s_adep x (x.adep + 1))))) from List.perm_append_comm_assoc (LiW dA la g) (TbW dA ta t) (VW dA h ad (VS.s_adep x (x.adep + 1)))) hP
  have hD := pmD (show List.Perm (α := Nat × va_E) (LiW dA la g ++ (TbW dA ta t ++ (VW dA h ad (VS.s_adep x (x.adep + 1))))) (TbW dA ta t ++ (LiW dA la g ++ (VW dA h ad (VS.s_adep x (x.adep + 1))))) from List.perm_append_comm_assoc (LiW dA la g) (TbW dA ta t) (VW dA h ad (VS.s_adep x (x.adep + 1)))) hD
  exact rkR hx hb hr (Or.inl ⟨_, rfl⟩) hlk hS () rfl hP hD (Nat.le_of_ble_eq_true rfl) (Nat.le_of_ble_eq_true rfl) d_A_push_55
end
section
theorem d_A_push_14 : decode prog_2_method_4_code 14 = .ok (.aload_n 0, 1) := by decide +kernel
theorem d_A_push_15 : decode prog_2_method_4_code 15 = .ok (.getfield 12, 3) := by decide +kernel
theorem d_A_push_18 : decode prog_2_method_4_code 18 = .ok (.new 36, 3) := by decide +kernel
theorem d_A_push_21 : decode prog_2_method_4_code 21 = .ok (.dup, 1) := by decide +kernel
theorem d_A_push_22 : decode prog_2_method_4_code 22 = .ok (.invokespecial 38, 3) := by decide +kernel
theorem d_A_push_25 : decode prog_2_method_4_code 25 = .ok (.invokevirtual 39, 3) := by decide +kernel
theorem d_A_push_28 : decode prog_2_method_4_code 28 = .ok (.pop, 1) := by decide +kernel
set_option maxHeartbeats 4000000 in
set_option maxRecDepth 100000 in
theorem v_push_r (l : Launch) (D : va_G) (dA : Nat → ClassId) (sz : Nat) (h : Nat) (ad : Nat → Nat) (la : Nat → Nat) (g : LI) (x : VS) (hla : la 0 = ad 25) (hn : g.eN ≤ 65536) (h1 : x.adep = g.sz) (h2 : g.sz < g.eN) : Met l ⟨"SeriesVault$Answers", "push", "()LSeriesVault$Table;"⟩ [Cond.code ⟨"SeriesVault$Answers", "push", "()LSeriesVault$Table;"⟩ prog_2_method_4_code 1 (some (FieldType.object "SeriesVault$Table"))] { frames := 4, cells := 5, slots := 589, locals := 64 } (pC D dA [.ref (ad 24)] (LiW dA la g ++ (VW dA h ad x)) sz) (va_Qr (fun (_ : (Nat → Nat) × TB) => True) (fun (u9 : (Nat → Nat) × TB) (r9 : Nat) t9 => (u9.1 0 = r9 ∧ u9.2 = tb0 u9.2.cA) ∧ bW D (va_A (LiW dA la g ++ (VW dA h ad x)) sz) (TbW dA u9.1 u9.2 ++ (LiW dA la (LI.s_el (LI.s_mc (LI.s_sz g (g.sz + 1)) (g.mc + 1)) (va_up g.el g.sz (some (u9.1 0)))) ++ (VW dA h ad (VS.s_adep x (x.adep + 1))))) t9) (va_A (LiW dA la g ++ (VW dA h ad x)) sz)) 5 589 (va_A (LiW dA la g ++ (VW dA h ad x)) sz) := by
  refine mkC (y := ⟨"SeriesVault$Answers", "push", "()LSeriesVault$Table;"⟩) (cc := prog_2_method_4_code) (maxL := 1) (av := [.ref (ad 24)]) (ws := LiW dA la g ++ (VW dA h ad x)) (sz := sz) (Qc := fun A => va_Qr (fun (_ : (Nat → Nat) × TB) => True) (fun (u9 : (Nat → Nat) × TB) (r9 : Nat) t9 => (u9.1 0 = r9 ∧ u9.2 = tb0 u9.2.cA) ∧ bW D A (TbW dA u9.1 u9.2 ++ (LiW dA la (LI.s_el (LI.s_mc (LI.s_sz g (g.sz + 1)) (g.mc + 1)) (va_up g.el g.sz (some (u9.1 0)))) ++ (VW dA h ad (VS.s_adep x (x.adep + 1))))) t9) A) (by decide) (Nat.le_of_ble_eq_true rfl) ?_
  intro A p e s m below meth c ls hsz hB
  obtain ⟨hx, hb, hr, hml, hown, hin, hlk, hE, hK, hP, hD, hS, hA, hN, hl⟩ := hB
  have hown : s.vm.findClass "SeriesVault$Answers" = some m.cls := hown
  have hl : lv_has ls 1 [(0, .ref (ad 24))] := hl
  obtain ⟨H, hH⟩ : ∃ z, z = s.heap := ⟨_, rfl⟩
  have hP : va_P D vwCl (LiW dA la g ++ (VW dA h ad x)) H := by rw [hH]; exact hP
  have hS : va_S A s.heap H [] := by rw [hH]; exact hS
  rw [← hH]
  refine lv_aload_n hx hb d_A_push_0 rfl (lv_at hl 0 rfl) ?_
  refine gF (v := .int (nI x.adep)) hx hb hown hE hK hP 39 rfl rfl layA 1 (by decide) w1538 rfl d_A_push_1 ?_
  refine lv_aload_n hx hb d_A_push_4 rfl (lv_at hl 0 rfl) ?_
  refine gF (v := .ref (ad 25)) hx hb hown hE hK hP 39 rfl rfl layA 0 (by decide) w799 rfl d_A_push_5 ?_
  rw [← hla]
  refine jkI (wr := []) (rnV (As := []) (rest := [.int (nI x.adep)]) hx hb hml hown hE hK (hN _ _ hS) hP hD (v_Lsize l D dA H.size (VW dA h ad x) la g) (q0 := 0) rfl rfl w1484 w1539 w1485 w1486 w680 rfl rfl ⟨⟨by decide, by decide⟩, rfl⟩ ⟨(Nat.le_of_ble_eq_true rfl), (Nat.le_of_ble_eq_true rfl)⟩ rfl hl.1 rfl (Nat.le_of_ble_eq_true rfl) d_A_push_8 ⟨(show 0 + 0 ≤ 5 by omega), (show 0 + 0 ≤ 589 by omega)⟩) hP hD hS hA (fun r1 u2 H locs hp9 hP hD hS => ?_)
  have hP : va_P D vwCl (LiW dA la g ++ (VW dA h ad x)) H := hP
  have hD : va_D A (LiW dA la g ++ (VW dA h ad x)) := hD
  replace hp9 : nI g.sz = r1 := Eq.symm hp9
  subst hp9
  refine lv_icmp_ne hx hb d_A_push_11 (tgt := 29) rfl (fun h9 => absurd ((nI_eq (a := x.adep) (b := g.sz) (by omega) (by omega)).mpr h1) h9) (fun _ => ?_)
  refine lv_aload_n hx hb d_A_push_14 rfl (lv_at hl 0 rfl) ?_
  refine gF (v := .ref (ad 25)) hx hb hown hE hK hP 39 rfl rfl layA 0 (by decide) w799 rfl d_A_push_15 ?_
  rw [← hla]
  refine nOf hx hb hown hE hK hP hD hS hA (ci := 8) rfl layT tyT tokT w805 w806 w807 (fs := [.null, .int 0, .int 0, .int 0, .null, .null, .null]) dfT (show (0 + 0) + 1 ≤ 5 by omega) (show (0 + 0) + 7 ≤ 589 by omega) d_A_push_18 (fun ob H hP hD hS => ?_)
  have hP : va_P D vwCl ([(ob, .inr (8, [.null, .int 0, .int 0, .int 0, .null, .null, .null]))] ++ (LiW dA la g ++ (VW dA h ad x))) H := hP
  have hD : va_D A ([(ob, .inr (8, [.null, .int 0, .int 0, .int 0, .null, .null, .null]))] ++ (LiW dA la g ++ (VW dA h ad x))) := hD
  refine lv_dup hx hb d_A_push_21 rfl ?_
  refine jkV (wr := []) (rnI (As := []) (rest := [.ref ob, .ref (la 0)]) hx hb hml hown hE hK (hN _ _ hS) hP hD (v_Tinit l D dA H.size (LiW dA la g ++ (VW dA h ad x)) ob) w809 w808 w810 w807 rfl rfl rfl ⟨⟨by decide, by decide⟩, rfl⟩ ⟨(Nat.le_of_ble_eq_true rfl), (Nat.le_of_ble_eq_true rfl)⟩ rfl hl.1 rfl (Nat.le_of_ble_eq_true rfl) d_A_push_22 ⟨(show 0 + 0 + 1 + 4 ≤ 5 by omega), (show 0 + 0 + 7 + 582 ≤ 589 by omega)⟩) hP hD hS hA (fun u4 H locs hp9 hP hD hS => ?_)
  obtain ⟨tq, y⟩ := u4
  have hP : va_P D vwCl (TbW dA tq y ++ (LiW dA la g ++ (VW dA h ad x))) H := hP
  have hD : va_D A (TbW dA tq y ++ (LiW dA la g ++ (VW dA h ad x))) := hD
  obtain ⟨f_ta_5, f_e_6⟩ := hp9
  have e9 : tq 0 = ob := f_ta_5
  rw [← e9]
  have hP := pmP (show List.Perm (α := Nat × va_E) (TbW dA tq y ++ (LiW dA la g ++ (VW dA h ad x))) (LiW dA la g ++ (TbW dA tq y ++ (VW dA h ad x))) from List.perm_append_comm_assoc (TbW dA tq y) (LiW dA la g) (VW dA h ad x)) hP
  have hD := pmD (show List.Perm (α := Nat × va_E) (TbW dA tq y ++ (LiW dA la g ++ (VW dA h ad x))) (LiW dA la g ++ (TbW dA tq y ++ (VW dA h ad x))) from List.perm_append_comm_assoc (TbW dA tq y) (LiW dA la g) (VW dA h ad x)) hD
  refine jkI (wr := []) (rnV (As := [.ref (tq 0)]) (rest := []) hx hb hml hown hE hK (hN _ _ hS) hP hD (v_Ladd_T l D dA H.size (TbW dA tq y ++ (VW dA h ad x)) la g (tq 0) ([.ref (tq 1), .int (nI y.nc), .int (nI y.wi), .int (nI y.rc), .ref (tq 2), .ref (tq 3), .ref y.cA]) (show g.sz < g.eN from by omega) (show g.eN ≤ 65536 from by omega) (List.mem_of_getElem? (i := 0) rfl)) (q0 := 0) rfl rfl w812 w811 w813 w814 w680 rfl rfl ⟨⟨by decide, by decide⟩, rfl⟩ ⟨(Nat.le_of_ble_eq_true rfl), (Nat.le_of_ble_eq_true rfl)⟩ rfl hl.1 rfl (Nat.le_of_ble_eq_true rfl) d_A_push_25 ⟨(show 0 + 0 + 1 + 4 + 0 ≤ 5 by omega), (show 0 + 0 + 7 + 582 + 0 ≤ 589 by omega)⟩) hP hD hS hA (fun r7 u8 H locs hp9 hP hD hS => ?_)
  have hP : va_P D vwCl (LiW dA la (LI.s_el (LI.s_mc (LI.s_sz g (g.sz + 1)) (g.mc + 1)) (va_up g.el g.sz (some (tq 0)))) ++ (TbW dA tq y ++ (VW dA h ad x))) H := hP
  have hD : va_D A (LiW dA la (LI.s_el (LI.s_mc (LI.s_sz g (g.sz + 1)) (g.mc + 1)) (va_up g.el g.sz (some (tq 0)))) ++ (TbW dA tq y ++ (VW dA h ad x))) := hD
  replace hp9 : 1 = r7 := Eq.symm hp9
  subst hp9
  refine lv_pop hx hb d_A_push_28 rfl ?_
  refine lv_aload_n hx hb d_A_push_29 rfl (lv_at hl 0 rfl) ?_
  refine lv_dup hx hb d_A_push_30 rfl ?_
  refine gF (v := .int (nI x.adep)) hx hb hown hE hK hP 44 rfl rfl layA 1 (by decide) w1538 rfl d_A_push_31 ?_
  refine lv_iconst (v := 1) hx hb d_A_push_34 (by decide) ?_
  refine lv_iadd hx hb d_A_push_35 (tpi (y := nI (x.adep + 1)) (nI_add (x.adep) (1)) ?_)
  refine pF (v := .int (nI (x.adep + 1))) hx hb hown hE hK hP hD hS 44 rfl rfl layA tyA tokA nmA 1 (by decide) w1538 rfl rfl rfl (Nat.le_of_ble_eq_true rfl) d_A_push_36 (fun H locs hP hD hS => ?_)
  have hP : va_P D vwCl (LiW dA la (LI.s_el (LI.s_mc (LI.s_sz g (g.sz + 1)) (g.mc + 1)) (va_up g.el g.sz (some (tq 0)))) ++ (TbW dA tq y ++ (VW dA h ad (VS.s_adep x (x.adep + 1))))) H := hP
  have hD : va_D A (LiW dA la (LI.s_el (LI.s_mc (LI.s_sz g (g.sz + 1)) (g.mc + 1)) (va_up g.el g.sz (some (tq 0)))) ++ (TbW dA tq y ++ (VW dA h ad (VS.s_adep x (x.adep + 1))))) := hD
  refine lv_aload_n hx hb d_A_push_39 rfl (lv_at hl 0 rfl) ?_
  refine gF (v := .ref (ad 25)) hx hb hown hE hK hP 44 rfl rfl layA 0 (by decide) w799 rfl d_A_push_40 ?_
  rw [← hla]
  refine lv_aload_n hx hb d_A_push_43 rfl (lv_at hl 0 rfl) ?_
  refine gF (v := .int (nI (x.adep + 1))) hx hb hown hE hK hP 44 rfl rfl layA 1 (by decide) w1538 rfl d_A_push_44 ?_
  refine lv_iconst (v := 1) hx hb d_A_push_47 (by decide) ?_
  refine lv_isub hx hb d_A_push_48 (tpi (y := nI ((x.adep + 1) - 1)) (pk_sub (a := x.adep + 1) (b := 1) (by omega)) ?_)
  refine jkR (wr := []) (rnV (As := [.int (nI ((x.adep + 1) - 1))]) (rest := []) hx hb hml hown hE hK (hN _ _ hS) hP hD (v_Lget l D dA H.size (TbW dA tq y ++ (VW dA h ad (VS.s_adep x (x.adep + 1)))) la (LI.s_el (LI.s_mc (LI.s_sz g (g.sz + 1)) (g.mc + 1)) (va_up g.el g.sz (some (tq 0)))) ((x.adep + 1) - 1) (tq 0) (show (g.sz + 1) ≤ g.eN from by omega) (show g.eN ≤ 65536 from by omega) (show ((x.adep + 1) - 1) < (g.sz + 1) from by omega) (by rw [show x.adep + 1 - 1 = g.sz by omega]; exact if_pos rfl)) (q0 := 0) rfl rfl w1489 w1537 w1490 w1491 w680 rfl rfl ⟨⟨by decide, by decide⟩, rfl⟩ ⟨(Nat.le_of_ble_eq_true rfl), (Nat.le_of_ble_eq_true rfl)⟩ rfl hl.1 rfl (Nat.le_of_ble_eq_true rfl) d_A_push_49 ⟨(show 0 + 0 + 1 + 4 + 0 + 0 ≤ 5 by omega), (show 0 + 0 + 7 + 582 + 0 + 0 ≤ 589 by omega)⟩) hP hD hS hA (fun u10 r9 H locs hp9 hP hD hS => ?_)
  have hP : va_P D vwCl (LiW dA la (LI.s_el (LI.s_mc (LI.s_sz g (g.sz + 1)) (g.mc + 1)) (va_up g.el g.sz (some (tq 0)))) ++ (TbW dA tq y ++ (VW dA h ad (VS.s_adep x (x.adep + 1))))) H := hP
  have hD : va_D A (LiW dA la (LI.s_el (LI.s_mc (LI.s_sz g (g.sz + 1)) (g.mc + 1)) (va_up g.el g.sz (some (tq 0)))) ++ (TbW dA tq y ++ (VW dA h ad (VS.s_adep x (x.adep + 1))))) := hD
  have f_e_11 := hp9
  have e9 := f_e_11
  subst e9
  refine va_castE hx hb hown (hE.t w805 rfl) (va_recv hK hP (ci := 8) (q0 := 2) (q := ("SeriesVault$Table", TT, 7)) rfl rfl) d_A_push_52 ?_
  have hP := pmP (show List.Perm (α := Nat × va_E) (LiW dA la (LI.s_el (LI.s_mc (LI.s_sz g (g.sz + 1)) (g.mc + 1)) (va_up g.el g.sz (some (tq 0)))) ++ (TbW dA tq y ++ (VW dA h ad (VS.s_adep x (x.adep + 1))))) (TbW dA tq y ++ (LiW dA la (LI.s_el (LI.s_mc (LI.s_sz g (g.sz + 1)) (g.mc + 1)) (va_up g.el g.sz (some (tq 0)))) ++ (VW dA h ad (VS.s_adep x (x.adep + 1))))) from List.perm_append_comm_assoc (LiW dA la (LI.s_el (LI.s_mc (LI.s_sz g (g.sz + 1)) (g.mc + 1)) (va_up g.el g.sz (some (tq 0))))) (TbW dA tq y) (VW dA h ad (VS.s_adep x (x.adep + 1)))) hP
  have hD := pmD (show List.Perm (α := Nat × va_E) (LiW dA la (LI.s_el (LI.s_mc (LI.s_sz g (g.sz + 1)) (g.mc + 1)) (va_up g.el g.sz (some (tq 0)))) ++ (TbW dA tq y ++ (VW dA h ad (VS.s_adep x (x.adep + 1))))) (TbW dA tq y ++ (LiW dA la (LI.s_el (LI.s_mc (LI.s_sz g (g.sz + 1)) (g.mc + 1)) (va_up g.el g.sz (some (tq 0)))) ++ (VW dA h ad (VS.s_adep x (x.adep + 1))))) from List.perm_append_comm_assoc (LiW dA la (LI.s_el (LI.s_mc (LI.s_sz g (g.sz + 1)) (g.mc + 1)) (va_up g.el g.sz (some (tq 0))))) (TbW dA tq y) (VW dA h ad (VS.s_adep x (x.adep + 1)))) hD
  exact rkR hx hb hr (Or.inl ⟨_, rfl⟩) hlk hS (⟨tq, y⟩) ⟨rfl, f_e_6⟩ hP hD (show 0 + 0 + 1 + 4 + 0 + 0 ≤ 5 by omega) (show 0 + 0 + 7 + 582 + 0 + 0 ≤ 589 by omega) d_A_push_55
end
section
set_option maxHeartbeats 4000000 in
set_option maxRecDepth 100000 in
theorem v_push_g (l : Launch) (D : va_G) (dA : Nat → ClassId) (sz : Nat) (e0 mi : Nat) (h : Nat) (ad : Nat → Nat) (la : Nat → Nat) (g : LI) (x : VS) (hla : la 0 = ad 25) (hn : g.eN ≤ 65536) (h1 : x.adep = g.sz) (hel : ∀ i : Nat, i < g.eN → ∀ y : Nat, g.el i = some y → ∃ vs : List Value, (y, .inr (8, vs)) ∈ VW dA h ad x) (h2 : 0 < g.eN) (h3 : g.sz = g.eN) (h4 : g.eN ≤ 4096) : Met l ⟨"SeriesVault$Answers", "push", "()LSeriesVault$Table;"⟩ [Cond.code ⟨"SeriesVault$Answers", "push", "()LSeriesVault$Table;"⟩ prog_2_method_4_code 1 (some (FieldType.object "SeriesVault$Table"))] { frames := 7, cells := 6, slots := 589 + (g.eN + max 1 (g.eN / 2)), locals := 171 } (pCy D dA e0 mi [.ref (ad 24)] (LiW dA la g ++ (VW dA h ad x)) sz) (va_Qr (fun (_ : (Nat → Nat) × TB × Nat) => True) (fun (u9 : (Nat → Nat) × TB × Nat) (r9 : Nat) t9 => (u9.1 0 = r9 ∧ u9.2.1 = tb0 u9.2.1.cA) ∧ bW D (va_A (LiW dA la g ++ (VW dA h ad x)) sz) (TbW dA u9.1 u9.2.1 ++ (LiW dA la (LI.s_el (LI.s_eN (LI.s_eA (LI.s_mc (LI.s_sz g (g.sz + 1)) (g.mc + 1)) u9.2.2) (g.eN + max 1 (g.eN / 2))) (va_up (cpF g.el g.eN) g.sz (some (u9.1 0)))) ++ (VW dA h ad (VS.s_adep x (x.adep + 1))))) t9) (va_A (LiW dA la g ++ (VW dA h ad x)) sz)) 6 (589 + (g.eN + max 1 (g.eN / 2))) (va_A (LiW dA la g ++ (VW dA h ad x)) sz) := by
  refine mkY (y := ⟨"SeriesVault$Answers", "push", "()LSeriesVault$Table;"⟩) (cc := prog_2_method_4_code) (maxL := 1) (av := [.ref (ad 24)]) (ws := LiW dA la g ++ (VW dA h ad x)) (sz := sz) (Qc := fun A => va_Qr (fun (_ : (Nat → Nat) × TB × Nat) => True) (fun (u9 : (Nat → Nat) × TB × Nat) (r9 : Nat) t9 => (u9.1 0 = r9 ∧ u9.2.1 = tb0 u9.2.1.cA) ∧ bW D A (TbW dA u9.1 u9.2.1 ++ (LiW dA la (LI.s_el (LI.s_eN (LI.s_eA (LI.s_mc (LI.s_sz g (g.sz + 1)) (g.mc + 1)) u9.2.2) (g.eN + max 1 (g.eN / 2))) (va_up (cpF g.el g.eN) g.sz (some (u9.1 0)))) ++ (VW dA h ad (VS.s_adep x (x.adep + 1))))) t9) A) (by decide) (Nat.le_of_ble_eq_true rfl) ?_
  intro A p e s m below meth c ls hsz hZ hT hM hB
  obtain ⟨hx, hb, hr, hml, hown, hin, hlk, hE, hK, hP, hD, hS, hA, hN, hl⟩ := hB
  have hown : s.vm.findClass "SeriesVault$Answers" = some m.cls := hown
  have hl : lv_has ls 1 [(0, .ref (ad 24))] := hl
  obtain ⟨H, hH⟩ : ∃ z, z = s.heap := ⟨_, rfl⟩
  have hP : va_P D vwCl (LiW dA la g ++ (VW dA h ad x)) H := by rw [hH]; exact hP
  have hS : va_S A s.heap H [] := by rw [hH]; exact hS
  rw [← hH]
  refine lv_aload_n hx hb d_A_push_0 rfl (lv_at hl 0 rfl) ?_
  refine gF (v := .int (nI x.adep)) hx hb hown hE hK hP 39 rfl rfl layA 1 (by decide) w1538 rfl d_A_push_1 ?_
  refine lv_aload_n hx hb d_A_push_4 rfl (lv_at hl 0 rfl) ?_
  refine gF (v := .ref (ad 25)) hx hb hown hE hK hP 39 rfl rfl layA 0 (by decide) w799 rfl d_A_push_5 ?_
  rw [← hla]
  refine jkI (wr := []) (rnV (As := []) (rest := [.int (nI x.adep)]) hx hb hml hown hE hK (hN _ _ hS) hP hD (v_Lsize l D dA H.size (VW dA h ad x) la g) (q0 := 0) rfl rfl w1484 w1539 w1485 w1486 w680 rfl rfl ⟨⟨by decide, by decide⟩, rfl⟩ ⟨(Nat.le_of_ble_eq_true rfl), (Nat.le_of_ble_eq_true rfl)⟩ rfl hl.1 rfl (Nat.le_of_ble_eq_true rfl) d_A_push_8 ⟨(show 0 + 0 ≤ 6 by omega), (show 0 + 0 ≤ 589 + (g.eN + max 1 (g.eN / 2)) by omega)⟩) hP hD hS hA (fun r1 u2 H locs hp9 hP hD hS => ?_)
  have hP : va_P D vwCl (LiW dA la g ++ (VW dA h ad x)) H := hP
  have hD : va_D A (LiW dA la g ++ (VW dA h ad x)) := hD
  replace hp9 : nI g.sz = r1 := Eq.symm hp9
  subst hp9
  refine lv_icmp_ne hx hb d_A_push_11 (tgt := 29) rfl (fun h9 => absurd ((nI_eq (a := x.adep) (b := g.sz) (by omega) (by omega)).mpr h1) h9) (fun _ => ?_)
  refine lv_aload_n hx hb d_A_push_14 rfl (lv_at hl 0 rfl) ?_
  refine gF (v := .ref (ad 25)) hx hb hown hE hK hP 39 rfl rfl layA 0 (by decide) w799 rfl d_A_push_15 ?_
  rw [← hla]
  refine nOf hx hb hown hE hK hP hD hS hA (ci := 8) rfl layT tyT tokT w805 w806 w807 (fs := [.null, .int 0, .int 0, .int 0, .null, .null, .null]) dfT (show (0 + 0) + 1 ≤ 6 by omega) (show (0 + 0) + 7 ≤ 589 + (g.eN + max 1 (g.eN / 2)) by omega) d_A_push_18 (fun ob H hP hD hS => ?_)
  have hP : va_P D vwCl ([(ob, .inr (8, [.null, .int 0, .int 0, .int 0, .null, .null, .null]))] ++ (LiW dA la g ++ (VW dA h ad x))) H := hP
  have hD : va_D A ([(ob, .inr (8, [.null, .int 0, .int 0, .int 0, .null, .null, .null]))] ++ (LiW dA la g ++ (VW dA h ad x))) := hD
  refine lv_dup hx hb d_A_push_21 rfl ?_
  refine jkV (wr := []) (rnI (As := []) (rest := [.ref ob, .ref (la 0)]) hx hb hml hown hE hK (hN _ _ hS) hP hD (v_Tinit l D dA H.size (LiW dA la g ++ (VW dA h ad x)) ob) w809 w808 w810 w807 rfl rfl rfl ⟨⟨by decide, by decide⟩, rfl⟩ ⟨(Nat.le_of_ble_eq_true rfl), (Nat.le_of_ble_eq_true rfl)⟩ rfl hl.1 rfl (Nat.le_of_ble_eq_true rfl) d_A_push_22 ⟨(show 0 + 0 + 1 + 4 ≤ 6 by omega), (show 0 + 0 + 7 + 582 ≤ 589 + (g.eN + max 1 (g.eN / 2)) by omega)⟩) hP hD hS hA (fun u4 H locs hp9 hP hD hS => ?_)
  obtain ⟨tq, y⟩ := u4
  have hP : va_P D vwCl (TbW dA tq y ++ (LiW dA la g ++ (VW dA h ad x))) H := hP
  have hD : va_D A (TbW dA tq y ++ (LiW dA la g ++ (VW dA h ad x))) := hD
  obtain ⟨f_ta_5, f_e_6⟩ := hp9
  have e9 : tq 0 = ob := f_ta_5
  rw [← e9]
  have hP := pmP (show List.Perm (α := Nat × va_E) (TbW dA tq y ++ (LiW dA la g ++ (VW dA h ad x))) (LiW dA la g ++ (TbW dA tq y ++ (VW dA h ad x))) from List.perm_append_comm_assoc (TbW dA tq y) (LiW dA la g) (VW dA h ad x)) hP
  have hD := pmD (show List.Perm (α := Nat × va_E) (TbW dA tq y ++ (LiW dA la g ++ (VW dA h ad x))) (LiW dA la g ++ (TbW dA tq y ++ (VW dA h ad x))) from List.perm_append_comm_assoc (TbW dA tq y) (LiW dA la g) (VW dA h ad x)) hD
  refine jkI (wr := []) (rnVy (As := [.ref (tq 0)]) (rest := []) hx hb hml hown hE hK hZ hT hM hS (hN _ _ hS) hP hD (v_Ladd_gT l D dA H.size e0 mi (TbW dA tq y ++ (VW dA h ad x)) la g (tq 0) ([.ref (tq 1), .int (nI y.nc), .int (nI y.wi), .int (nI y.rc), .ref (tq 2), .ref (tq 3), .ref y.cA]) (fun i hi y hy => by obtain ⟨vs, hv⟩ := hel i hi y hy; exact ⟨vs, List.mem_append_right _ hv⟩) (show 0 < g.eN from by omega) (show g.eN ≤ 65536 from by omega) (show g.sz = g.eN from by omega) (List.mem_of_getElem? (i := 0) rfl)) (q0 := 0) rfl rfl w812 w811 w813 w814 w680 rfl rfl ⟨⟨by decide, by decide⟩, rfl⟩ ⟨(Nat.le_of_ble_eq_true rfl), (Nat.le_of_ble_eq_true rfl)⟩ rfl hl.1 rfl (Nat.le_of_ble_eq_true rfl) d_A_push_25 ⟨(show 0 + 0 + 1 + 4 + 1 ≤ 6 by omega), (show 0 + 0 + 7 + 582 + (g.eN + max 1 (g.eN / 2)) ≤ 589 + (g.eN + max 1 (g.eN / 2)) by omega)⟩) hP hD hS hA (fun r7 u8 H locs hp9 hP hD hS => ?_)
  obtain ⟨b, h9u⟩ : ∃ z9, z9 = u8 := ⟨_, rfl⟩
  subst h9u
  have hP : va_P D vwCl (LiW dA la (LI.s_el (LI.s_eN (LI.s_eA (LI.s_mc (LI.s_sz g (g.sz + 1)) (g.mc + 1)) b) (g.eN + max 1 (g.eN / 2))) (va_up (cpF g.el g.eN) g.sz (some (tq 0)))) ++ (TbW dA tq y ++ (VW dA h ad x))) H := hP
  have hD : va_D A (LiW dA la (LI.s_el (LI.s_eN (LI.s_eA (LI.s_mc (LI.s_sz g (g.sz + 1)) (g.mc + 1)) b) (g.eN + max 1 (g.eN / 2))) (va_up (cpF g.el g.eN) g.sz (some (tq 0)))) ++ (TbW dA tq y ++ (VW dA h ad x))) := hD
  replace hp9 : 1 = r7 := Eq.symm hp9
  subst hp9
  refine lv_pop hx hb d_A_push_28 rfl ?_
  refine lv_aload_n hx hb d_A_push_29 rfl (lv_at hl 0 rfl) ?_
  refine lv_dup hx hb d_A_push_30 rfl ?_
  refine gF (v := .int (nI x.adep)) hx hb hown hE hK hP 44 rfl rfl layA 1 (by decide) w1538 rfl d_A_push_31 ?_
  refine lv_iconst (v := 1) hx hb d_A_push_34 (by decide) ?_
  refine lv_iadd hx hb d_A_push_35 (tpi (y := nI (x.adep + 1)) (nI_add (x.adep) (1)) ?_)
  refine pF (v := .int (nI (x.adep + 1))) hx hb hown hE hK hP hD hS 44 rfl rfl layA tyA tokA nmA 1 (by decide) w1538 rfl rfl rfl (Nat.le_of_ble_eq_true rfl) d_A_push_36 (fun H locs hP hD hS => ?_)
  have hP : va_P D vwCl (LiW dA la (LI.s_el (LI.s_eN (LI.s_eA (LI.s_mc (LI.s_sz g (g.sz + 1)) (g.mc + 1)) b) (g.eN + max 1 (g.eN / 2))) (va_up (cpF g.el g.eN) g.sz (some (tq 0)))) ++ (TbW dA tq y ++ (VW dA h ad (VS.s_adep x (x.adep + 1))))) H := hP
  have hD : va_D A (LiW dA la (LI.s_el (LI.s_eN (LI.s_eA (LI.s_mc (LI.s_sz g (g.sz + 1)) (g.mc + 1)) b) (g.eN + max 1 (g.eN / 2))) (va_up (cpF g.el g.eN) g.sz (some (tq 0)))) ++ (TbW dA tq y ++ (VW dA h ad (VS.s_adep x (x.adep + 1))))) := hD
  refine lv_aload_n hx hb d_A_push_39 rfl (lv_at hl 0 rfl) ?_
  refine gF (v := .ref (ad 25)) hx hb hown hE hK hP 44 rfl rfl layA 0 (by decide) w799 rfl d_A_push_40 ?_
  rw [← hla]
  refine lv_aload_n hx hb d_A_push_43 rfl (lv_at hl 0 rfl) ?_
  refine gF (v := .int (nI (x.adep + 1))) hx hb hown hE hK hP 44 rfl rfl layA 1 (by decide) w1538 rfl d_A_push_44 ?_
  refine lv_iconst (v := 1) hx hb d_A_push_47 (by decide) ?_
  refine lv_isub hx hb d_A_push_48 (tpi (y := nI ((x.adep + 1) - 1)) (pk_sub (a := x.adep + 1) (b := 1) (by omega)) ?_)
  refine jkR (wr := []) (rnV (As := [.int (nI ((x.adep + 1) - 1))]) (rest := []) hx hb hml hown hE hK (hN _ _ hS) hP hD (v_Lget l D dA H.size (TbW dA tq y ++ (VW dA h ad (VS.s_adep x (x.adep + 1)))) la (LI.s_el (LI.s_eN (LI.s_eA (LI.s_mc (LI.s_sz g (g.sz + 1)) (g.mc + 1)) b) (g.eN + max 1 (g.eN / 2))) (va_up (cpF g.el g.eN) g.sz (some (tq 0)))) ((x.adep + 1) - 1) (tq 0) (show (g.sz + 1) ≤ (g.eN + max 1 (g.eN / 2)) from by omega) (show (g.eN + max 1 (g.eN / 2)) ≤ 65536 from by omega) (show ((x.adep + 1) - 1) < (g.sz + 1) from by omega) (by rw [show x.adep + 1 - 1 = g.sz by omega]; exact if_pos rfl)) (q0 := 0) rfl rfl w1489 w1537 w1490 w1491 w680 rfl rfl ⟨⟨by decide, by decide⟩, rfl⟩ ⟨(Nat.le_of_ble_eq_true rfl), (Nat.le_of_ble_eq_true rfl)⟩ rfl hl.1 rfl (Nat.le_of_ble_eq_true rfl) d_A_push_49 ⟨(show 0 + 0 + 1 + 4 + 1 + 0 ≤ 6 by omega), (show 0 + 0 + 7 + 582 + (g.eN + max 1 (g.eN / 2)) + 0 ≤ 589 + (g.eN + max 1 (g.eN / 2)) by omega)⟩) hP hD hS hA (fun u10 r9 H locs hp9 hP hD hS => ?_)
  have hP : va_P D vwCl (LiW dA la (LI.s_el (LI.s_eN (LI.s_eA (LI.s_mc (LI.s_sz g (g.sz + 1)) (g.mc + 1)) b) (g.eN + max 1 (g.eN / 2))) (va_up (cpF g.el g.eN) g.sz (some (tq 0)))) ++ (TbW dA tq y ++ (VW dA h ad (VS.s_adep x (x.adep + 1))))) H := hP
  have hD : va_D A (LiW dA la (LI.s_el (LI.s_eN (LI.s_eA (LI.s_mc (LI.s_sz g (g.sz + 1)) (g.mc + 1)) b) (g.eN + max 1 (g.eN / 2))) (va_up (cpF g.el g.eN) g.sz (some (tq 0)))) ++ (TbW dA tq y ++ (VW dA h ad (VS.s_adep x (x.adep + 1))))) := hD
  have f_e_11 := hp9
  have e9 := f_e_11
  subst e9
  refine va_castE hx hb hown (hE.t w805 rfl) (va_recv hK hP (ci := 8) (q0 := 2) (q := ("SeriesVault$Table", TT, 7)) rfl rfl) d_A_push_52 ?_
  have hP := pmP (show List.Perm (α := Nat × va_E) (LiW dA la (LI.s_el (LI.s_eN (LI.s_eA (LI.s_mc (LI.s_sz g (g.sz + 1)) (g.mc + 1)) b) (g.eN + max 1 (g.eN / 2))) (va_up (cpF g.el g.eN) g.sz (some (tq 0)))) ++ (TbW dA tq y ++ (VW dA h ad (VS.s_adep x (x.adep + 1))))) (TbW dA tq y ++ (LiW dA la (LI.s_el (LI.s_eN (LI.s_eA (LI.s_mc (LI.s_sz g (g.sz + 1)) (g.mc + 1)) b) (g.eN + max 1 (g.eN / 2))) (va_up (cpF g.el g.eN) g.sz (some (tq 0)))) ++ (VW dA h ad (VS.s_adep x (x.adep + 1))))) from List.perm_append_comm_assoc (LiW dA la (LI.s_el (LI.s_eN (LI.s_eA (LI.s_mc (LI.s_sz g (g.sz + 1)) (g.mc + 1)) b) (g.eN + max 1 (g.eN / 2))) (va_up (cpF g.el g.eN) g.sz (some (tq 0))))) (TbW dA tq y) (VW dA h ad (VS.s_adep x (x.adep + 1)))) hP
  have hD := pmD (show List.Perm (α := Nat × va_E) (LiW dA la (LI.s_el (LI.s_eN (LI.s_eA (LI.s_mc (LI.s_sz g (g.sz + 1)) (g.mc + 1)) b) (g.eN + max 1 (g.eN / 2))) (va_up (cpF g.el g.eN) g.sz (some (tq 0)))) ++ (TbW dA tq y ++ (VW dA h ad (VS.s_adep x (x.adep + 1))))) (TbW dA tq y ++ (LiW dA la (LI.s_el (LI.s_eN (LI.s_eA (LI.s_mc (LI.s_sz g (g.sz + 1)) (g.mc + 1)) b) (g.eN + max 1 (g.eN / 2))) (va_up (cpF g.el g.eN) g.sz (some (tq 0)))) ++ (VW dA h ad (VS.s_adep x (x.adep + 1))))) from List.perm_append_comm_assoc (LiW dA la (LI.s_el (LI.s_eN (LI.s_eA (LI.s_mc (LI.s_sz g (g.sz + 1)) (g.mc + 1)) b) (g.eN + max 1 (g.eN / 2))) (va_up (cpF g.el g.eN) g.sz (some (tq 0))))) (TbW dA tq y) (VW dA h ad (VS.s_adep x (x.adep + 1)))) hD
  exact rkR hx hb hr (Or.inl ⟨_, rfl⟩) hlk hS (⟨tq, y, b⟩) ⟨rfl, f_e_6⟩ hP hD (show 0 + 0 + 1 + 4 + 1 + 0 ≤ 6 by omega) (show 0 + 0 + 7 + 582 + (g.eN + max 1 (g.eN / 2)) + 0 ≤ 589 + (g.eN + max 1 (g.eN / 2)) by omega) d_A_push_55
end
section
theorem d_A_join_0 : decode prog_2_method_5_code 0 = .ok (.aload_n 0, 1) := by decide +kernel
theorem d_A_join_1 : decode prog_2_method_5_code 1 = .ok (.getfield 12, 3) := by decide +kernel
theorem d_A_join_4 : decode prog_2_method_5_code 4 = .ok (.aload_n 0, 1) := by decide +kernel
theorem d_A_join_5 : decode prog_2_method_5_code 5 = .ok (.getfield 58, 3) := by decide +kernel
theorem d_A_join_8 : decode prog_2_method_5_code 8 = .ok (.iconst 2, 1) := by decide +kernel
theorem d_A_join_9 : decode prog_2_method_5_code 9 = .ok (.isub, 1) := by decide +kernel
theorem d_A_join_10 : decode prog_2_method_5_code 10 = .ok (.invokevirtual 43, 3) := by decide +kernel
theorem d_A_join_13 : decode prog_2_method_5_code 13 = .ok (.checkcast 36, 3) := by decide +kernel
theorem d_A_join_16 : decode prog_2_method_5_code 16 = .ok (.astore_n 2, 1) := by decide +kernel
theorem d_A_join_17 : decode prog_2_method_5_code 17 = .ok (.aload_n 0, 1) := by decide +kernel
theorem d_A_join_18 : decode prog_2_method_5_code 18 = .ok (.getfield 12, 3) := by decide +kernel
theorem d_A_join_21 : decode prog_2_method_5_code 21 = .ok (.aload_n 0, 1) := by decide +kernel
theorem d_A_join_22 : decode prog_2_method_5_code 22 = .ok (.getfield 58, 3) := by decide +kernel
theorem d_A_join_25 : decode prog_2_method_5_code 25 = .ok (.iconst 1, 1) := by decide +kernel
theorem d_A_join_26 : decode prog_2_method_5_code 26 = .ok (.isub, 1) := by decide +kernel
theorem d_A_join_27 : decode prog_2_method_5_code 27 = .ok (.invokevirtual 43, 3) := by decide +kernel
theorem d_A_join_30 : decode prog_2_method_5_code 30 = .ok (.checkcast 36, 3) := by decide +kernel
theorem d_A_join_33 : decode prog_2_method_5_code 33 = .ok (.astore_n 3, 1) := by decide +kernel
theorem d_A_join_34 : decode prog_2_method_5_code 34 = .ok (.aload_n 0, 1) := by decide +kernel
theorem d_A_join_35 : decode prog_2_method_5_code 35 = .ok (.dup, 1) := by decide +kernel
theorem d_A_join_36 : decode prog_2_method_5_code 36 = .ok (.getfield 58, 3) := by decide +kernel
theorem d_A_join_39 : decode prog_2_method_5_code 39 = .ok (.iconst 1, 1) := by decide +kernel
theorem d_A_join_40 : decode prog_2_method_5_code 40 = .ok (.isub, 1) := by decide +kernel
theorem d_A_join_41 : decode prog_2_method_5_code 41 = .ok (.putfield 58, 3) := by decide +kernel
theorem d_A_join_44 : decode prog_2_method_5_code 44 = .ok (.aload_n 2, 1) := by decide +kernel
theorem d_A_join_45 : decode prog_2_method_5_code 45 = .ok (.aload_n 3, 1) := by decide +kernel
theorem d_A_join_46 : decode prog_2_method_5_code 46 = .ok (.invokevirtual 100, 3) := by decide +kernel
theorem d_A_join_49 : decode prog_2_method_5_code 49 = .ok (.ifCond .eq 11, 3) := by decide +kernel
theorem d_A_join_60 : decode prog_2_method_5_code 60 = .ok (.aload_n 3, 1) := by decide +kernel
theorem d_A_join_61 : decode prog_2_method_5_code 61 = .ok (.getfield 108, 3) := by decide +kernel
theorem d_A_join_64 : decode prog_2_method_5_code 64 = .ok (.ifCond .ne 12, 3) := by decide +kernel
theorem d_A_join_76 : decode prog_2_method_5_code 76 = .ok (.aload_n 2, 1) := by decide +kernel
theorem d_A_join_77 : decode prog_2_method_5_code 77 = .ok (.getfield 108, 3) := by decide +kernel
theorem d_A_join_80 : decode prog_2_method_5_code 80 = .ok (.ifCond .ne 40, 3) := by decide +kernel
theorem d_A_join_120 : decode prog_2_method_5_code 120 = .ok (.iconst 0, 1) := by decide +kernel
theorem d_A_join_121 : decode prog_2_method_5_code 121 = .ok (.ireturn, 1) := by decide +kernel
theorem w1540 : Cond.methodLink "SeriesVault$Answers" 100 ⟨"SeriesVault$Table", "hasNamesOf", "(LSeriesVault$Table;)Z"⟩ ∈ aW := aw_of (tb_8 (List.mem_of_getElem? (i := 45) rfl)) rfl
theorem w1541 : Cond.code ⟨"SeriesVault$Table", "hasNamesOf", "(LSeriesVault$Table;)Z"⟩ prog_11_method_16_code 3 (some FieldType.boolean) ∈ aW := aw_of (tb_8 (List.mem_of_getElem? (i := 48) rfl)) rfl
theorem w1542 : Cond.instanceMethod ⟨"SeriesVault$Table", "hasNamesOf", "(LSeriesVault$Table;)Z"⟩ ∈ aW := aw_of (tb_8 (List.mem_of_getElem? (i := 46) rfl)) rfl
theorem w1543 : Cond.selects "SeriesVault$Table" ⟨"SeriesVault$Table", "hasNamesOf", "(LSeriesVault$Table;)Z"⟩ ⟨"SeriesVault$Table", "hasNamesOf", "(LSeriesVault$Table;)Z"⟩ ∈ aW := aw_of (tb_8 (List.mem_of_getElem? (i := 47) rfl)) rfl
theorem w1544 : Cond.fieldLinkNest "SeriesVault$Answers" 108 "SeriesVault$Table" "nameCount" "I" "SeriesVault" ∈ aW := aw_of (tb_2 (List.mem_of_getElem? (i := 55) rfl)) rfl
set_option maxHeartbeats 4000000 in
set_option maxRecDepth 100000 in
theorem v_Ajoin_n (l : Launch) (D : va_G) (dA : Nat → ClassId) (sz : Nat) (h : Nat) (ad : Nat → Nat) (ta : Nat → Nat) (t : TB) (tb : Nat → Nat) (u : TB) (la : Nat → Nat) (g : LI) (x : VS) (sg : Int32) (NL : Nat → List Int32) (NR : Nat → List Int32) (hla : la 0 = ad 25) (hs : g.sz ≤ g.eN) (hn : g.eN ≤ 65536) (hd : 2 ≤ x.adep) (hd2 : x.adep ≤ g.sz) (he1 : g.el (x.adep - 2) = some (ta 0)) (he2 : g.el (x.adep - 1) = some (tb 0)) (hna : nmOk dA x.pl t.nm t.nc NL) (hnb : nmOk dA x.pl u.nm u.nc NR) (hc1 : t.nc ≤ 6) (hc2 : u.nc ≤ 6) (hnn : namB NL NR t.nc u.nc = false) (h1 : ¬ u.nc = 0) (h2 : ¬ t.nc = 0) : Met l ⟨"SeriesVault$Answers", "join", "(I)Z"⟩ [Cond.code ⟨"SeriesVault$Answers", "join", "(I)Z"⟩ prog_2_method_5_code 4 (some FieldType.boolean)] { frames := 4, cells := 0, slots := 0, locals := 64 } (pC D dA [.ref (ad 24), .int sg] (TbW dA ta t ++ (TbW dA tb u ++ (LiW dA la g ++ (VW dA h ad x)))) sz) (va_Qi (fun (r9 : Int32) (u9 : Unit) => r9 = 0) (fun (u9 : Unit) t9 => bW D (va_A (TbW dA ta t ++ (TbW dA tb u ++ (LiW dA la g ++ (VW dA h ad x)))) sz) (TbW dA ta t ++ (TbW dA tb u ++ (LiW dA la g ++ (VW dA h ad (VS.s_adep x (x.adep - 1)))))) t9) (va_A (TbW dA ta t ++ (TbW dA tb u ++ (LiW dA la g ++ (VW dA h ad x)))) sz)) 0 0 (va_A (TbW dA ta t ++ (TbW dA tb u ++ (LiW dA la g ++ (VW dA h ad x)))) sz) := by
  refine mkC (y := ⟨"SeriesVault$Answers", "join", "(I)Z"⟩) (cc := prog_2_method_5_code) (maxL := 4) (av := [.ref (ad 24), .int sg]) (ws := TbW dA ta t ++ (TbW dA tb u ++ (LiW dA la g ++ (VW dA h ad x)))) (sz := sz) (Qc := fun A => va_Qi (fun (r9 : Int32) (u9 : Unit) => r9 = 0) (fun (u9 : Unit) t9 => bW D A (TbW dA ta t ++ (TbW dA tb u ++ (LiW dA la g ++ (VW dA h ad (VS.s_adep x (x.adep - 1)))))) t9) A) (by decide) (Nat.le_of_ble_eq_true rfl) ?_
  intro A p e s m below meth c ls hsz hB
  obtain ⟨hx, hb, hr, hml, hown, hin, hlk, hE, hK, hP, hD, hS, hA, hN, hl⟩ := hB
  have hown : s.vm.findClass "SeriesVault$Answers" = some m.cls := hown
  have hl : lv_has ls 4 [(0, .ref (ad 24)), (1, .int sg)] := hl
  obtain ⟨H, hH⟩ : ∃ z, z = s.heap := ⟨_, rfl⟩
  have hP : va_P D vwCl (TbW dA ta t ++ (TbW dA tb u ++ (LiW dA la g ++ (VW dA h ad x)))) H := by rw [hH]; exact hP
  have hS : va_S A s.heap H [] := by rw [hH]; exact hS
  rw [← hH]
  refine lv_aload_n hx hb d_A_join_0 rfl (lv_at hl 0 rfl) ?_
  refine gF (v := .ref (ad 25)) hx hb hown hE hK hP 49 rfl rfl layA 0 (by decide) w799 rfl d_A_join_1 ?_
  rw [← hla]
  refine lv_aload_n hx hb d_A_join_4 rfl (lv_at hl 0 rfl) ?_
  refine gF (v := .int (nI x.adep)) hx hb hown hE hK hP 49 rfl rfl layA 1 (by decide) w1538 rfl d_A_join_5 ?_
  refine lv_iconst (v := 2) hx hb d_A_join_8 (by decide) ?_
  refine lv_isub hx hb d_A_join_9 (tpi (y := nI (x.adep - 2)) (pk_sub (a := x.adep) (b := 2) (by omega)) ?_)
  have hP := pmP (show List.Perm (α := Nat × va_E) (TbW dA ta t ++ (TbW dA tb u ++ (LiW dA la g ++ (VW dA h ad x)))) (LiW dA la g ++ (TbW dA ta t ++ (TbW dA tb u ++ (VW dA h ad x)))) from (List.Perm.append_left (TbW dA ta t) (List.perm_append_comm_assoc (TbW dA tb u) (LiW dA la g) (VW dA h ad x))).trans (List.perm_append_comm_assoc (TbW dA ta t) (LiW dA la g) (TbW dA tb u ++ (VW dA h ad x)))) hP
  have hD := pmD (show List.Perm (α := Nat × va_E) (TbW dA ta t ++ (TbW dA tb u ++ (LiW dA la g ++ (VW dA h ad x)))) (LiW dA la g ++ (TbW dA ta t ++ (TbW dA tb u ++ (VW dA h ad x)))) from (List.Perm.append_left (TbW dA ta t) (List.perm_append_comm_assoc (TbW dA tb u) (LiW dA la g) (VW dA h ad x))).trans (List.perm_append_comm_assoc (TbW dA ta t) (LiW dA la g) (TbW dA tb u ++ (VW dA h ad x)))) hD
  refine jkR (wr := []) (rnV (As := [.int (nI (x.adep - 2))]) (rest := []) hx hb hml hown hE hK (hN _ _ hS) hP hD (v_Lget l D dA H.size (TbW dA ta t ++ (TbW dA tb u ++ (VW dA h ad x))) la g (x.adep - 2) (ta 0) hs hn (show (x.adep - 2) < g.sz from by omega) he1) (q0 := 0) rfl rfl w1489 w1537 w1490 w1491 w680 rfl rfl ⟨⟨by decide, by decide⟩, rfl⟩ ⟨(Nat.le_of_ble_eq_true rfl), (Nat.le_of_ble_eq_true rfl)⟩ rfl hl.1 rfl (Nat.le_of_ble_eq_true rfl) d_A_join_10 ⟨(Nat.le_of_ble_eq_true rfl), (Nat.le_of_ble_eq_true rfl)⟩) hP hD hS hA (fun u2 r1 H locs hp9 hP hD hS => ?_)
  have hP : va_P D vwCl (LiW dA la g ++ (TbW dA ta t ++ (TbW dA tb u ++ (VW dA h ad x)))) H := hP
  have hD : va_D A (LiW dA la g ++ (TbW dA ta t ++ (TbW dA tb u ++ (VW dA h ad x)))) := hD
  have f_e_3 := hp9
  have e9 := f_e_3
  subst e9
  refine va_castE hx hb hown (hE.t w805 rfl) (va_recv hK hP (ci := 8) (q0 := 2) (q := ("SeriesVault$Table", TT, 7)) rfl rfl) d_A_join_13 ?_
  refine lv_astore_n hx hb d_A_join_16 rfl hl (by decide) rfl (fun ls hl => ?_)
  have hl : lv_has ls 4 [(2, .ref (ta 0)), (0, .ref (ad 24)), (1, .int sg)] := hl
  refine lv_aload_n hx hb d_A_join_17 rfl (lv_at hl 1 rfl) ?_
  refine gF (v := .ref (ad 25)) hx hb hown hE hK hP 49 rfl rfl layA 0 (by decide) w799 rfl d_A_join_18 ?_
  rw [← hla]
  refine lv_aload_n hx hb d_A_join_21 rfl (lv_at hl 1 rfl) ?_
  refine gF (v := .int (nI x.adep)) hx hb hown hE hK hP 49 rfl rfl layA 1 (by decide) w1538 rfl d_A_join_22 ?_
  refine lv_iconst (v := 1) hx hb d_A_join_25 (by decide) ?_
  refine lv_isub hx hb d_A_join_26 (tpi (y := nI (x.adep - 1)) (pk_sub (a := x.adep) (b := 1) (by omega)) ?_)
  refine jkR (wr := []) (rnV (As := [.int (nI (x.adep - 1))]) (rest := []) hx hb hml hown hE hK (hN _ _ hS) hP hD (v_Lget l D dA H.size (TbW dA ta t ++ (TbW dA tb u ++ (VW dA h ad x))) la g (x.adep - 1) (tb 0) hs hn (show (x.adep - 1) < g.sz from by omega) he2) (q0 := 0) rfl rfl w1489 w1537 w1490 w1491 w680 rfl rfl ⟨⟨by decide, by decide⟩, rfl⟩ ⟨(Nat.le_of_ble_eq_true rfl), (Nat.le_of_ble_eq_true rfl)⟩ rfl hl.1 rfl (Nat.le_of_ble_eq_true rfl) d_A_join_27 ⟨(Nat.le_of_ble_eq_true rfl), (Nat.le_of_ble_eq_true rfl)⟩) hP hD hS hA (fun u5 r4 H locs hp9 hP hD hS => ?_)
  have hP : va_P D vwCl (LiW dA la g ++ (TbW dA ta t ++ (TbW dA tb u ++ (VW dA h ad x)))) H := hP
  have hD : va_D A (LiW dA la g ++ (TbW dA ta t ++ (TbW dA tb u ++ (VW dA h ad x)))) := hD
  have f_e_6 := hp9
  have e9 := f_e_6
  subst e9
  refine va_castE hx hb hown (hE.t w805 rfl) (va_recv hK hP (ci := 8) (q0 := 7) (q := ("SeriesVault$Table", TT, 7)) rfl rfl) d_A_join_30 ?_
  refine lv_astore_n hx hb d_A_join_33 rfl hl (by decide) rfl (fun ls hl => ?_)
  have hl : lv_has ls 4 [(3, .ref (tb 0)), (2, .ref (ta 0)), (0, .ref (ad 24)), (1, .int sg)] := hl
  refine lv_aload_n hx hb d_A_join_34 rfl (lv_at hl 2 rfl) ?_
  refine lv_dup hx hb d_A_join_35 rfl ?_
  refine gF (v := .int (nI x.adep)) hx hb hown hE hK hP 49 rfl rfl layA 1 (by decide) w1538 rfl d_A_join_36 ?_
  refine lv_iconst (v := 1) hx hb d_A_join_39 (by decide) ?_
  refine lv_isub hx hb d_A_join_40 (tpi (y := nI (x.adep - 1)) (pk_sub (a := x.adep) (b := 1) (by omega)) ?_)
  refine pF (v := .int (nI (x.adep - 1))) hx hb hown hE hK hP hD hS 49 rfl rfl layA tyA tokA nmA 1 (by decide) w1538 rfl rfl rfl (Nat.le_of_ble_eq_true rfl) d_A_join_41 (fun H locs hP hD hS => ?_)
  have hP : va_P D vwCl (LiW dA la g ++ (TbW dA ta t ++ (TbW dA tb u ++ (VW dA h ad (VS.s_adep x (x.adep - 1)))))) H := hP
  have hD : va_D A (LiW dA la g ++ (TbW dA ta t ++ (TbW dA tb u ++ (VW dA h ad (VS.s_adep x (x.adep - 1)))))) := hD
  refine lv_aload_n hx hb d_A_join_44 rfl (lv_at hl 1 rfl) ?_
  refine lv_aload_n hx hb d_A_join_45 rfl (lv_at hl 0 rfl) ?_
  have hP := pmP (show List.Perm (α := Nat × va_E) (LiW dA la g ++ (TbW dA ta t ++ (TbW dA tb u ++ (VW dA h ad (VS.s_adep x (x.adep - 1)))))) (TbW dA ta t ++ (LiW dA la g ++ (TbW dA tb u ++ (VW dA h ad (VS.s_adep x (x.adep - 1)))))) from List.perm_append_comm_assoc (LiW dA la g) (TbW dA ta t) (TbW dA tb u ++ (VW dA h ad (VS.s_adep x (x.adep - 1))))) hP
  have hD := pmD (show List.Perm (α := Nat × va_E) (LiW dA la g ++ (TbW dA ta t ++ (TbW dA tb u ++ (VW dA h ad (VS.s_adep x (x.adep - 1)))))) (TbW dA ta t ++ (LiW dA la g ++ (TbW dA tb u ++ (VW dA h ad (VS.s_adep x (x.adep - 1)))))) from List.perm_append_comm_assoc (LiW dA la g) (TbW dA ta t) (TbW dA tb u ++ (VW dA h ad (VS.s_adep x (x.adep - 1))))) hD
  have hP := pmP (show List.Perm (α := Nat × va_E) (TbW dA ta t ++ (LiW dA la g ++ (TbW dA tb u ++ (VW dA h ad (VS.s_adep x (x.adep - 1)))))) (TbW dA ta t ++ (TbW dA tb u ++ (LiW dA la g ++ (VW dA h ad (VS.s_adep x (x.adep - 1)))))) from List.Perm.append_left (TbW dA ta t) (List.perm_append_comm_assoc (LiW dA la g) (TbW dA tb u) (VW dA h ad (VS.s_adep x (x.adep - 1))))) hP
  have hD := pmD (show List.Perm (α := Nat × va_E) (TbW dA ta t ++ (LiW dA la g ++ (TbW dA tb u ++ (VW dA h ad (VS.s_adep x (x.adep - 1)))))) (TbW dA ta t ++ (TbW dA tb u ++ (LiW dA la g ++ (VW dA h ad (VS.s_adep x (x.adep - 1)))))) from List.Perm.append_left (TbW dA ta t) (List.perm_append_comm_assoc (LiW dA la g) (TbW dA tb u) (VW dA h ad (VS.s_adep x (x.adep - 1))))) hD
  refine jkI (wr := []) (rnV (As := [.ref (tb 0)]) (rest := []) hx hb hml hown hE hK (hN _ _ hS) hP hD (v_ThasNamesOf l D dA H.size (LiW dA la g ++ (VW dA h ad (VS.s_adep x (x.adep - 1)))) ta t tb u NL NR (nmOk_m (fun _ hm => (List.mem_append_right _ (plm hm))) hna) (nmOk_m (fun _ hm => (List.mem_append_right _ (plm hm))) hnb) hc1 hc2) (q0 := 0) rfl rfl w1541 w1540 w1542 w1543 w807 rfl rfl ⟨⟨by decide, by decide⟩, rfl⟩ ⟨(Nat.le_of_ble_eq_true rfl), (Nat.le_of_ble_eq_true rfl)⟩ rfl hl.1 rfl (Nat.le_of_ble_eq_true rfl) d_A_join_46 ⟨(Nat.le_of_ble_eq_true rfl), (Nat.le_of_ble_eq_true rfl)⟩) hP hD hS hA (fun r7 u8 H locs hp9 hP hD hS => ?_)
  have hP : va_P D vwCl (TbW dA ta t ++ (TbW dA tb u ++ (LiW dA la g ++ (VW dA h ad (VS.s_adep x (x.adep - 1)))))) H := hP
  have hD : va_D A (TbW dA ta t ++ (TbW dA tb u ++ (LiW dA la g ++ (VW dA h ad (VS.s_adep x (x.adep - 1)))))) := hD
  replace hp9 : bI (namB NL NR t.nc u.nc) = r7 := Eq.symm hp9
  subst hp9
  refine lv_if_eq hx hb d_A_join_49 (tgt := 60) rfl (fun _ => ?_) (fun h9 => absurd (by rw [hnn]; decide) h9)
  refine lv_aload_n hx hb d_A_join_60 rfl (lv_at hl 0 rfl) ?_
  refine gFN (v := .int (nI u.nc)) hx hb hown hE hK hP 5 rfl rfl layT 1 (by decide) w1544 rfl d_A_join_61 ?_
  refine lv_if_ne hx hb d_A_join_64 (tgt := 76) rfl (fun _ => ?_) (fun h9 => absurd h9 (mt (nI_eq (a := u.nc) (b := 0) (by omega) (by omega)).mp h1))
  refine lv_aload_n hx hb d_A_join_76 rfl (lv_at hl 1 rfl) ?_
  refine gFN (v := .int (nI t.nc)) hx hb hown hE hK hP 0 rfl rfl layT 1 (by decide) w1544 rfl d_A_join_77 ?_
  refine lv_if_ne hx hb d_A_join_80 (tgt := 120) rfl (fun _ => ?_) (fun h9 => absurd h9 (mt (nI_eq (a := t.nc) (b := 0) (by omega) (by omega)).mp h2))
  refine lv_iconst (v := 0) hx hb d_A_join_120 (by decide) ?_
  exact rfZ hx hb hr (bI_nar false) hlk hS () rfl hP hD (Nat.le_of_ble_eq_true rfl) (Nat.le_of_ble_eq_true rfl) d_A_join_121
theorem d_A_join_52 : decode prog_2_method_5_code 52 = .ok (.aload_n 2, 1) := by decide +kernel
theorem d_A_join_53 : decode prog_2_method_5_code 53 = .ok (.iload_n 1, 1) := by decide +kernel
theorem d_A_join_54 : decode prog_2_method_5_code 54 = .ok (.aload_n 3, 1) := by decide +kernel
theorem d_A_join_55 : decode prog_2_method_5_code 55 = .ok (.invokevirtual 104, 3) := by decide +kernel
theorem d_A_join_58 : decode prog_2_method_5_code 58 = .ok (.iconst 1, 1) := by decide +kernel
theorem d_A_join_59 : decode prog_2_method_5_code 59 = .ok (.ireturn, 1) := by decide +kernel
theorem w1545 : Cond.methodLink "SeriesVault$Answers" 104 ⟨"SeriesVault$Table", "joinRows", "(ILSeriesVault$Table;)V"⟩ ∈ aW := aw_of (tb_8 (List.mem_of_getElem? (i := 50) rfl)) rfl
theorem w1546 : Cond.code ⟨"SeriesVault$Table", "joinRows", "(ILSeriesVault$Table;)V"⟩ prog_11_method_17_code 6 none ∈ aW := aw_of (tb_8 (List.mem_of_getElem? (i := 53) rfl)) rfl
theorem w1547 : Cond.instanceMethod ⟨"SeriesVault$Table", "joinRows", "(ILSeriesVault$Table;)V"⟩ ∈ aW := aw_of (tb_8 (List.mem_of_getElem? (i := 51) rfl)) rfl
theorem w1548 : Cond.selects "SeriesVault$Table" ⟨"SeriesVault$Table", "joinRows", "(ILSeriesVault$Table;)V"⟩ ⟨"SeriesVault$Table", "joinRows", "(ILSeriesVault$Table;)V"⟩ ∈ aW := aw_of (tb_8 (List.mem_of_getElem? (i := 52) rfl)) rfl
set_option maxHeartbeats 4000000 in
set_option maxRecDepth 100000 in
theorem v_Ajoin_s (l : Launch) (D : va_G) (dA : Nat → ClassId) (sz : Nat) (h : Nat) (ad : Nat → Nat) (ta : Nat → Nat) (t : TB) (tb : Nat → Nat) (u : TB) (la : Nat → Nat) (g : LI) (x : VS) (sg : Int32) (NL : Nat → List Int32) (NR : Nat → List Int32) (RS : Nat → List LB) (RU : Nat → List LB) (hla : la 0 = ad 25) (hs : g.sz ≤ g.eN) (hn : g.eN ≤ 65536) (hd : 2 ≤ x.adep) (hd2 : x.adep ≤ g.sz) (he1 : g.el (x.adep - 2) = some (ta 0)) (he2 : g.el (x.adep - 1) = some (tb 0)) (hna : nmOk dA x.pl t.nm t.nc NL) (hnb : nmOk dA x.pl u.nm u.nc NR) (hc1 : t.nc ≤ 6) (hc2 : u.nc ≤ 6) (hnn : namB NL NR t.nc u.nc = true) (hop : isOp sg) (hcN : t.cN ≤ 65536) (hcM : u.cN ≤ 65536) (hw : u.wi = t.wi) (k1 : t.rc * t.wi ≤ t.cN) (k2 : t.rc ≤ 256) (k3 : u.rc * u.wi ≤ u.cN) (k4 : u.rc ≤ 256) (hra : rsAll dA x.pl t.rs) (hrs : rsOk dA x.pl t.rs t.rc RS) (hru : rsOk dA x.pl u.rs u.rc RU) : Met l ⟨"SeriesVault$Answers", "join", "(I)Z"⟩ [Cond.code ⟨"SeriesVault$Answers", "join", "(I)Z"⟩ prog_2_method_5_code 4 (some FieldType.boolean)] { frames := 5, cells := 0, slots := 0, locals := 109 } (pC D dA [.ref (ad 24), .int sg] (TbW dA ta t ++ (TbW dA tb u ++ (LiW dA la g ++ (VW dA h ad x)))) sz) (va_Qi (fun (r9 : Int32) (u9 : TB) => r9 = 1 ∧ u9 = TB.jm sg NL t u RS RU) (fun (u9 : TB) t9 => bW D (va_A (TbW dA ta t ++ (TbW dA tb u ++ (LiW dA la g ++ (VW dA h ad x)))) sz) (TbW dA ta u9 ++ (TbW dA tb u ++ (LiW dA la g ++ (VW dA h ad (VS.s_adep x (x.adep - 1)))))) t9) (va_A (TbW dA ta t ++ (TbW dA tb u ++ (LiW dA la g ++ (VW dA h ad x)))) sz)) 0 0 (va_A (TbW dA ta t ++ (TbW dA tb u ++ (LiW dA la g ++ (VW dA h ad x)))) sz) := by
  refine mkC (y := ⟨"SeriesVault$Answers", "join", "(I)Z"⟩) (cc := prog_2_method_5_code) (maxL := 4) (av := [.ref (ad 24), .int sg]) (ws := TbW dA ta t ++ (TbW dA tb u ++ (LiW dA la g ++ (VW dA h ad x)))) (sz := sz) (Qc := fun A => va_Qi (fun (r9 : Int32) (u9 : TB) => r9 = 1 ∧ u9 = TB.jm sg NL t u RS RU) (fun (u9 : TB) t9 => bW D A (TbW dA ta u9 ++ (TbW dA tb u ++ (LiW dA la g ++ (VW dA h ad (VS.s_adep x (x.adep - 1)))))) t9) A) (by decide) (Nat.le_of_ble_eq_true rfl) ?_
  intro A p e s m below meth c ls hsz hB
  obtain ⟨hx, hb, hr, hml, hown, hin, hlk, hE, hK, hP, hD, hS, hA, hN, hl⟩ := hB
  have hown : s.vm.findClass "SeriesVault$Answers" = some m.cls := hown
  have hl : lv_has ls 4 [(0, .ref (ad 24)), (1, .int sg)] := hl
  obtain ⟨H, hH⟩ : ∃ z, z = s.heap := ⟨_, rfl⟩
  have hP : va_P D vwCl (TbW dA ta t ++ (TbW dA tb u ++ (LiW dA la g ++ (VW dA h ad x)))) H := by rw [hH]; exact hP
  have hS : va_S A s.heap H [] := by rw [hH]; exact hS
  rw [← hH]
  refine lv_aload_n hx hb d_A_join_0 rfl (lv_at hl 0 rfl) ?_
  refine gF (v := .ref (ad 25)) hx hb hown hE hK hP 49 rfl rfl layA 0 (by decide) w799 rfl d_A_join_1 ?_
  rw [← hla]
  refine lv_aload_n hx hb d_A_join_4 rfl (lv_at hl 0 rfl) ?_
  refine gF (v := .int (nI x.adep)) hx hb hown hE hK hP 49 rfl rfl layA 1 (by decide) w1538 rfl d_A_join_5 ?_
  refine lv_iconst (v := 2) hx hb d_A_join_8 (by decide) ?_
  refine lv_isub hx hb d_A_join_9 (tpi (y := nI (x.adep - 2)) (pk_sub (a := x.adep) (b := 2) (by omega)) ?_)
  have hP := pmP (show List.Perm (α := Nat × va_E) (TbW dA ta t ++ (TbW dA tb u ++ (LiW dA la g ++ (VW dA h ad x)))) (LiW dA la g ++ (TbW dA ta t ++ (TbW dA tb u ++ (VW dA h ad x)))) from (List.Perm.append_left (TbW dA ta t) (List.perm_append_comm_assoc (TbW dA tb u) (LiW dA la g) (VW dA h ad x))).trans (List.perm_append_comm_assoc (TbW dA ta t) (LiW dA la g) (TbW dA tb u ++ (VW dA h ad x)))) hP
  have hD := pmD (show List.Perm (α := Nat × va_E) (TbW dA ta t ++ (TbW dA tb u ++ (LiW dA la g ++ (VW dA h ad x)))) (LiW dA la g ++ (TbW dA ta t ++ (TbW dA tb u ++ (VW dA h ad x)))) from (List.Perm.append_left (TbW dA ta t) (List.perm_append_comm_assoc (TbW dA tb u) (LiW dA la g) (VW dA h ad x))).trans (List.perm_append_comm_assoc (TbW dA ta t) (LiW dA la g) (TbW dA tb u ++ (VW dA h ad x)))) hD
  refine jkR (wr := []) (rnV (As := [.int (nI (x.adep - 2))]) (rest := []) hx hb hml hown hE hK (hN _ _ hS) hP hD (v_Lget l D dA H.size (TbW dA ta t ++ (TbW dA tb u ++ (VW dA h ad x))) la g (x.adep - 2) (ta 0) hs hn (show (x.adep - 2) < g.sz from by omega) he1) (q0 := 0) rfl rfl w1489 w1537 w1490 w1491 w680 rfl rfl ⟨⟨by decide, by decide⟩, rfl⟩ ⟨(Nat.le_of_ble_eq_true rfl), (Nat.le_of_ble_eq_true rfl)⟩ rfl hl.1 rfl (Nat.le_of_ble_eq_true rfl) d_A_join_10 ⟨(Nat.le_of_ble_eq_true rfl), (Nat.le_of_ble_eq_true rfl)⟩) hP hD hS hA (fun u2 r1 H locs hp9 hP hD hS => ?_)
  have hP : va_P D vwCl (LiW dA la g ++ (TbW dA ta t ++ (TbW dA tb u ++ (VW dA h ad x)))) H := hP
  have hD : va_D A (LiW dA la g ++ (TbW dA ta t ++ (TbW dA tb u ++ (VW dA h ad x)))) := hD
  have f_e_3 := hp9
  have e9 := f_e_3
  subst e9
  refine va_castE hx hb hown (hE.t w805 rfl) (va_recv hK hP (ci := 8) (q0 := 2) (q := ("SeriesVault$Table", TT, 7)) rfl rfl) d_A_join_13 ?_
  refine lv_astore_n hx hb d_A_join_16 rfl hl (by decide) rfl (fun ls hl => ?_)
  have hl : lv_has ls 4 [(2, .ref (ta 0)), (0, .ref (ad 24)), (1, .int sg)] := hl
  refine lv_aload_n hx hb d_A_join_17 rfl (lv_at hl 1 rfl) ?_
  refine gF (v := .ref (ad 25)) hx hb hown hE hK hP 49 rfl rfl layA 0 (by decide) w799 rfl d_A_join_18 ?_
  rw [← hla]
  refine lv_aload_n hx hb d_A_join_21 rfl (lv_at hl 1 rfl) ?_
  refine gF (v := .int (nI x.adep)) hx hb hown hE hK hP 49 rfl rfl layA 1 (by decide) w1538 rfl d_A_join_22 ?_
  refine lv_iconst (v := 1) hx hb d_A_join_25 (by decide) ?_
  refine lv_isub hx hb d_A_join_26 (tpi (y := nI (x.adep - 1)) (pk_sub (a := x.adep) (b := 1) (by omega)) ?_)
  refine jkR (wr := []) (rnV (As := [.int (nI (x.adep - 1))]) (rest := []) hx hb hml hown hE hK (hN _ _ hS) hP hD (v_Lget l D dA H.size (TbW dA ta t ++ (TbW dA tb u ++ (VW dA h ad x))) la g (x.adep - 1) (tb 0) hs hn (show (x.adep - 1) < g.sz from by omega) he2) (q0 := 0) rfl rfl w1489 w1537 w1490 w1491 w680 rfl rfl ⟨⟨by decide, by decide⟩, rfl⟩ ⟨(Nat.le_of_ble_eq_true rfl), (Nat.le_of_ble_eq_true rfl)⟩ rfl hl.1 rfl (Nat.le_of_ble_eq_true rfl) d_A_join_27 ⟨(Nat.le_of_ble_eq_true rfl), (Nat.le_of_ble_eq_true rfl)⟩) hP hD hS hA (fun u5 r4 H locs hp9 hP hD hS => ?_)
  have hP : va_P D vwCl (LiW dA la g ++ (TbW dA ta t ++ (TbW dA tb u ++ (VW dA h ad x)))) H := hP
  have hD : va_D A (LiW dA la g ++ (TbW dA ta t ++ (TbW dA tb u ++ (VW dA h ad x)))) := hD
  have f_e_6 := hp9
  have e9 := f_e_6
  subst e9
  refine va_castE hx hb hown (hE.t w805 rfl) (va_recv hK hP (ci := 8) (q0 := 7) (q := ("SeriesVault$Table", TT, 7)) rfl rfl) d_A_join_30 ?_
  refine lv_astore_n hx hb d_A_join_33 rfl hl (by decide) rfl (fun ls hl => ?_)
  have hl : lv_has ls 4 [(3, .ref (tb 0)), (2, .ref (ta 0)), (0, .ref (ad 24)), (1, .int sg)] := hl
  refine lv_aload_n hx hb d_A_join_34 rfl (lv_at hl 2 rfl) ?_
  refine lv_dup hx hb d_A_join_35 rfl ?_
  refine gF (v := .int (nI x.adep)) hx hb hown hE hK hP 49 rfl rfl layA 1 (by decide) w1538 rfl d_A_join_36 ?_
  refine lv_iconst (v := 1) hx hb d_A_join_39 (by decide) ?_
  refine lv_isub hx hb d_A_join_40 (tpi (y := nI (x.adep - 1)) (pk_sub (a := x.adep) (b := 1) (by omega)) ?_)
  refine pF (v := .int (nI (x.adep - 1))) hx hb hown hE hK hP hD hS 49 rfl rfl layA tyA tokA nmA 1 (by decide) w1538 rfl rfl rfl (Nat.le_of_ble_eq_true rfl) d_A_join_41 (fun H locs hP hD hS => ?_)
  have hP : va_P D vwCl (LiW dA la g ++ (TbW dA ta t ++ (TbW dA tb u ++ (VW dA h ad (VS.s_adep x (x.adep - 1)))))) H := hP
  have hD : va_D A (LiW dA la g ++ (TbW dA ta t ++ (TbW dA tb u ++ (VW dA h ad (VS.s_adep x (x.adep - 1)))))) := hD
  refine lv_aload_n hx hb d_A_join_44 rfl (lv_at hl 1 rfl) ?_
  refine lv_aload_n hx hb d_A_join_45 rfl (lv_at hl 0 rfl) ?_
  have hP := pmP (show List.Perm (α := Nat × va_E) (LiW dA la g ++ (TbW dA ta t ++ (TbW dA tb u ++ (VW dA h ad (VS.s_adep x (x.adep - 1)))))) (TbW dA ta t ++ (LiW dA la g ++ (TbW dA tb u ++ (VW dA h ad (VS.s_adep x (x.adep - 1)))))) from List.perm_append_comm_assoc (LiW dA la g) (TbW dA ta t) (TbW dA tb u ++ (VW dA h ad (VS.s_adep x (x.adep - 1))))) hP
  have hD := pmD (show List.Perm (α := Nat × va_E) (LiW dA la g ++ (TbW dA ta t ++ (TbW dA tb u ++ (VW dA h ad (VS.s_adep x (x.adep - 1)))))) (TbW dA ta t ++ (LiW dA la g ++ (TbW dA tb u ++ (VW dA h ad (VS.s_adep x (x.adep - 1)))))) from List.perm_append_comm_assoc (LiW dA la g) (TbW dA ta t) (TbW dA tb u ++ (VW dA h ad (VS.s_adep x (x.adep - 1))))) hD
  have hP := pmP (show List.Perm (α := Nat × va_E) (TbW dA ta t ++ (LiW dA la g ++ (TbW dA tb u ++ (VW dA h ad (VS.s_adep x (x.adep - 1)))))) (TbW dA ta t ++ (TbW dA tb u ++ (LiW dA la g ++ (VW dA h ad (VS.s_adep x (x.adep - 1)))))) from List.Perm.append_left (TbW dA ta t) (List.perm_append_comm_assoc (LiW dA la g) (TbW dA tb u) (VW dA h ad (VS.s_adep x (x.adep - 1))))) hP
  have hD := pmD (show List.Perm (α := Nat × va_E) (TbW dA ta t ++ (LiW dA la g ++ (TbW dA tb u ++ (VW dA h ad (VS.s_adep x (x.adep - 1)))))) (TbW dA ta t ++ (TbW dA tb u ++ (LiW dA la g ++ (VW dA h ad (VS.s_adep x (x.adep - 1)))))) from List.Perm.append_left (TbW dA ta t) (List.perm_append_comm_assoc (LiW dA la g) (TbW dA tb u) (VW dA h ad (VS.s_adep x (x.adep - 1))))) hD
  refine jkI (wr := []) (rnV (As := [.ref (tb 0)]) (rest := []) hx hb hml hown hE hK (hN _ _ hS) hP hD (v_ThasNamesOf l D dA H.size (LiW dA la g ++ (VW dA h ad (VS.s_adep x (x.adep - 1)))) ta t tb u NL NR (nmOk_m (fun _ hm => (List.mem_append_right _ (plm hm))) hna) (nmOk_m (fun _ hm => (List.mem_append_right _ (plm hm))) hnb) hc1 hc2) (q0 := 0) rfl rfl w1541 w1540 w1542 w1543 w807 rfl rfl ⟨⟨by decide, by decide⟩, rfl⟩ ⟨(Nat.le_of_ble_eq_true rfl), (Nat.le_of_ble_eq_true rfl)⟩ rfl hl.1 rfl (Nat.le_of_ble_eq_true rfl) d_A_join_46 ⟨(Nat.le_of_ble_eq_true rfl), (Nat.le_of_ble_eq_true rfl)⟩) hP hD hS hA (fun r7 u8 H locs hp9 hP hD hS => ?_)
  have hP : va_P D vwCl (TbW dA ta t ++ (TbW dA tb u ++ (LiW dA la g ++ (VW dA h ad (VS.s_adep x (x.adep - 1)))))) H := hP
  have hD : va_D A (TbW dA ta t ++ (TbW dA tb u ++ (LiW dA la g ++ (VW dA h ad (VS.s_adep x (x.adep - 1)))))) := hD
  replace hp9 : bI (namB NL NR t.nc u.nc) = r7 := Eq.symm hp9
  subst hp9
  refine lv_if_eq hx hb d_A_join_49 (tgt := 60) rfl (fun h9 => absurd h9 (by rw [hnn]; decide)) (fun _ => ?_)
  refine lv_aload_n hx hb d_A_join_52 rfl (lv_at hl 1 rfl) ?_
  refine lv_iload_n hx hb d_A_join_53 rfl (lv_at hl 3 rfl) ?_
  refine lv_aload_n hx hb d_A_join_54 rfl (lv_at hl 0 rfl) ?_
  refine jkV (wr := []) (rnV (As := [.int sg, .ref (tb 0)]) (rest := []) hx hb hml hown hE hK (hN _ _ hS) hP hD (v_TjoinRows l D dA H.size (LiW dA la g ++ (VW dA h ad (VS.s_adep x (x.adep - 1)))) ta t tb u sg NL RS RU hop hcN hcM k1 k2 hw k3 k4 (nmOk_m (fun _ hm => (List.mem_append_right _ (plm hm))) hna) hc1 (rsAll_m (fun _ hm => (List.mem_append_right _ (plm hm))) hra) (rsOk_m (fun _ hm => (List.mem_append_right _ (plm hm))) hrs) (rsOk_m (fun _ hm => (List.mem_append_right _ (plm hm))) hru)) (q0 := 0) rfl rfl w1546 w1545 w1547 w1548 w807 rfl rfl ⟨⟨by decide, by decide⟩, rfl⟩ ⟨(Nat.le_of_ble_eq_true rfl), (Nat.le_of_ble_eq_true rfl)⟩ rfl hl.1 rfl (Nat.le_of_ble_eq_true rfl) d_A_join_55 ⟨(Nat.le_of_ble_eq_true rfl), (Nat.le_of_ble_eq_true rfl)⟩) hP hD hS hA (fun u10 H locs hp9 hP hD hS => ?_)
  obtain ⟨y11, h9u⟩ : ∃ z9, z9 = u10 := ⟨_, rfl⟩
  subst h9u
  have hP : va_P D vwCl (TbW dA ta y11 ++ (TbW dA tb u ++ (LiW dA la g ++ (VW dA h ad (VS.s_adep x (x.adep - 1)))))) H := hP
  have hD : va_D A (TbW dA ta y11 ++ (TbW dA tb u ++ (LiW dA la g ++ (VW dA h ad (VS.s_adep x (x.adep - 1)))))) := hD
  have f_e_12 := hp9
  refine lv_iconst (v := 1) hx hb d_A_join_58 (by decide) ?_
  exact rfZ hx hb hr (bI_nar true) hlk hS y11 ⟨rfl, f_e_12⟩ hP hD (Nat.le_of_ble_eq_true rfl) (Nat.le_of_ble_eq_true rfl) d_A_join_59
end
section
theorem d_A_join_67 : decode prog_2_method_5_code 67 = .ok (.aload_n 2, 1) := by decide +kernel
theorem d_A_join_68 : decode prog_2_method_5_code 68 = .ok (.iload_n 1, 1) := by decide +kernel
theorem d_A_join_69 : decode prog_2_method_5_code 69 = .ok (.aload_n 3, 1) := by decide +kernel
theorem d_A_join_70 : decode prog_2_method_5_code 70 = .ok (.iconst 0, 1) := by decide +kernel
theorem d_A_join_71 : decode prog_2_method_5_code 71 = .ok (.invokevirtual 111, 3) := by decide +kernel
theorem d_A_join_74 : decode prog_2_method_5_code 74 = .ok (.iconst 1, 1) := by decide +kernel
theorem d_A_join_75 : decode prog_2_method_5_code 75 = .ok (.ireturn, 1) := by decide +kernel
theorem w1549 : Cond.methodLink "SeriesVault$Answers" 111 ⟨"SeriesVault$Table", "joinWithSingle", "(ILSeriesVault$Table;Z)V"⟩ ∈ aW := aw_of (tb_8 (List.mem_of_getElem? (i := 63) rfl)) rfl
theorem w1550 : Cond.code ⟨"SeriesVault$Table", "joinWithSingle", "(ILSeriesVault$Table;Z)V"⟩ prog_11_method_18_code 5 none ∈ aW := aw_of (tb_8 (List.mem_of_getElem? (i := 66) rfl)) rfl
theorem w1551 : Cond.instanceMethod ⟨"SeriesVault$Table", "joinWithSingle", "(ILSeriesVault$Table;Z)V"⟩ ∈ aW := aw_of (tb_8 (List.mem_of_getElem? (i := 64) rfl)) rfl
theorem w1552 : Cond.selects "SeriesVault$Table" ⟨"SeriesVault$Table", "joinWithSingle", "(ILSeriesVault$Table;Z)V"⟩ ⟨"SeriesVault$Table", "joinWithSingle", "(ILSeriesVault$Table;Z)V"⟩ ∈ aW := aw_of (tb_8 (List.mem_of_getElem? (i := 65) rfl)) rfl
set_option maxHeartbeats 4000000 in
set_option maxRecDepth 100000 in
theorem v_Ajoin_l (l : Launch) (D : va_G) (dA : Nat → ClassId) (sz : Nat) (h : Nat) (ad : Nat → Nat) (ta : Nat → Nat) (t : TB) (tb : Nat → Nat) (u : TB) (la : Nat → Nat) (g : LI) (x : VS) (sg : Int32) (NL : Nat → List Int32) (NR : Nat → List Int32) (hla : la 0 = ad 25) (hs : g.sz ≤ g.eN) (hn : g.eN ≤ 65536) (hd : 2 ≤ x.adep) (hd2 : x.adep ≤ g.sz) (he1 : g.el (x.adep - 2) = some (ta 0)) (he2 : g.el (x.adep - 1) = some (tb 0)) (hna : nmOk dA x.pl t.nm t.nc NL) (hnb : nmOk dA x.pl u.nm u.nc NR) (hc1 : t.nc ≤ 6) (hc2 : u.nc ≤ 6) (hnn : namB NL NR t.nc u.nc = false) (hu0 : u.nc = 0) (hop : isOp sg) (hcN : t.cN ≤ 65536) (hcM : u.cN ≤ 65536) (hw : u.wi = t.wi) (k1 : t.rc * t.wi ≤ t.cN) (k2 : t.rc ≤ 256) (k3 : u.rc * u.wi ≤ u.cN) (k4 : u.rc ≤ 256) (hra : rsAll dA x.pl t.rs) (hu : ¬ u.rc = 0) : Met l ⟨"SeriesVault$Answers", "join", "(I)Z"⟩ [Cond.code ⟨"SeriesVault$Answers", "join", "(I)Z"⟩ prog_2_method_5_code 4 (some FieldType.boolean)] { frames := 4, cells := 0, slots := 0, locals := 108 } (pC D dA [.ref (ad 24), .int sg] (TbW dA ta t ++ (TbW dA tb u ++ (LiW dA la g ++ (VW dA h ad x)))) sz) (va_Qi (fun (r9 : Int32) (u9 : TB) => r9 = 1 ∧ u9 = (jsL sg t u t.rc).de) (fun (u9 : TB) t9 => bW D (va_A (TbW dA ta t ++ (TbW dA tb u ++ (LiW dA la g ++ (VW dA h ad x)))) sz) (TbW dA ta u9 ++ (TbW dA tb u ++ (LiW dA la g ++ (VW dA h ad (VS.s_adep x (x.adep - 1)))))) t9) (va_A (TbW dA ta t ++ (TbW dA tb u ++ (LiW dA la g ++ (VW dA h ad x)))) sz)) 0 0 (va_A (TbW dA ta t ++ (TbW dA tb u ++ (LiW dA la g ++ (VW dA h ad x)))) sz) := by
  refine mkC (y := ⟨"SeriesVault$Answers", "join", "(I)Z"⟩) (cc := prog_2_method_5_code) (maxL := 4) (av := [.ref (ad 24), .int sg]) (ws := TbW dA ta t ++ (TbW dA tb u ++ (LiW dA la g ++ (VW dA h ad x)))) (sz := sz) (Qc := fun A => va_Qi (fun (r9 : Int32) (u9 : TB) => r9 = 1 ∧ u9 = (jsL sg t u t.rc).de) (fun (u9 : TB) t9 => bW D A (TbW dA ta u9 ++ (TbW dA tb u ++ (LiW dA la g ++ (VW dA h ad (VS.s_adep x (x.adep - 1)))))) t9) A) (by decide) (Nat.le_of_ble_eq_true rfl) ?_
  intro A p e s m below meth c ls hsz hB
  obtain ⟨hx, hb, hr, hml, hown, hin, hlk, hE, hK, hP, hD, hS, hA, hN, hl⟩ := hB
  have hown : s.vm.findClass "SeriesVault$Answers" = some m.cls := hown
  have hl : lv_has ls 4 [(0, .ref (ad 24)), (1, .int sg)] := hl
  obtain ⟨H, hH⟩ : ∃ z, z = s.heap := ⟨_, rfl⟩
  have hP : va_P D vwCl (TbW dA ta t ++ (TbW dA tb u ++ (LiW dA la g ++ (VW dA h ad x)))) H := by rw [hH]; exact hP
  have hS : va_S A s.heap H [] := by rw [hH]; exact hS
  rw [← hH]
  refine lv_aload_n hx hb d_A_join_0 rfl (lv_at hl 0 rfl) ?_
  refine gF (v := .ref (ad 25)) hx hb hown hE hK hP 49 rfl rfl layA 0 (by decide) w799 rfl d_A_join_1 ?_
  rw [← hla]
  refine lv_aload_n hx hb d_A_join_4 rfl (lv_at hl 0 rfl) ?_
  refine gF (v := .int (nI x.adep)) hx hb hown hE hK hP 49 rfl rfl layA 1 (by decide) w1538 rfl d_A_join_5 ?_
  refine lv_iconst (v := 2) hx hb d_A_join_8 (by decide) ?_
  refine lv_isub hx hb d_A_join_9 (tpi (y := nI (x.adep - 2)) (pk_sub (a := x.adep) (b := 2) (by omega)) ?_)
  have hP := pmP (show List.Perm (α := Nat × va_E) (TbW dA ta t ++ (TbW dA tb u ++ (LiW dA la g ++ (VW dA h ad x)))) (LiW dA la g ++ (TbW dA ta t ++ (TbW dA tb u ++ (VW dA h ad x)))) from (List.Perm.append_left (TbW dA ta t) (List.perm_append_comm_assoc (TbW dA tb u) (LiW dA la g) (VW dA h ad x))).trans (List.perm_append_comm_assoc (TbW dA ta t) (LiW dA la g) (TbW dA tb u ++ (VW dA h ad x)))) hP
  have hD := pmD (show List.Perm (α := Nat × va_E) (TbW dA ta t ++ (TbW dA tb u ++ (LiW dA la g ++ (VW dA h ad x)))) (LiW dA la g ++ (TbW dA ta t ++ (TbW dA tb u ++ (VW dA h ad x)))) from (List.Perm.append_left (TbW dA ta t) (List.perm_append_comm_assoc (TbW dA tb u) (LiW dA la g) (VW dA h ad x))).trans (List.perm_append_comm_assoc (TbW dA ta t) (LiW dA la g) (TbW dA tb u ++ (VW dA h ad x)))) hD
  refine jkR (wr := []) (rnV (As := [.int (nI (x.adep - 2))]) (rest := []) hx hb hml hown hE hK (hN _ _ hS) hP hD (v_Lget l D dA H.size (TbW dA ta t ++ (TbW dA tb u ++ (VW dA h ad x))) la g (x.adep - 2) (ta 0) hs hn (show (x.adep - 2) < g.sz from by omega) he1) (q0 := 0) rfl rfl w1489 w1537 w1490 w1491 w680 rfl rfl ⟨⟨by decide, by decide⟩, rfl⟩ ⟨(Nat.le_of_ble_eq_true rfl), (Nat.le_of_ble_eq_true rfl)⟩ rfl hl.1 rfl (Nat.le_of_ble_eq_true rfl) d_A_join_10 ⟨(Nat.le_of_ble_eq_true rfl), (Nat.le_of_ble_eq_true rfl)⟩) hP hD hS hA (fun u2 r1 H locs hp9 hP hD hS => ?_)
  have hP : va_P D vwCl (LiW dA la g ++ (TbW dA ta t ++ (TbW dA tb u ++ (VW dA h ad x)))) H := hP
  have hD : va_D A (LiW dA la g ++ (TbW dA ta t ++ (TbW dA tb u ++ (VW dA h ad x)))) := hD
  have f_e_3 := hp9
  have e9 := f_e_3
  subst e9
  refine va_castE hx hb hown (hE.t w805 rfl) (va_recv hK hP (ci := 8) (q0 := 2) (q := ("SeriesVault$Table", TT, 7)) rfl rfl) d_A_join_13 ?_
  refine lv_astore_n hx hb d_A_join_16 rfl hl (by decide) rfl (fun ls hl => ?_)
  have hl : lv_has ls 4 [(2, .ref (ta 0)), (0, .ref (ad 24)), (1, .int sg)] := hl
  refine lv_aload_n hx hb d_A_join_17 rfl (lv_at hl 1 rfl) ?_
  refine gF (v := .ref (ad 25)) hx hb hown hE hK hP 49 rfl rfl layA 0 (by decide) w799 rfl d_A_join_18 ?_
  rw [← hla]
  refine lv_aload_n hx hb d_A_join_21 rfl (lv_at hl 1 rfl) ?_
  refine gF (v := .int (nI x.adep)) hx hb hown hE hK hP 49 rfl rfl layA 1 (by decide) w1538 rfl d_A_join_22 ?_
  refine lv_iconst (v := 1) hx hb d_A_join_25 (by decide) ?_
  refine lv_isub hx hb d_A_join_26 (tpi (y := nI (x.adep - 1)) (pk_sub (a := x.adep) (b := 1) (by omega)) ?_)
  refine jkR (wr := []) (rnV (As := [.int (nI (x.adep - 1))]) (rest := []) hx hb hml hown hE hK (hN _ _ hS) hP hD (v_Lget l D dA H.size (TbW dA ta t ++ (TbW dA tb u ++ (VW dA h ad x))) la g (x.adep - 1) (tb 0) hs hn (show (x.adep - 1) < g.sz from by omega) he2) (q0 := 0) rfl rfl w1489 w1537 w1490 w1491 w680 rfl rfl ⟨⟨by decide, by decide⟩, rfl⟩ ⟨(Nat.le_of_ble_eq_true rfl), (Nat.le_of_ble_eq_true rfl)⟩ rfl hl.1 rfl (Nat.le_of_ble_eq_true rfl) d_A_join_27 ⟨(Nat.le_of_ble_eq_true rfl), (Nat.le_of_ble_eq_true rfl)⟩) hP hD hS hA (fun u5 r4 H locs hp9 hP hD hS => ?_)
  have hP : va_P D vwCl (LiW dA la g ++ (TbW dA ta t ++ (TbW dA tb u ++ (VW dA h ad x)))) H := hP
  have hD : va_D A (LiW dA la g ++ (TbW dA ta t ++ (TbW dA tb u ++ (VW dA h ad x)))) := hD
  have f_e_6 := hp9
  have e9 := f_e_6
  subst e9
  refine va_castE hx hb hown (hE.t w805 rfl) (va_recv hK hP (ci := 8) (q0 := 7) (q := ("SeriesVault$Table", TT, 7)) rfl rfl) d_A_join_30 ?_
  refine lv_astore_n hx hb d_A_join_33 rfl hl (by decide) rfl (fun ls hl => ?_)
  have hl : lv_has ls 4 [(3, .ref (tb 0)), (2, .ref (ta 0)), (0, .ref (ad 24)), (1, .int sg)] := hl
  refine lv_aload_n hx hb d_A_join_34 rfl (lv_at hl 2 rfl) ?_
  refine lv_dup hx hb d_A_join_35 rfl ?_
  refine gF (v := .int (nI x.adep)) hx hb hown hE hK hP 49 rfl rfl layA 1 (by decide) w1538 rfl d_A_join_36 ?_
  refine lv_iconst (v := 1) hx hb d_A_join_39 (by decide) ?_
  refine lv_isub hx hb d_A_join_40 (tpi (y := nI (x.adep - 1)) (pk_sub (a := x.adep) (b := 1) (by omega)) ?_)
  refine pF (v := .int (nI (x.adep - 1))) hx hb hown hE hK hP hD hS 49 rfl rfl layA tyA tokA nmA 1 (by decide) w1538 rfl rfl rfl (Nat.le_of_ble_eq_true rfl) d_A_join_41 (fun H locs hP hD hS => ?_)
  have hP : va_P D vwCl (LiW dA la g ++ (TbW dA ta t ++ (TbW dA tb u ++ (VW dA h ad (VS.s_adep x (x.adep - 1)))))) H := hP
  have hD : va_D A (LiW dA la g ++ (TbW dA ta t ++ (TbW dA tb u ++ (VW dA h ad (VS.s_adep x (x.adep - 1)))))) := hD
  refine lv_aload_n hx hb d_A_join_44 rfl (lv_at hl 1 rfl) ?_
  refine lv_aload_n hx hb d_A_join_45 rfl (lv_at hl 0 rfl) ?_
  have hP := pmP (show List.Perm (α := Nat × va_E) (LiW dA la g ++ (TbW dA ta t ++ (TbW dA tb u ++ (VW dA h ad (VS.s_adep x (x.adep - 1)))))) (TbW dA ta t ++ (LiW dA la g ++ (TbW dA tb u ++ (VW dA h ad (VS.s_adep x (x.adep - 1)))))) from List.perm_append_comm_assoc (LiW dA la g) (TbW dA ta t) (TbW dA tb u ++ (VW dA h ad (VS.s_adep x (x.adep - 1))))) hP
  have hD := pmD (show List.Perm (α := Nat × va_E) (LiW dA la g ++ (TbW dA ta t ++ (TbW dA tb u ++ (VW dA h ad (VS.s_adep x (x.adep - 1)))))) (TbW dA ta t ++ (LiW dA la g ++ (TbW dA tb u ++ (VW dA h ad (VS.s_adep x (x.adep - 1)))))) from List.perm_append_comm_assoc (LiW dA la g) (TbW dA ta t) (TbW dA tb u ++ (VW dA h ad (VS.s_adep x (x.adep - 1))))) hD
  have hP := pmP (show List.Perm (α := Nat × va_E) (TbW dA ta t ++ (LiW dA la g ++ (TbW dA tb u ++ (VW dA h ad (VS.s_adep x (x.adep - 1)))))) (TbW dA ta t ++ (TbW dA tb u ++ (LiW dA la g ++ (VW dA h ad (VS.s_adep x (x.adep - 1)))))) from List.Perm.append_left (TbW dA ta t) (List.perm_append_comm_assoc (LiW dA la g) (TbW dA tb u) (VW dA h ad (VS.s_adep x (x.adep - 1))))) hP
  have hD := pmD (show List.Perm (α := Nat × va_E) (TbW dA ta t ++ (LiW dA la g ++ (TbW dA tb u ++ (VW dA h ad (VS.s_adep x (x.adep - 1)))))) (TbW dA ta t ++ (TbW dA tb u ++ (LiW dA la g ++ (VW dA h ad (VS.s_adep x (x.adep - 1)))))) from List.Perm.append_left (TbW dA ta t) (List.perm_append_comm_assoc (LiW dA la g) (TbW dA tb u) (VW dA h ad (VS.s_adep x (x.adep - 1))))) hD
  refine jkI (wr := []) (rnV (As := [.ref (tb 0)]) (rest := []) hx hb hml hown hE hK (hN _ _ hS) hP hD (v_ThasNamesOf l D dA H.size (LiW dA la g ++ (VW dA h ad (VS.s_adep x (x.adep - 1)))) ta t tb u NL NR (nmOk_m (fun _ hm => (List.mem_append_right _ (plm hm))) hna) (nmOk_m (fun _ hm => (List.mem_append_right _ (plm hm))) hnb) hc1 hc2) (q0 := 0) rfl rfl w1541 w1540 w1542 w1543 w807 rfl rfl ⟨⟨by decide, by decide⟩, rfl⟩ ⟨(Nat.le_of_ble_eq_true rfl), (Nat.le_of_ble_eq_true rfl)⟩ rfl hl.1 rfl (Nat.le_of_ble_eq_true rfl) d_A_join_46 ⟨(Nat.le_of_ble_eq_true rfl), (Nat.le_of_ble_eq_true rfl)⟩) hP hD hS hA (fun r7 u8 H locs hp9 hP hD hS => ?_)
  have hP : va_P D vwCl (TbW dA ta t ++ (TbW dA tb u ++ (LiW dA la g ++ (VW dA h ad (VS.s_adep x (x.adep - 1)))))) H := hP
  have hD : va_D A (TbW dA ta t ++ (TbW dA tb u ++ (LiW dA la g ++ (VW dA h ad (VS.s_adep x (x.adep - 1)))))) := hD
  replace hp9 : bI (namB NL NR t.nc u.nc) = r7 := Eq.symm hp9
  subst hp9
  refine lv_if_eq hx hb d_A_join_49 (tgt := 60) rfl (fun _ => ?_) (fun h9 => absurd (by rw [hnn]; decide) h9)
  refine lv_aload_n hx hb d_A_join_60 rfl (lv_at hl 0 rfl) ?_
  refine gFN (v := .int (nI u.nc)) hx hb hown hE hK hP 5 rfl rfl layT 1 (by decide) w1544 rfl d_A_join_61 ?_
  refine lv_if_ne hx hb d_A_join_64 (tgt := 76) rfl (fun h9 => absurd ((nI_eq (a := u.nc) (b := 0) (by omega) (by omega)).mpr hu0) h9) (fun _ => ?_)
  refine lv_aload_n hx hb d_A_join_67 rfl (lv_at hl 1 rfl) ?_
  refine lv_iload_n hx hb d_A_join_68 rfl (lv_at hl 3 rfl) ?_
  refine lv_aload_n hx hb d_A_join_69 rfl (lv_at hl 0 rfl) ?_
  refine lv_iconst (v := 0) hx hb d_A_join_70 (by decide) ?_
  refine jkV (wr := []) (rnV (As := [.int sg, .ref (tb 0), .int 0]) (rest := []) hx hb hml hown hE hK (hN _ _ hS) hP hD (v_TjoinWithSingle_l l D dA H.size (LiW dA la g ++ (VW dA h ad (VS.s_adep x (x.adep - 1)))) ta t tb u sg hop hcN hcM k1 k2 hw k3 k4 (rsAll_m (fun _ hm => (List.mem_append_right _ (plm hm))) hra) hu) (q0 := 0) rfl rfl w1550 w1549 w1551 w1552 w807 rfl rfl ⟨⟨by decide, by decide⟩, rfl⟩ ⟨(Nat.le_of_ble_eq_true rfl), (Nat.le_of_ble_eq_true rfl)⟩ rfl hl.1 rfl (Nat.le_of_ble_eq_true rfl) d_A_join_71 ⟨(Nat.le_of_ble_eq_true rfl), (Nat.le_of_ble_eq_true rfl)⟩) hP hD hS hA (fun u10 H locs hp9 hP hD hS => ?_)
  obtain ⟨y11, h9u⟩ : ∃ z9, z9 = u10 := ⟨_, rfl⟩
  subst h9u
  have hP : va_P D vwCl (TbW dA ta y11 ++ (TbW dA tb u ++ (LiW dA la g ++ (VW dA h ad (VS.s_adep x (x.adep - 1)))))) H := hP
  have hD : va_D A (TbW dA ta y11 ++ (TbW dA tb u ++ (LiW dA la g ++ (VW dA h ad (VS.s_adep x (x.adep - 1)))))) := hD
  have f_e_12 := hp9
  refine lv_iconst (v := 1) hx hb d_A_join_74 (by decide) ?_
  exact rfZ hx hb hr (bI_nar true) hlk hS y11 ⟨rfl, f_e_12⟩ hP hD (Nat.le_of_ble_eq_true rfl) (Nat.le_of_ble_eq_true rfl) d_A_join_75
set_option maxHeartbeats 4000000 in
set_option maxRecDepth 100000 in
theorem v_Ajoin_l0 (l : Launch) (D : va_G) (dA : Nat → ClassId) (sz : Nat) (h : Nat) (ad : Nat → Nat) (ta : Nat → Nat) (t : TB) (tb : Nat → Nat) (u : TB) (la : Nat → Nat) (g : LI) (x : VS) (sg : Int32) (NL : Nat → List Int32) (NR : Nat → List Int32) (hla : la 0 = ad 25) (hs : g.sz ≤ g.eN) (hn : g.eN ≤ 65536) (hd : 2 ≤ x.adep) (hd2 : x.adep ≤ g.sz) (he1 : g.el (x.adep - 2) = some (ta 0)) (he2 : g.el (x.adep - 1) = some (tb 0)) (hna : nmOk dA x.pl t.nm t.nc NL) (hnb : nmOk dA x.pl u.nm u.nc NR) (hc1 : t.nc ≤ 6) (hc2 : u.nc ≤ 6) (hnn : namB NL NR t.nc u.nc = false) (hu0 : u.nc = 0) (hcN : t.cN ≤ 65536) (hra : rsAll dA x.pl t.rs) (hu : u.rc = 0) : Met l ⟨"SeriesVault$Answers", "join", "(I)Z"⟩ [Cond.code ⟨"SeriesVault$Answers", "join", "(I)Z"⟩ prog_2_method_5_code 4 (some FieldType.boolean)] { frames := 4, cells := 0, slots := 0, locals := 108 } (pC D dA [.ref (ad 24), .int sg] (TbW dA ta t ++ (TbW dA tb u ++ (LiW dA la g ++ (VW dA h ad x)))) sz) (va_Qi (fun (r9 : Int32) (u9 : TB) => r9 = 1 ∧ u9 = TB.de (TB.s_rc t 0)) (fun (u9 : TB) t9 => bW D (va_A (TbW dA ta t ++ (TbW dA tb u ++ (LiW dA la g ++ (VW dA h ad x)))) sz) (TbW dA ta u9 ++ (TbW dA tb u ++ (LiW dA la g ++ (VW dA h ad (VS.s_adep x (x.adep - 1)))))) t9) (va_A (TbW dA ta t ++ (TbW dA tb u ++ (LiW dA la g ++ (VW dA h ad x)))) sz)) 0 0 (va_A (TbW dA ta t ++ (TbW dA tb u ++ (LiW dA la g ++ (VW dA h ad x)))) sz) := by
  refine mkC (y := ⟨"SeriesVault$Answers", "join", "(I)Z"⟩) (cc := prog_2_method_5_code) (maxL := 4) (av := [.ref (ad 24), .int sg]) (ws := TbW dA ta t ++ (TbW dA tb u ++ (LiW dA la g ++ (VW dA h ad x)))) (sz := sz) (Qc := fun A => va_Qi (fun (r9 : Int32) (u9 : TB) => r9 = 1 ∧ u9 = TB.de (TB.s_rc t 0)) (fun (u9 : TB) t9 => bW D A (TbW dA ta u9 ++ (TbW dA tb u ++ (LiW dA la g ++ (VW dA h ad (VS.s_adep x (x.adep - 1)))))) t9) A) (by decide) (Nat.le_of_ble_eq_true rfl) ?_
  intro A p e s m below meth c ls hsz hB
  obtain ⟨hx, hb, hr, hml, hown, hin, hlk, hE, hK, hP, hD, hS, hA, hN, hl⟩ := hB
  have hown : s.vm.findClass "SeriesVault$Answers" = some m.cls := hown
  have hl : lv_has ls 4 [(0, .ref (ad 24)), (1, .int sg)] := hl
  obtain ⟨H, hH⟩ : ∃ z, z = s.heap := ⟨_, rfl⟩
  have hP : va_P D vwCl (TbW dA ta t ++ (TbW dA tb u ++ (LiW dA la g ++ (VW dA h ad x)))) H := by rw [hH]; exact hP
  have hS : va_S A s.heap H [] := by rw [hH]; exact hS
  rw [← hH]
  refine lv_aload_n hx hb d_A_join_0 rfl (lv_at hl 0 rfl) ?_
  refine gF (v := .ref (ad 25)) hx hb hown hE hK hP 49 rfl rfl layA 0 (by decide) w799 rfl d_A_join_1 ?_
  rw [← hla]
  refine lv_aload_n hx hb d_A_join_4 rfl (lv_at hl 0 rfl) ?_
  refine gF (v := .int (nI x.adep)) hx hb hown hE hK hP 49 rfl rfl layA 1 (by decide) w1538 rfl d_A_join_5 ?_
  refine lv_iconst (v := 2) hx hb d_A_join_8 (by decide) ?_
  refine lv_isub hx hb d_A_join_9 (tpi (y := nI (x.adep - 2)) (pk_sub (a := x.adep) (b := 2) (by omega)) ?_)
  have hP := pmP (show List.Perm (α := Nat × va_E) (TbW dA ta t ++ (TbW dA tb u ++ (LiW dA la g ++ (VW dA h ad x)))) (LiW dA la g ++ (TbW dA ta t ++ (TbW dA tb u ++ (VW dA h ad x)))) from (List.Perm.append_left (TbW dA ta t) (List.perm_append_comm_assoc (TbW dA tb u) (LiW dA la g) (VW dA h ad x))).trans (List.perm_append_comm_assoc (TbW dA ta t) (LiW dA la g) (TbW dA tb u ++ (VW dA h ad x)))) hP
  have hD := pmD (show List.Perm (α := Nat × va_E) (TbW dA ta t ++ (TbW dA tb u ++ (LiW dA la g ++ (VW dA h ad x)))) (LiW dA la g ++ (TbW dA ta t ++ (TbW dA tb u ++ (VW dA h ad x)))) from (List.Perm.append_left (TbW dA ta t) (List.perm_append_comm_assoc (TbW dA tb u) (LiW dA la g) (VW dA h ad x))).trans (List.perm_append_comm_assoc (TbW dA ta t) (LiW dA la g) (TbW dA tb u ++ (VW dA h ad x)))) hD
  refine jkR (wr := []) (rnV (As := [.int (nI (x.adep - 2))]) (rest := []) hx hb hml hown hE hK (hN _ _ hS) hP hD (v_Lget l D dA H.size (TbW dA ta t ++ (TbW dA tb u ++ (VW dA h ad x))) la g (x.adep - 2) (ta 0) hs hn (show (x.adep - 2) < g.sz from by omega) he1) (q0 := 0) rfl rfl w1489 w1537 w1490 w1491 w680 rfl rfl ⟨⟨by decide, by decide⟩, rfl⟩ ⟨(Nat.le_of_ble_eq_true rfl), (Nat.le_of_ble_eq_true rfl)⟩ rfl hl.1 rfl (Nat.le_of_ble_eq_true rfl) d_A_join_10 ⟨(Nat.le_of_ble_eq_true rfl), (Nat.le_of_ble_eq_true rfl)⟩) hP hD hS hA (fun u2 r1 H locs hp9 hP hD hS => ?_)
  have hP : va_P D vwCl (LiW dA la g ++ (TbW dA ta t ++ (TbW dA tb u ++ (VW dA h ad x)))) H := hP
  have hD : va_D A (LiW dA la g ++ (TbW dA ta t ++ (TbW dA tb u ++ (VW dA h ad x)))) := hD
  have f_e_3 := hp9
  have e9 := f_e_3
  subst e9
  refine va_castE hx hb hown (hE.t w805 rfl) (va_recv hK hP (ci := 8) (q0 := 2) (q := ("SeriesVault$Table", TT, 7)) rfl rfl) d_A_join_13 ?_
  refine lv_astore_n hx hb d_A_join_16 rfl hl (by decide) rfl (fun ls hl => ?_)
  have hl : lv_has ls 4 [(2, .ref (ta 0)), (0, .ref (ad 24)), (1, .int sg)] := hl
  refine lv_aload_n hx hb d_A_join_17 rfl (lv_at hl 1 rfl) ?_
  refine gF (v := .ref (ad 25)) hx hb hown hE hK hP 49 rfl rfl layA 0 (by decide) w799 rfl d_A_join_18 ?_
  rw [← hla]
  refine lv_aload_n hx hb d_A_join_21 rfl (lv_at hl 1 rfl) ?_
  refine gF (v := .int (nI x.adep)) hx hb hown hE hK hP 49 rfl rfl layA 1 (by decide) w1538 rfl d_A_join_22 ?_
  refine lv_iconst (v := 1) hx hb d_A_join_25 (by decide) ?_
  refine lv_isub hx hb d_A_join_26 (tpi (y := nI (x.adep - 1)) (pk_sub (a := x.adep) (b := 1) (by omega)) ?_)
  refine jkR (wr := []) (rnV (As := [.int (nI (x.adep - 1))]) (rest := []) hx hb hml hown hE hK (hN _ _ hS) hP hD (v_Lget l D dA H.size (TbW dA ta t ++ (TbW dA tb u ++ (VW dA h ad x))) la g (x.adep - 1) (tb 0) hs hn (show (x.adep - 1) < g.sz from by omega) he2) (q0 := 0) rfl rfl w1489 w1537 w1490 w1491 w680 rfl rfl ⟨⟨by decide, by decide⟩, rfl⟩ ⟨(Nat.le_of_ble_eq_true rfl), (Nat.le_of_ble_eq_true rfl)⟩ rfl hl.1 rfl (Nat.le_of_ble_eq_true rfl) d_A_join_27 ⟨(Nat.le_of_ble_eq_true rfl), (Nat.le_of_ble_eq_true rfl)⟩) hP hD hS hA (fun u5 r4 H locs hp9 hP hD hS => ?_)
  have hP : va_P D vwCl (LiW dA la g ++ (TbW dA ta t ++ (TbW dA tb u ++ (VW dA h ad x)))) H := hP
  have hD : va_D A (LiW dA la g ++ (TbW dA ta t ++ (TbW dA tb u ++ (VW dA h ad x)))) := hD
  have f_e_6 := hp9
  have e9 := f_e_6
  subst e9
  refine va_castE hx hb hown (hE.t w805 rfl) (va_recv hK hP (ci := 8) (q0 := 7) (q := ("SeriesVault$Table", TT, 7)) rfl rfl) d_A_join_30 ?_
  refine lv_astore_n hx hb d_A_join_33 rfl hl (by decide) rfl (fun ls hl => ?_)
  have hl : lv_has ls 4 [(3, .ref (tb 0)), (2, .ref (ta 0)), (0, .ref (ad 24)), (1, .int sg)] := hl
  refine lv_aload_n hx hb d_A_join_34 rfl (lv_at hl 2 rfl) ?_
  refine lv_dup hx hb d_A_join_35 rfl ?_
  refine gF (v := .int (nI x.adep)) hx hb hown hE hK hP 49 rfl rfl layA 1 (by decide) w1538 rfl d_A_join_36 ?_
  refine lv_iconst (v := 1) hx hb d_A_join_39 (by decide) ?_
  refine lv_isub hx hb d_A_join_40 (tpi (y := nI (x.adep - 1)) (pk_sub (a := x.adep) (b := 1) (by omega)) ?_)
  refine pF (v := .int (nI (x.adep - 1))) hx hb hown hE hK hP hD hS 49 rfl rfl layA tyA tokA nmA 1 (by decide) w1538 rfl rfl rfl (Nat.le_of_ble_eq_true rfl) d_A_join_41 (fun H locs hP hD hS => ?_)
  have hP : va_P D vwCl (LiW dA la g ++ (TbW dA ta t ++ (TbW dA tb u ++ (VW dA h ad (VS.s_adep x (x.adep - 1)))))) H := hP
  have hD : va_D A (LiW dA la g ++ (TbW dA ta t ++ (TbW dA tb u ++ (VW dA h ad (VS.s_adep x (x.adep - 1)))))) := hD
  refine lv_aload_n hx hb d_A_join_44 rfl (lv_at hl 1 rfl) ?_
  refine lv_aload_n hx hb d_A_join_45 rfl (lv_at hl 0 rfl) ?_
  have hP := pmP (show List.Perm (α := Nat × va_E) (LiW dA la g ++ (TbW dA ta t ++ (TbW dA tb u ++ (VW dA h ad (VS.s_adep x (x.adep - 1)))))) (TbW dA ta t ++ (LiW dA la g ++ (TbW dA tb u ++ (VW dA h ad (VS.s_adep x (x.adep - 1)))))) from List.perm_append_comm_assoc (LiW dA la g) (TbW dA ta t) (TbW dA tb u ++ (VW dA h ad (VS.s_adep x (x.adep - 1))))) hP
  have hD := pmD (show List.Perm (α := Nat × va_E) (LiW dA la g ++ (TbW dA ta t ++ (TbW dA tb u ++ (VW dA h ad (VS.s_adep x (x.adep - 1)))))) (TbW dA ta t ++ (LiW dA la g ++ (TbW dA tb u ++ (VW dA h ad (VS.s_adep x (x.adep - 1)))))) from List.perm_append_comm_assoc (LiW dA la g) (TbW dA ta t) (TbW dA tb u ++ (VW dA h ad (VS.s_adep x (x.adep - 1))))) hD
  have hP := pmP (show List.Perm (α := Nat × va_E) (TbW dA ta t ++ (LiW dA la g ++ (TbW dA tb u ++ (VW dA h ad (VS.s_adep x (x.adep - 1)))))) (TbW dA ta t ++ (TbW dA tb u ++ (LiW dA la g ++ (VW dA h ad (VS.s_adep x (x.adep - 1)))))) from List.Perm.append_left (TbW dA ta t) (List.perm_append_comm_assoc (LiW dA la g) (TbW dA tb u) (VW dA h ad (VS.s_adep x (x.adep - 1))))) hP
  have hD := pmD (show List.Perm (α := Nat × va_E) (TbW dA ta t ++ (LiW dA la g ++ (TbW dA tb u ++ (VW dA h ad (VS.s_adep x (x.adep - 1)))))) (TbW dA ta t ++ (TbW dA tb u ++ (LiW dA la g ++ (VW dA h ad (VS.s_adep x (x.adep - 1)))))) from List.Perm.append_left (TbW dA ta t) (List.perm_append_comm_assoc (LiW dA la g) (TbW dA tb u) (VW dA h ad (VS.s_adep x (x.adep - 1))))) hD
  refine jkI (wr := []) (rnV (As := [.ref (tb 0)]) (rest := []) hx hb hml hown hE hK (hN _ _ hS) hP hD (v_ThasNamesOf l D dA H.size (LiW dA la g ++ (VW dA h ad (VS.s_adep x (x.adep - 1)))) ta t tb u NL NR (nmOk_m (fun _ hm => (List.mem_append_right _ (plm hm))) hna) (nmOk_m (fun _ hm => (List.mem_append_right _ (plm hm))) hnb) hc1 hc2) (q0 := 0) rfl rfl w1541 w1540 w1542 w1543 w807 rfl rfl ⟨⟨by decide, by decide⟩, rfl⟩ ⟨(Nat.le_of_ble_eq_true rfl), (Nat.le_of_ble_eq_true rfl)⟩ rfl hl.1 rfl (Nat.le_of_ble_eq_true rfl) d_A_join_46 ⟨(Nat.le_of_ble_eq_true rfl), (Nat.le_of_ble_eq_true rfl)⟩) hP hD hS hA (fun r7 u8 H locs hp9 hP hD hS => ?_)
  have hP : va_P D vwCl (TbW dA ta t ++ (TbW dA tb u ++ (LiW dA la g ++ (VW dA h ad (VS.s_adep x (x.adep - 1)))))) H := hP
  have hD : va_D A (TbW dA ta t ++ (TbW dA tb u ++ (LiW dA la g ++ (VW dA h ad (VS.s_adep x (x.adep - 1)))))) := hD
  replace hp9 : bI (namB NL NR t.nc u.nc) = r7 := Eq.symm hp9
  subst hp9
  refine lv_if_eq hx hb d_A_join_49 (tgt := 60) rfl (fun _ => ?_) (fun h9 => absurd (by rw [hnn]; decide) h9)
  refine lv_aload_n hx hb d_A_join_60 rfl (lv_at hl 0 rfl) ?_
  refine gFN (v := .int (nI u.nc)) hx hb hown hE hK hP 5 rfl rfl layT 1 (by decide) w1544 rfl d_A_join_61 ?_
  refine lv_if_ne hx hb d_A_join_64 (tgt := 76) rfl (fun h9 => absurd ((nI_eq (a := u.nc) (b := 0) (by omega) (by omega)).mpr hu0) h9) (fun _ => ?_)
  refine lv_aload_n hx hb d_A_join_67 rfl (lv_at hl 1 rfl) ?_
  refine lv_iload_n hx hb d_A_join_68 rfl (lv_at hl 3 rfl) ?_
  refine lv_aload_n hx hb d_A_join_69 rfl (lv_at hl 0 rfl) ?_
  refine lv_iconst (v := 0) hx hb d_A_join_70 (by decide) ?_
  refine jkV (wr := []) (rnV (As := [.int sg, .ref (tb 0), .int 0]) (rest := []) hx hb hml hown hE hK (hN _ _ hS) hP hD (v_TjoinWithSingle_0 l D dA H.size (LiW dA la g ++ (VW dA h ad (VS.s_adep x (x.adep - 1)))) ta t tb u sg false hcN hu (rsAll_m (fun _ hm => (List.mem_append_right _ (plm hm))) hra)) (q0 := 0) rfl rfl w1550 w1549 w1551 w1552 w807 rfl rfl ⟨⟨by decide, by decide⟩, rfl⟩ ⟨(Nat.le_of_ble_eq_true rfl), (Nat.le_of_ble_eq_true rfl)⟩ rfl hl.1 rfl (Nat.le_of_ble_eq_true rfl) d_A_join_71 ⟨(Nat.le_of_ble_eq_true rfl), (Nat.le_of_ble_eq_true rfl)⟩) hP hD hS hA (fun u10 H locs hp9 hP hD hS => ?_)
  obtain ⟨y11, h9u⟩ : ∃ z9, z9 = u10 := ⟨_, rfl⟩
  subst h9u
  have hP : va_P D vwCl (TbW dA ta y11 ++ (TbW dA tb u ++ (LiW dA la g ++ (VW dA h ad (VS.s_adep x (x.adep - 1)))))) H := hP
  have hD : va_D A (TbW dA ta y11 ++ (TbW dA tb u ++ (LiW dA la g ++ (VW dA h ad (VS.s_adep x (x.adep - 1)))))) := hD
  have f_e_12 := hp9
  refine lv_iconst (v := 1) hx hb d_A_join_74 (by decide) ?_
  exact rfZ hx hb hr (bI_nar true) hlk hS y11 ⟨rfl, f_e_12⟩ hP hD (Nat.le_of_ble_eq_true rfl) (Nat.le_of_ble_eq_true rfl) d_A_join_75
end
section
theorem d_A_join_83 : decode prog_2_method_5_code 83 = .ok (.aload_n 3, 1) := by decide +kernel
theorem d_A_join_84 : decode prog_2_method_5_code 84 = .ok (.iload_n 1, 1) := by decide +kernel
theorem d_A_join_85 : decode prog_2_method_5_code 85 = .ok (.aload_n 2, 1) := by decide +kernel
theorem d_A_join_86 : decode prog_2_method_5_code 86 = .ok (.iconst 1, 1) := by decide +kernel
theorem d_A_join_87 : decode prog_2_method_5_code 87 = .ok (.invokevirtual 111, 3) := by decide +kernel
theorem d_A_join_90 : decode prog_2_method_5_code 90 = .ok (.aload_n 0, 1) := by decide +kernel
theorem d_A_join_91 : decode prog_2_method_5_code 91 = .ok (.getfield 12, 3) := by decide +kernel
theorem d_A_join_94 : decode prog_2_method_5_code 94 = .ok (.aload_n 0, 1) := by decide +kernel
theorem d_A_join_95 : decode prog_2_method_5_code 95 = .ok (.getfield 58, 3) := by decide +kernel
theorem d_A_join_98 : decode prog_2_method_5_code 98 = .ok (.iconst 1, 1) := by decide +kernel
theorem d_A_join_99 : decode prog_2_method_5_code 99 = .ok (.isub, 1) := by decide +kernel
theorem d_A_join_100 : decode prog_2_method_5_code 100 = .ok (.aload_n 3, 1) := by decide +kernel
theorem d_A_join_101 : decode prog_2_method_5_code 101 = .ok (.invokevirtual 115, 3) := by decide +kernel
theorem d_A_join_104 : decode prog_2_method_5_code 104 = .ok (.pop, 1) := by decide +kernel
theorem d_A_join_105 : decode prog_2_method_5_code 105 = .ok (.aload_n 0, 1) := by decide +kernel
theorem d_A_join_106 : decode prog_2_method_5_code 106 = .ok (.getfield 12, 3) := by decide +kernel
theorem d_A_join_109 : decode prog_2_method_5_code 109 = .ok (.aload_n 0, 1) := by decide +kernel
theorem d_A_join_110 : decode prog_2_method_5_code 110 = .ok (.getfield 58, 3) := by decide +kernel
theorem d_A_join_113 : decode prog_2_method_5_code 113 = .ok (.aload_n 2, 1) := by decide +kernel
theorem d_A_join_114 : decode prog_2_method_5_code 114 = .ok (.invokevirtual 115, 3) := by decide +kernel
theorem d_A_join_117 : decode prog_2_method_5_code 117 = .ok (.pop, 1) := by decide +kernel
theorem d_A_join_118 : decode prog_2_method_5_code 118 = .ok (.iconst 1, 1) := by decide +kernel
theorem d_A_join_119 : decode prog_2_method_5_code 119 = .ok (.ireturn, 1) := by decide +kernel
theorem w1553 : Cond.methodLink "SeriesVault$Answers" 115 ⟨"java/util/ArrayList", "set", "(ILjava/lang/Object;)Ljava/lang/Object;"⟩ ∈ aW := aw_of (tb_8 (List.mem_of_getElem? (i := 67) rfl)) rfl
theorem w1554 : Cond.code ⟨"java/util/ArrayList", "set", "(ILjava/lang/Object;)Ljava/lang/Object;"⟩ prog_37_method_23_code 4 (some (FieldType.object "java/lang/Object")) ∈ aW := aw_of (tb_8 (List.mem_of_getElem? (i := 70) rfl)) rfl
theorem w1555 : Cond.instanceMethod ⟨"java/util/ArrayList", "set", "(ILjava/lang/Object;)Ljava/lang/Object;"⟩ ∈ aW := aw_of (tb_8 (List.mem_of_getElem? (i := 68) rfl)) rfl
theorem w1556 : Cond.selects "java/util/ArrayList" ⟨"java/util/ArrayList", "set", "(ILjava/lang/Object;)Ljava/lang/Object;"⟩ ⟨"java/util/ArrayList", "set", "(ILjava/lang/Object;)Ljava/lang/Object;"⟩ ∈ aW := aw_of (tb_8 (List.mem_of_getElem? (i := 69) rfl)) rfl
set_option maxHeartbeats 4000000 in
set_option maxRecDepth 100000 in
theorem v_Ajoin_r0 (l : Launch) (D : va_G) (dA : Nat → ClassId) (sz : Nat) (h : Nat) (ad : Nat → Nat) (ta : Nat → Nat) (t : TB) (tb : Nat → Nat) (u : TB) (la : Nat → Nat) (g : LI) (x : VS) (sg : Int32) (NL : Nat → List Int32) (NR : Nat → List Int32) (hla : la 0 = ad 25) (hs : g.sz ≤ g.eN) (hn : g.eN ≤ 65536) (hd : 2 ≤ x.adep) (hd2 : x.adep ≤ g.sz) (he1 : g.el (x.adep - 2) = some (ta 0)) (he2 : g.el (x.adep - 1) = some (tb 0)) (hna : nmOk dA x.pl t.nm t.nc NL) (hnb : nmOk dA x.pl u.nm u.nc NR) (hc1 : t.nc ≤ 6) (hc2 : u.nc ≤ 6) (hnn : namB NL NR t.nc u.nc = false) (hu1 : ¬ u.nc = 0) (ht0 : t.nc = 0) (hcM : u.cN ≤ 65536) (hrb : rsAll dA x.pl u.rs) (ht : t.rc = 0) : Met l ⟨"SeriesVault$Answers", "join", "(I)Z"⟩ [Cond.code ⟨"SeriesVault$Answers", "join", "(I)Z"⟩ prog_2_method_5_code 4 (some FieldType.boolean)] { frames := 4, cells := 0, slots := 0, locals := 108 } (pC D dA [.ref (ad 24), .int sg] (TbW dA ta t ++ (TbW dA tb u ++ (LiW dA la g ++ (VW dA h ad x)))) sz) (va_Qi (fun (r9 : Int32) (u9 : TB) => r9 = 1 ∧ u9 = TB.de (TB.s_rc u 0)) (fun (u9 : TB) t9 => bW D (va_A (TbW dA ta t ++ (TbW dA tb u ++ (LiW dA la g ++ (VW dA h ad x)))) sz) (TbW dA ta t ++ (TbW dA tb u9 ++ (LiW dA la (LI.s_el g (va_up (va_up g.el (x.adep - 1 - 1) (some (tb 0))) (x.adep - 1) (some (ta 0)))) ++ (VW dA h ad (VS.s_adep x (x.adep - 1)))))) t9) (va_A (TbW dA ta t ++ (TbW dA tb u ++ (LiW dA la g ++ (VW dA h ad x)))) sz)) 0 0 (va_A (TbW dA ta t ++ (TbW dA tb u ++ (LiW dA la g ++ (VW dA h ad x)))) sz) := by
  refine mkC (y := ⟨"SeriesVault$Answers", "join", "(I)Z"⟩) (cc := prog_2_method_5_code) (maxL := 4) (av := [.ref (ad 24), .int sg]) (ws := TbW dA ta t ++ (TbW dA tb u ++ (LiW dA la g ++ (VW dA h ad x)))) (sz := sz) (Qc := fun A => va_Qi (fun (r9 : Int32) (u9 : TB) => r9 = 1 ∧ u9 = TB.de (TB.s_rc u 0)) (fun (u9 : TB) t9 => bW D A (TbW dA ta t ++ (TbW dA tb u9 ++ (LiW dA la (LI.s_el g (va_up (va_up g.el (x.adep - 1 - 1) (some (tb 0))) (x.adep - 1) (some (ta 0)))) ++ (VW dA h ad (VS.s_adep x (x.adep - 1)))))) t9) A) (by decide) (Nat.le_of_ble_eq_true rfl) ?_
  intro A p e s m below meth c ls hsz hB
  obtain ⟨hx, hb, hr, hml, hown, hin, hlk, hE, hK, hP, hD, hS, hA, hN, hl⟩ := hB
  have hown : s.vm.findClass "SeriesVault$Answers" = some m.cls := hown
  have hl : lv_has ls 4 [(0, .ref (ad 24)), (1, .int sg)] := hl
  obtain ⟨H, hH⟩ : ∃ z, z = s.heap := ⟨_, rfl⟩
  have hP : va_P D vwCl (TbW dA ta t ++ (TbW dA tb u ++ (LiW dA la g ++ (VW dA h ad x)))) H := by rw [hH]; exact hP
  have hS : va_S A s.heap H [] := by rw [hH]; exact hS
  rw [← hH]
  refine lv_aload_n hx hb d_A_join_0 rfl (lv_at hl 0 rfl) ?_
  refine gF (v := .ref (ad 25)) hx hb hown hE hK hP 49 rfl rfl layA 0 (by decide) w799 rfl d_A_join_1 ?_
  rw [← hla]
  refine lv_aload_n hx hb d_A_join_4 rfl (lv_at hl 0 rfl) ?_
  refine gF (v := .int (nI x.adep)) hx hb hown hE hK hP 49 rfl rfl layA 1 (by decide) w1538 rfl d_A_join_5 ?_
  refine lv_iconst (v := 2) hx hb d_A_join_8 (by decide) ?_
  refine lv_isub hx hb d_A_join_9 (tpi (y := nI (x.adep - 2)) (pk_sub (a := x.adep) (b := 2) (by omega)) ?_)
  have hP := pmP (show List.Perm (α := Nat × va_E) (TbW dA ta t ++ (TbW dA tb u ++ (LiW dA la g ++ (VW dA h ad x)))) (LiW dA la g ++ (TbW dA ta t ++ (TbW dA tb u ++ (VW dA h ad x)))) from (List.Perm.append_left (TbW dA ta t) (List.perm_append_comm_assoc (TbW dA tb u) (LiW dA la g) (VW dA h ad x))).trans (List.perm_append_comm_assoc (TbW dA ta t) (LiW dA la g) (TbW dA tb u ++ (VW dA h ad x)))) hP
  have hD := pmD (show List.Perm (α := Nat × va_E) (TbW dA ta t ++ (TbW dA tb u ++ (LiW dA la g ++ (VW dA h ad x)))) (LiW dA la g ++ (TbW dA ta t ++ (TbW dA tb u ++ (VW dA h ad x)))) from (List.Perm.append_left (TbW dA ta t) (List.perm_append_comm_assoc (TbW dA tb u) (LiW dA la g) (VW dA h ad x))).trans (List.perm_append_comm_assoc (TbW dA ta t) (LiW dA la g) (TbW dA tb u ++ (VW dA h ad x)))) hD
  refine jkR (wr := []) (rnV (As := [.int (nI (x.adep - 2))]) (rest := []) hx hb hml hown hE hK (hN _ _ hS) hP hD (v_Lget l D dA H.size (TbW dA ta t ++ (TbW dA tb u ++ (VW dA h ad x))) la g (x.adep - 2) (ta 0) hs hn (show (x.adep - 2) < g.sz from by omega) he1) (q0 := 0) rfl rfl w1489 w1537 w1490 w1491 w680 rfl rfl ⟨⟨by decide, by decide⟩, rfl⟩ ⟨(Nat.le_of_ble_eq_true rfl), (Nat.le_of_ble_eq_true rfl)⟩ rfl hl.1 rfl (Nat.le_of_ble_eq_true rfl) d_A_join_10 ⟨(Nat.le_of_ble_eq_true rfl), (Nat.le_of_ble_eq_true rfl)⟩) hP hD hS hA (fun u2 r1 H locs hp9 hP hD hS => ?_)
  have hP : va_P D vwCl (LiW dA la g ++ (TbW dA ta t ++ (TbW dA tb u ++ (VW dA h ad x)))) H := hP
  have hD : va_D A (LiW dA la g ++ (TbW dA ta t ++ (TbW dA tb u ++ (VW dA h ad x)))) := hD
  have f_e_3 := hp9
  have e9 := f_e_3
  subst e9
  refine va_castE hx hb hown (hE.t w805 rfl) (va_recv hK hP (ci := 8) (q0 := 2) (q := ("SeriesVault$Table", TT, 7)) rfl rfl) d_A_join_13 ?_
  refine lv_astore_n hx hb d_A_join_16 rfl hl (by decide) rfl (fun ls hl => ?_)
  have hl : lv_has ls 4 [(2, .ref (ta 0)), (0, .ref (ad 24)), (1, .int sg)] := hl
  refine lv_aload_n hx hb d_A_join_17 rfl (lv_at hl 1 rfl) ?_
  refine gF (v := .ref (ad 25)) hx hb hown hE hK hP 49 rfl rfl layA 0 (by decide) w799 rfl d_A_join_18 ?_
  rw [← hla]
  refine lv_aload_n hx hb d_A_join_21 rfl (lv_at hl 1 rfl) ?_
  refine gF (v := .int (nI x.adep)) hx hb hown hE hK hP 49 rfl rfl layA 1 (by decide) w1538 rfl d_A_join_22 ?_
  refine lv_iconst (v := 1) hx hb d_A_join_25 (by decide) ?_
  refine lv_isub hx hb d_A_join_26 (tpi (y := nI (x.adep - 1)) (pk_sub (a := x.adep) (b := 1) (by omega)) ?_)
  refine jkR (wr := []) (rnV (As := [.int (nI (x.adep - 1))]) (rest := []) hx hb hml hown hE hK (hN _ _ hS) hP hD (v_Lget l D dA H.size (TbW dA ta t ++ (TbW dA tb u ++ (VW dA h ad x))) la g (x.adep - 1) (tb 0) hs hn (show (x.adep - 1) < g.sz from by omega) he2) (q0 := 0) rfl rfl w1489 w1537 w1490 w1491 w680 rfl rfl ⟨⟨by decide, by decide⟩, rfl⟩ ⟨(Nat.le_of_ble_eq_true rfl), (Nat.le_of_ble_eq_true rfl)⟩ rfl hl.1 rfl (Nat.le_of_ble_eq_true rfl) d_A_join_27 ⟨(Nat.le_of_ble_eq_true rfl), (Nat.le_of_ble_eq_true rfl)⟩) hP hD hS hA (fun u5 r4 H locs hp9 hP hD hS => ?_)
  have hP : va_P D vwCl (LiW dA la g ++ (TbW dA ta t ++ (TbW dA tb u ++ (VW dA h ad x)))) H := hP
  have hD : va_D A (LiW dA la g ++ (TbW dA ta t ++ (TbW dA tb u ++ (VW dA h ad x)))) := hD
  have f_e_6 := hp9
  have e9 := f_e_6
  subst e9
  refine va_castE hx hb hown (hE.t w805 rfl) (va_recv hK hP (ci := 8) (q0 := 7) (q := ("SeriesVault$Table", TT, 7)) rfl rfl) d_A_join_30 ?_
  refine lv_astore_n hx hb d_A_join_33 rfl hl (by decide) rfl (fun ls hl => ?_)
  have hl : lv_has ls 4 [(3, .ref (tb 0)), (2, .ref (ta 0)), (0, .ref (ad 24)), (1, .int sg)] := hl
  refine lv_aload_n hx hb d_A_join_34 rfl (lv_at hl 2 rfl) ?_
  refine lv_dup hx hb d_A_join_35 rfl ?_
  refine gF (v := .int (nI x.adep)) hx hb hown hE hK hP 49 rfl rfl layA 1 (by decide) w1538 rfl d_A_join_36 ?_
  refine lv_iconst (v := 1) hx hb d_A_join_39 (by decide) ?_
  refine lv_isub hx hb d_A_join_40 (tpi (y := nI (x.adep - 1)) (pk_sub (a := x.adep) (b := 1) (by omega)) ?_)
  refine pF (v := .int (nI (x.adep - 1))) hx hb hown hE hK hP hD hS 49 rfl rfl layA tyA tokA nmA 1 (by decide) w1538 rfl rfl rfl (Nat.le_of_ble_eq_true rfl) d_A_join_41 (fun H locs hP hD hS => ?_)
  have hP : va_P D vwCl (LiW dA la g ++ (TbW dA ta t ++ (TbW dA tb u ++ (VW dA h ad (VS.s_adep x (x.adep - 1)))))) H := hP
  have hD : va_D A (LiW dA la g ++ (TbW dA ta t ++ (TbW dA tb u ++ (VW dA h ad (VS.s_adep x (x.adep - 1)))))) := hD
  refine lv_aload_n hx hb d_A_join_44 rfl (lv_at hl 1 rfl) ?_
  refine lv_aload_n hx hb d_A_join_45 rfl (lv_at hl 0 rfl) ?_
  have hP := pmP (show List.Perm (α := Nat × va_E) (LiW dA la g ++ (TbW dA ta t ++ (TbW dA tb u ++ (VW dA h ad (VS.s_adep x (x.adep - 1)))))) (TbW dA ta t ++ (LiW dA la g ++ (TbW dA tb u ++ (VW dA h ad (VS.s_adep x (x.adep - 1)))))) from List.perm_append_comm_assoc (LiW dA la g) (TbW dA ta t) (TbW dA tb u ++ (VW dA h ad (VS.s_adep x (x.adep - 1))))) hP
  have hD := pmD (show List.Perm (α := Nat × va_E) (LiW dA la g ++ (TbW dA ta t ++ (TbW dA tb u ++ (VW dA h ad (VS.s_adep x (x.adep - 1)))))) (TbW dA ta t ++ (LiW dA la g ++ (TbW dA tb u ++ (VW dA h ad (VS.s_adep x (x.adep - 1)))))) from List.perm_append_comm_assoc (LiW dA la g) (TbW dA ta t) (TbW dA tb u ++ (VW dA h ad (VS.s_adep x (x.adep - 1))))) hD
  have hP := pmP (show List.Perm (α := Nat × va_E) (TbW dA ta t ++ (LiW dA la g ++ (TbW dA tb u ++ (VW dA h ad (VS.s_adep x (x.adep - 1)))))) (TbW dA ta t ++ (TbW dA tb u ++ (LiW dA la g ++ (VW dA h ad (VS.s_adep x (x.adep - 1)))))) from List.Perm.append_left (TbW dA ta t) (List.perm_append_comm_assoc (LiW dA la g) (TbW dA tb u) (VW dA h ad (VS.s_adep x (x.adep - 1))))) hP
  have hD := pmD (show List.Perm (α := Nat × va_E) (TbW dA ta t ++ (LiW dA la g ++ (TbW dA tb u ++ (VW dA h ad (VS.s_adep x (x.adep - 1)))))) (TbW dA ta t ++ (TbW dA tb u ++ (LiW dA la g ++ (VW dA h ad (VS.s_adep x (x.adep - 1)))))) from List.Perm.append_left (TbW dA ta t) (List.perm_append_comm_assoc (LiW dA la g) (TbW dA tb u) (VW dA h ad (VS.s_adep x (x.adep - 1))))) hD
  refine jkI (wr := []) (rnV (As := [.ref (tb 0)]) (rest := []) hx hb hml hown hE hK (hN _ _ hS) hP hD (v_ThasNamesOf l D dA H.size (LiW dA la g ++ (VW dA h ad (VS.s_adep x (x.adep - 1)))) ta t tb u NL NR (nmOk_m (fun _ hm => (List.mem_append_right _ (plm hm))) hna) (nmOk_m (fun _ hm => (List.mem_append_right _ (plm hm))) hnb) hc1 hc2) (q0 := 0) rfl rfl w1541 w1540 w1542 w1543 w807 rfl rfl ⟨⟨by decide, by decide⟩, rfl⟩ ⟨(Nat.le_of_ble_eq_true rfl), (Nat.le_of_ble_eq_true rfl)⟩ rfl hl.1 rfl (Nat.le_of_ble_eq_true rfl) d_A_join_46 ⟨(Nat.le_of_ble_eq_true rfl), (Nat.le_of_ble_eq_true rfl)⟩) hP hD hS hA (fun r7 u8 H locs hp9 hP hD hS => ?_)
  have hP : va_P D vwCl (TbW dA ta t ++ (TbW dA tb u ++ (LiW dA la g ++ (VW dA h ad (VS.s_adep x (x.adep - 1)))))) H := hP
  have hD : va_D A (TbW dA ta t ++ (TbW dA tb u ++ (LiW dA la g ++ (VW dA h ad (VS.s_adep x (x.adep - 1)))))) := hD
  replace hp9 : bI (namB NL NR t.nc u.nc) = r7 := Eq.symm hp9
  subst hp9
  refine lv_if_eq hx hb d_A_join_49 (tgt := 60) rfl (fun _ => ?_) (fun h9 => absurd (by rw [hnn]; decide) h9)
  refine lv_aload_n hx hb d_A_join_60 rfl (lv_at hl 0 rfl) ?_
  refine gFN (v := .int (nI u.nc)) hx hb hown hE hK hP 5 rfl rfl layT 1 (by decide) w1544 rfl d_A_join_61 ?_
  refine lv_if_ne hx hb d_A_join_64 (tgt := 76) rfl (fun _ => ?_) (fun h9 => absurd h9 (mt (nI_eq (a := u.nc) (b := 0) (by omega) (by omega)).mp hu1))
  refine lv_aload_n hx hb d_A_join_76 rfl (lv_at hl 1 rfl) ?_
  refine gFN (v := .int (nI t.nc)) hx hb hown hE hK hP 0 rfl rfl layT 1 (by decide) w1544 rfl d_A_join_77 ?_
  refine lv_if_ne hx hb d_A_join_80 (tgt := 120) rfl (fun h9 => absurd ((nI_eq (a := t.nc) (b := 0) (by omega) (by omega)).mpr ht0) h9) (fun _ => ?_)
  refine lv_aload_n hx hb d_A_join_83 rfl (lv_at hl 0 rfl) ?_
  refine lv_iload_n hx hb d_A_join_84 rfl (lv_at hl 3 rfl) ?_
  refine lv_aload_n hx hb d_A_join_85 rfl (lv_at hl 1 rfl) ?_
  refine lv_iconst (v := 1) hx hb d_A_join_86 (by decide) ?_
  have hP := pmP (show List.Perm (α := Nat × va_E) (TbW dA ta t ++ (TbW dA tb u ++ (LiW dA la g ++ (VW dA h ad (VS.s_adep x (x.adep - 1)))))) (TbW dA tb u ++ (TbW dA ta t ++ (LiW dA la g ++ (VW dA h ad (VS.s_adep x (x.adep - 1)))))) from List.perm_append_comm_assoc (TbW dA ta t) (TbW dA tb u) (LiW dA la g ++ (VW dA h ad (VS.s_adep x (x.adep - 1))))) hP
  have hD := pmD (show List.Perm (α := Nat × va_E) (TbW dA ta t ++ (TbW dA tb u ++ (LiW dA la g ++ (VW dA h ad (VS.s_adep x (x.adep - 1)))))) (TbW dA tb u ++ (TbW dA ta t ++ (LiW dA la g ++ (VW dA h ad (VS.s_adep x (x.adep - 1)))))) from List.perm_append_comm_assoc (TbW dA ta t) (TbW dA tb u) (LiW dA la g ++ (VW dA h ad (VS.s_adep x (x.adep - 1))))) hD
  refine jkV (wr := []) (rnV (As := [.int sg, .ref (ta 0), .int 1]) (rest := []) hx hb hml hown hE hK (hN _ _ hS) hP hD (v_TjoinWithSingle_0 l D dA H.size (LiW dA la g ++ (VW dA h ad (VS.s_adep x (x.adep - 1)))) tb u ta t sg true hcM ht (rsAll_m (fun _ hm => (List.mem_append_right _ (plm hm))) hrb)) (q0 := 0) rfl rfl w1550 w1549 w1551 w1552 w807 rfl rfl ⟨⟨by decide, by decide⟩, rfl⟩ ⟨(Nat.le_of_ble_eq_true rfl), (Nat.le_of_ble_eq_true rfl)⟩ rfl hl.1 rfl (Nat.le_of_ble_eq_true rfl) d_A_join_87 ⟨(Nat.le_of_ble_eq_true rfl), (Nat.le_of_ble_eq_true rfl)⟩) hP hD hS hA (fun u10 H locs hp9 hP hD hS => ?_)
  obtain ⟨y11, h9u⟩ : ∃ z9, z9 = u10 := ⟨_, rfl⟩
  subst h9u
  have hP : va_P D vwCl (TbW dA tb y11 ++ (TbW dA ta t ++ (LiW dA la g ++ (VW dA h ad (VS.s_adep x (x.adep - 1)))))) H := hP
  have hD : va_D A (TbW dA tb y11 ++ (TbW dA ta t ++ (LiW dA la g ++ (VW dA h ad (VS.s_adep x (x.adep - 1)))))) := hD
  have f_e_12 := hp9
  refine lv_aload_n hx hb d_A_join_90 rfl (lv_at hl 2 rfl) ?_
  refine gF (v := .ref (ad 25)) hx hb hown hE hK hP 49 rfl rfl layA 0 (by decide) w799 rfl d_A_join_91 ?_
  rw [← hla]
  refine lv_aload_n hx hb d_A_join_94 rfl (lv_at hl 2 rfl) ?_
  refine gF (v := .int (nI (x.adep - 1))) hx hb hown hE hK hP 49 rfl rfl layA 1 (by decide) w1538 rfl d_A_join_95 ?_
  refine lv_iconst (v := 1) hx hb d_A_join_98 (by decide) ?_
  refine lv_isub hx hb d_A_join_99 (tpi (y := nI ((x.adep - 1) - 1)) (pk_sub (a := x.adep - 1) (b := 1) (by omega)) ?_)
  refine lv_aload_n hx hb d_A_join_100 rfl (lv_at hl 0 rfl) ?_
  have hP := pmP (show List.Perm (α := Nat × va_E) (TbW dA tb y11 ++ (TbW dA ta t ++ (LiW dA la g ++ (VW dA h ad (VS.s_adep x (x.adep - 1)))))) (LiW dA la g ++ (TbW dA tb y11 ++ (TbW dA ta t ++ (VW dA h ad (VS.s_adep x (x.adep - 1)))))) from (List.Perm.append_left (TbW dA tb y11) (List.perm_append_comm_assoc (TbW dA ta t) (LiW dA la g) (VW dA h ad (VS.s_adep x (x.adep - 1))))).trans (List.perm_append_comm_assoc (TbW dA tb y11) (LiW dA la g) (TbW dA ta t ++ (VW dA h ad (VS.s_adep x (x.adep - 1)))))) hP
  have hD := pmD (show List.Perm (α := Nat × va_E) (TbW dA tb y11 ++ (TbW dA ta t ++ (LiW dA la g ++ (VW dA h ad (VS.s_adep x (x.adep - 1)))))) (LiW dA la g ++ (TbW dA tb y11 ++ (TbW dA ta t ++ (VW dA h ad (VS.s_adep x (x.adep - 1)))))) from (List.Perm.append_left (TbW dA tb y11) (List.perm_append_comm_assoc (TbW dA ta t) (LiW dA la g) (VW dA h ad (VS.s_adep x (x.adep - 1))))).trans (List.perm_append_comm_assoc (TbW dA tb y11) (LiW dA la g) (TbW dA ta t ++ (VW dA h ad (VS.s_adep x (x.adep - 1)))))) hD
  refine jkR (wr := []) (rnV (As := [.int (nI ((x.adep - 1) - 1)), .ref (tb 0)]) (rest := []) hx hb hml hown hE hK (hN _ _ hS) hP hD (v_Lset l D dA H.size (TbW dA tb y11 ++ (TbW dA ta t ++ (VW dA h ad (VS.s_adep x (x.adep - 1))))) la g ((x.adep - 1) - 1) (ta 0) (tb 0) ([.ref (tb 1), .int (nI y11.nc), .int (nI y11.wi), .int (nI y11.rc), .ref (tb 2), .ref (tb 3), .ref y11.cA]) hs hn (show ((x.adep - 1) - 1) < g.sz from by omega) (show g.el (x.adep - 1 - 1) = some (ta 0) by rw [show x.adep - 1 - 1 = x.adep - 2 by omega]; exact he1) (List.mem_of_getElem? (i := 0) rfl)) (q0 := 0) rfl rfl w1554 w1553 w1555 w1556 w680 rfl rfl ⟨⟨by decide, by decide⟩, rfl⟩ ⟨(Nat.le_of_ble_eq_true rfl), (Nat.le_of_ble_eq_true rfl)⟩ rfl hl.1 rfl (Nat.le_of_ble_eq_true rfl) d_A_join_101 ⟨(Nat.le_of_ble_eq_true rfl), (Nat.le_of_ble_eq_true rfl)⟩) hP hD hS hA (fun u14 r13 H locs hp9 hP hD hS => ?_)
  have hP : va_P D vwCl (LiW dA la (LI.s_el g (va_up g.el ((x.adep - 1) - 1) (some (tb 0)))) ++ (TbW dA tb y11 ++ (TbW dA ta t ++ (VW dA h ad (VS.s_adep x (x.adep - 1)))))) H := hP
  have hD : va_D A (LiW dA la (LI.s_el g (va_up g.el ((x.adep - 1) - 1) (some (tb 0)))) ++ (TbW dA tb y11 ++ (TbW dA ta t ++ (VW dA h ad (VS.s_adep x (x.adep - 1)))))) := hD
  have f_e_15 := hp9
  refine lv_pop hx hb d_A_join_104 rfl ?_
  refine lv_aload_n hx hb d_A_join_105 rfl (lv_at hl 2 rfl) ?_
  refine gF (v := .ref (ad 25)) hx hb hown hE hK hP 49 rfl rfl layA 0 (by decide) w799 rfl d_A_join_106 ?_
  rw [← hla]
  refine lv_aload_n hx hb d_A_join_109 rfl (lv_at hl 2 rfl) ?_
  refine gF (v := .int (nI (x.adep - 1))) hx hb hown hE hK hP 49 rfl rfl layA 1 (by decide) w1538 rfl d_A_join_110 ?_
  refine lv_aload_n hx hb d_A_join_113 rfl (lv_at hl 1 rfl) ?_
  refine jkR (wr := []) (rnV (As := [.int (nI (x.adep - 1)), .ref (ta 0)]) (rest := []) hx hb hml hown hE hK (hN _ _ hS) hP hD (v_Lset l D dA H.size (TbW dA tb y11 ++ (TbW dA ta t ++ (VW dA h ad (VS.s_adep x (x.adep - 1))))) la (LI.s_el g (va_up g.el ((x.adep - 1) - 1) (some (tb 0)))) (x.adep - 1) (tb 0) (ta 0) ([.ref (ta 1), .int (nI t.nc), .int (nI t.wi), .int (nI t.rc), .ref (ta 2), .ref (ta 3), .ref t.cA]) hs hn (show (x.adep - 1) < g.sz from by omega) (show va_up g.el (x.adep - 1 - 1) (some (tb 0)) (x.adep - 1) = some (tb 0) by rw [va_up_ne _ _ (by omega)]; exact he2) (List.mem_of_getElem? (i := 5) rfl)) (q0 := 0) rfl rfl w1554 w1553 w1555 w1556 w680 rfl rfl ⟨⟨by decide, by decide⟩, rfl⟩ ⟨(Nat.le_of_ble_eq_true rfl), (Nat.le_of_ble_eq_true rfl)⟩ rfl hl.1 rfl (Nat.le_of_ble_eq_true rfl) d_A_join_114 ⟨(Nat.le_of_ble_eq_true rfl), (Nat.le_of_ble_eq_true rfl)⟩) hP hD hS hA (fun u17 r16 H locs hp9 hP hD hS => ?_)
  have hP : va_P D vwCl (LiW dA la (LI.s_el g (va_up (va_up g.el ((x.adep - 1) - 1) (some (tb 0))) (x.adep - 1) (some (ta 0)))) ++ (TbW dA tb y11 ++ (TbW dA ta t ++ (VW dA h ad (VS.s_adep x (x.adep - 1)))))) H := hP
  have hD : va_D A (LiW dA la (LI.s_el g (va_up (va_up g.el ((x.adep - 1) - 1) (some (tb 0))) (x.adep - 1) (some (ta 0)))) ++ (TbW dA tb y11 ++ (TbW dA ta t ++ (VW dA h ad (VS.s_adep x (x.adep - 1)))))) := hD
  have f_e_18 := hp9
  refine lv_pop hx hb d_A_join_117 rfl ?_
  refine lv_iconst (v := 1) hx hb d_A_join_118 (by decide) ?_
  have hP := pmP (show List.Perm (α := Nat × va_E) (LiW dA la (LI.s_el g (va_up (va_up g.el ((x.adep - 1) - 1) (some (tb 0))) (x.adep - 1) (some (ta 0)))) ++ (TbW dA tb y11 ++ (TbW dA ta t ++ (VW dA h ad (VS.s_adep x (x.adep - 1)))))) (TbW dA ta t ++ (LiW dA la (LI.s_el g (va_up (va_up g.el ((x.adep - 1) - 1) (some (tb 0))) (x.adep - 1) (some (ta 0)))) ++ (TbW dA tb y11 ++ (VW dA h ad (VS.s_adep x (x.adep - 1)))))) from (List.Perm.append_left (LiW dA la (LI.s_el g (va_up (va_up g.el ((x.adep - 1) - 1) (some (tb 0))) (x.adep - 1) (some (ta 0))))) (List.perm_append_comm_assoc (TbW dA tb y11) (TbW dA ta t) (VW dA h ad (VS.s_adep x (x.adep - 1))))).trans (List.perm_append_comm_assoc (LiW dA la (LI.s_el g (va_up (va_up g.el ((x.adep - 1) - 1) (some (tb 0))) (x.adep - 1) (some (ta 0))))) (TbW dA ta t) (TbW dA tb y11 ++ (VW dA h ad (VS.s_adep x (x.adep - 1)))))) hP
  have hD := pmD (show List.Perm (α := Nat × va_E) (LiW dA la (LI.s_el g (va_up (va_up g.el ((x.adep - 1) - 1) (some (tb 0))) (x.adep - 1) (some (ta 0)))) ++ (TbW dA tb y11 ++ (TbW dA ta t ++ (VW dA h ad (VS.s_adep x (x.adep - 1)))))) (TbW dA ta t ++ (LiW dA la (LI.s_el g (va_up (va_up g.el ((x.adep - 1) - 1) (some (tb 0))) (x.adep - 1) (some (ta 0)))) ++ (TbW dA tb y11 ++ (VW dA h ad (VS.s_adep x (x.adep - 1)))))) from (List.Perm.append_left (LiW dA la (LI.s_el g (va_up (va_up g.el ((x.adep - 1) - 1) (some (tb 0))) (x.adep - 1) (some (ta 0))))) (List.perm_append_comm_assoc (TbW dA tb y11) (TbW dA ta t) (VW dA h ad (VS.s_adep x (x.adep - 1))))).trans (List.perm_append_comm_assoc (LiW dA la (LI.s_el g (va_up (va_up g.el ((x.adep - 1) - 1) (some (tb 0))) (x.adep - 1) (some (ta 0))))) (TbW dA ta t) (TbW dA tb y11 ++ (VW dA h ad (VS.s_adep x (x.adep - 1)))))) hD
  have hP := pmP (show List.Perm (α := Nat × va_E) (TbW dA ta t ++ (LiW dA la (LI.s_el g (va_up (va_up g.el ((x.adep - 1) - 1) (some (tb 0))) (x.adep - 1) (some (ta 0)))) ++ (TbW dA tb y11 ++ (VW dA h ad (VS.s_adep x (x.adep - 1)))))) (TbW dA ta t ++ (TbW dA tb y11 ++ (LiW dA la (LI.s_el g (va_up (va_up g.el ((x.adep - 1) - 1) (some (tb 0))) (x.adep - 1) (some (ta 0)))) ++ (VW dA h ad (VS.s_adep x (x.adep - 1)))))) from List.Perm.append_left (TbW dA ta t) (List.perm_append_comm_assoc (LiW dA la (LI.s_el g (va_up (va_up g.el ((x.adep - 1) - 1) (some (tb 0))) (x.adep - 1) (some (ta 0))))) (TbW dA tb y11) (VW dA h ad (VS.s_adep x (x.adep - 1))))) hP
  have hD := pmD (show List.Perm (α := Nat × va_E) (TbW dA ta t ++ (LiW dA la (LI.s_el g (va_up (va_up g.el ((x.adep - 1) - 1) (some (tb 0))) (x.adep - 1) (some (ta 0)))) ++ (TbW dA tb y11 ++ (VW dA h ad (VS.s_adep x (x.adep - 1)))))) (TbW dA ta t ++ (TbW dA tb y11 ++ (LiW dA la (LI.s_el g (va_up (va_up g.el ((x.adep - 1) - 1) (some (tb 0))) (x.adep - 1) (some (ta 0)))) ++ (VW dA h ad (VS.s_adep x (x.adep - 1)))))) from List.Perm.append_left (TbW dA ta t) (List.perm_append_comm_assoc (LiW dA la (LI.s_el g (va_up (va_up g.el ((x.adep - 1) - 1) (some (tb 0))) (x.adep - 1) (some (ta 0))))) (TbW dA tb y11) (VW dA h ad (VS.s_adep x (x.adep - 1))))) hD
  have e9 : (LI.s_el g (va_up (va_up g.el ((x.adep - 1) - 1) (some (tb 0))) (x.adep - 1) (some (ta 0))) : LI) = LI.s_el g (va_up (va_up g.el (x.adep - 1 - 1) (some (tb 0))) (x.adep - 1) (some (ta 0))) := by rw [show (va_up (va_up g.el (x.adep - 1 - 1) (some (tb 0))) (x.adep - 1) (some (ta 0))) = (va_up (va_up g.el ((x.adep - 1) - 1) (some (tb 0))) (x.adep - 1) (some (ta 0))) from by rfl] <;> rfl
  rw [e9] at hP hD
  exact rfZ hx hb hr (bI_nar true) hlk hS y11 ⟨rfl, f_e_12⟩ hP hD (Nat.le_of_ble_eq_true rfl) (Nat.le_of_ble_eq_true rfl) d_A_join_119
set_option maxHeartbeats 4000000 in
set_option maxRecDepth 100000 in
theorem v_Ajoin_r (l : Launch) (D : va_G) (dA : Nat → ClassId) (sz : Nat) (h : Nat) (ad : Nat → Nat) (ta : Nat → Nat) (t : TB) (tb : Nat → Nat) (u : TB) (la : Nat → Nat) (g : LI) (x : VS) (sg : Int32) (NL : Nat → List Int32) (NR : Nat → List Int32) (hla : la 0 = ad 25) (hs : g.sz ≤ g.eN) (hn : g.eN ≤ 65536) (hd : 2 ≤ x.adep) (hd2 : x.adep ≤ g.sz) (he1 : g.el (x.adep - 2) = some (ta 0)) (he2 : g.el (x.adep - 1) = some (tb 0)) (hna : nmOk dA x.pl t.nm t.nc NL) (hnb : nmOk dA x.pl u.nm u.nc NR) (hc1 : t.nc ≤ 6) (hc2 : u.nc ≤ 6) (hnn : namB NL NR t.nc u.nc = false) (hu1 : ¬ u.nc = 0) (ht0 : t.nc = 0) (hop : isOp sg) (hcN : t.cN ≤ 65536) (hcM : u.cN ≤ 65536) (hw : u.wi = t.wi) (k1 : t.rc * t.wi ≤ t.cN) (k2 : t.rc ≤ 256) (k3 : u.rc * u.wi ≤ u.cN) (k4 : u.rc ≤ 256) (hrb : rsAll dA x.pl u.rs) (ht : ¬ t.rc = 0) : Met l ⟨"SeriesVault$Answers", "join", "(I)Z"⟩ [Cond.code ⟨"SeriesVault$Answers", "join", "(I)Z"⟩ prog_2_method_5_code 4 (some FieldType.boolean)] { frames := 4, cells := 0, slots := 0, locals := 108 } (pC D dA [.ref (ad 24), .int sg] (TbW dA ta t ++ (TbW dA tb u ++ (LiW dA la g ++ (VW dA h ad x)))) sz) (va_Qi (fun (r9 : Int32) (u9 : TB) => r9 = 1 ∧ u9 = (jsR sg u t u.rc).de) (fun (u9 : TB) t9 => bW D (va_A (TbW dA ta t ++ (TbW dA tb u ++ (LiW dA la g ++ (VW dA h ad x)))) sz) (TbW dA ta t ++ (TbW dA tb u9 ++ (LiW dA la (LI.s_el g (va_up (va_up g.el (x.adep - 1 - 1) (some (tb 0))) (x.adep - 1) (some (ta 0)))) ++ (VW dA h ad (VS.s_adep x (x.adep - 1)))))) t9) (va_A (TbW dA ta t ++ (TbW dA tb u ++ (LiW dA la g ++ (VW dA h ad x)))) sz)) 0 0 (va_A (TbW dA ta t ++ (TbW dA tb u ++ (LiW dA la g ++ (VW dA h ad x)))) sz) := by
  refine mkC (y := ⟨"SeriesVault$Answers", "join", "(I)Z"⟩) (cc := prog_2_method_5_code) (maxL := 4) (av := [.ref (ad 24), .int sg]) (ws := TbW dA ta t ++ (TbW dA tb u ++ (LiW dA la g ++ (VW dA h ad x)))) (sz := sz) (Qc := fun A => va_Qi (fun (r9 : Int32) (u9 : TB) => r9 = 1 ∧ u9 = (jsR sg u t u.rc).de) (fun (u9 : TB) t9 => bW D A (TbW dA ta t ++ (TbW dA tb u9 ++ (LiW dA la (LI.s_el g (va_up (va_up g.el (x.adep - 1 - 1) (some (tb 0))) (x.adep - 1) (some (ta 0)))) ++ (VW dA h ad (VS.s_adep x (x.adep - 1)))))) t9) A) (by decide) (Nat.le_of_ble_eq_true rfl) ?_
  intro A p e s m below meth c ls hsz hB
  obtain ⟨hx, hb, hr, hml, hown, hin, hlk, hE, hK, hP, hD, hS, hA, hN, hl⟩ := hB
  have hown : s.vm.findClass "SeriesVault$Answers" = some m.cls := hown
  have hl : lv_has ls 4 [(0, .ref (ad 24)), (1, .int sg)] := hl
  obtain ⟨H, hH⟩ : ∃ z, z = s.heap := ⟨_, rfl⟩
  have hP : va_P D vwCl (TbW dA ta t ++ (TbW dA tb u ++ (LiW dA la g ++ (VW dA h ad x)))) H := by rw [hH]; exact hP
  have hS : va_S A s.heap H [] := by rw [hH]; exact hS
  rw [← hH]
  refine lv_aload_n hx hb d_A_join_0 rfl (lv_at hl 0 rfl) ?_
  refine gF (v := .ref (ad 25)) hx hb hown hE hK hP 49 rfl rfl layA 0 (by decide) w799 rfl d_A_join_1 ?_
  rw [← hla]
  refine lv_aload_n hx hb d_A_join_4 rfl (lv_at hl 0 rfl) ?_
  refine gF (v := .int (nI x.adep)) hx hb hown hE hK hP 49 rfl rfl layA 1 (by decide) w1538 rfl d_A_join_5 ?_
  refine lv_iconst (v := 2) hx hb d_A_join_8 (by decide) ?_
  refine lv_isub hx hb d_A_join_9 (tpi (y := nI (x.adep - 2)) (pk_sub (a := x.adep) (b := 2) (by omega)) ?_)
  have hP := pmP (show List.Perm (α := Nat × va_E) (TbW dA ta t ++ (TbW dA tb u ++ (LiW dA la g ++ (VW dA h ad x)))) (LiW dA la g ++ (TbW dA ta t ++ (TbW dA tb u ++ (VW dA h ad x)))) from (List.Perm.append_left (TbW dA ta t) (List.perm_append_comm_assoc (TbW dA tb u) (LiW dA la g) (VW dA h ad x))).trans (List.perm_append_comm_assoc (TbW dA ta t) (LiW dA la g) (TbW dA tb u ++ (VW dA h ad x)))) hP
  have hD := pmD (show List.Perm (α := Nat × va_E) (TbW dA ta t ++ (TbW dA tb u ++ (LiW dA la g ++ (VW dA h ad x)))) (LiW dA la g ++ (TbW dA ta t ++ (TbW dA tb u ++ (VW dA h ad x)))) from (List.Perm.append_left (TbW dA ta t) (List.perm_append_comm_assoc (TbW dA tb u) (LiW dA la g) (VW dA h ad x))).trans (List.perm_append_comm_assoc (TbW dA ta t) (LiW dA la g) (TbW dA tb u ++ (VW dA h ad x)))) hD
  refine jkR (wr := []) (rnV (As := [.int (nI (x.adep - 2))]) (rest := []) hx hb hml hown hE hK (hN _ _ hS) hP hD (v_Lget l D dA H.size (TbW dA ta t ++ (TbW dA tb u ++ (VW dA h ad x))) la g (x.adep - 2) (ta 0) hs hn (show (x.adep - 2) < g.sz from by omega) he1) (q0 := 0) rfl rfl w1489 w1537 w1490 w1491 w680 rfl rfl ⟨⟨by decide, by decide⟩, rfl⟩ ⟨(Nat.le_of_ble_eq_true rfl), (Nat.le_of_ble_eq_true rfl)⟩ rfl hl.1 rfl (Nat.le_of_ble_eq_true rfl) d_A_join_10 ⟨(Nat.le_of_ble_eq_true rfl), (Nat.le_of_ble_eq_true rfl)⟩) hP hD hS hA (fun u2 r1 H locs hp9 hP hD hS => ?_)
  have hP : va_P D vwCl (LiW dA la g ++ (TbW dA ta t ++ (TbW dA tb u ++ (VW dA h ad x)))) H := hP
  have hD : va_D A (LiW dA la g ++ (TbW dA ta t ++ (TbW dA tb u ++ (VW dA h ad x)))) := hD
  have f_e_3 := hp9
  have e9 := f_e_3
  subst e9
  refine va_castE hx hb hown (hE.t w805 rfl) (va_recv hK hP (ci := 8) (q0 := 2) (q := ("SeriesVault$Table", TT, 7)) rfl rfl) d_A_join_13 ?_
  refine lv_astore_n hx hb d_A_join_16 rfl hl (by decide) rfl (fun ls hl => ?_)
  have hl : lv_has ls 4 [(2, .ref (ta 0)), (0, .ref (ad 24)), (1, .int sg)] := hl
  refine lv_aload_n hx hb d_A_join_17 rfl (lv_at hl 1 rfl) ?_
  refine gF (v := .ref (ad 25)) hx hb hown hE hK hP 49 rfl rfl layA 0 (by decide) w799 rfl d_A_join_18 ?_
  rw [← hla]
  refine lv_aload_n hx hb d_A_join_21 rfl (lv_at hl 1 rfl) ?_
  refine gF (v := .int (nI x.adep)) hx hb hown hE hK hP 49 rfl rfl layA 1 (by decide) w1538 rfl d_A_join_22 ?_
  refine lv_iconst (v := 1) hx hb d_A_join_25 (by decide) ?_
  refine lv_isub hx hb d_A_join_26 (tpi (y := nI (x.adep - 1)) (pk_sub (a := x.adep) (b := 1) (by omega)) ?_)
  refine jkR (wr := []) (rnV (As := [.int (nI (x.adep - 1))]) (rest := []) hx hb hml hown hE hK (hN _ _ hS) hP hD (v_Lget l D dA H.size (TbW dA ta t ++ (TbW dA tb u ++ (VW dA h ad x))) la g (x.adep - 1) (tb 0) hs hn (show (x.adep - 1) < g.sz from by omega) he2) (q0 := 0) rfl rfl w1489 w1537 w1490 w1491 w680 rfl rfl ⟨⟨by decide, by decide⟩, rfl⟩ ⟨(Nat.le_of_ble_eq_true rfl), (Nat.le_of_ble_eq_true rfl)⟩ rfl hl.1 rfl (Nat.le_of_ble_eq_true rfl) d_A_join_27 ⟨(Nat.le_of_ble_eq_true rfl), (Nat.le_of_ble_eq_true rfl)⟩) hP hD hS hA (fun u5 r4 H locs hp9 hP hD hS => ?_)
  have hP : va_P D vwCl (LiW dA la g ++ (TbW dA ta t ++ (TbW dA tb u ++ (VW dA h ad x)))) H := hP
  have hD : va_D A (LiW dA la g ++ (TbW dA ta t ++ (TbW dA tb u ++ (VW dA h ad x)))) := hD
  have f_e_6 := hp9
  have e9 := f_e_6
  subst e9
  refine va_castE hx hb hown (hE.t w805 rfl) (va_recv hK hP (ci := 8) (q0 := 7) (q := ("SeriesVault$Table", TT, 7)) rfl rfl) d_A_join_30 ?_
  refine lv_astore_n hx hb d_A_join_33 rfl hl (by decide) rfl (fun ls hl => ?_)
  have hl : lv_has ls 4 [(3, .ref (tb 0)), (2, .ref (ta 0)), (0, .ref (ad 24)), (1, .int sg)] := hl
  refine lv_aload_n hx hb d_A_join_34 rfl (lv_at hl 2 rfl) ?_
  refine lv_dup hx hb d_A_join_35 rfl ?_
  refine gF (v := .int (nI x.adep)) hx hb hown hE hK hP 49 rfl rfl layA 1 (by decide) w1538 rfl d_A_join_36 ?_
  refine lv_iconst (v := 1) hx hb d_A_join_39 (by decide) ?_
  refine lv_isub hx hb d_A_join_40 (tpi (y := nI (x.adep - 1)) (pk_sub (a := x.adep) (b := 1) (by omega)) ?_)
  refine pF (v := .int (nI (x.adep - 1))) hx hb hown hE hK hP hD hS 49 rfl rfl layA tyA tokA nmA 1 (by decide) w1538 rfl rfl rfl (Nat.le_of_ble_eq_true rfl) d_A_join_41 (fun H locs hP hD hS => ?_)
  have hP : va_P D vwCl (LiW dA la g ++ (TbW dA ta t ++ (TbW dA tb u ++ (VW dA h ad (VS.s_adep x (x.adep - 1)))))) H := hP
  have hD : va_D A (LiW dA la g ++ (TbW dA ta t ++ (TbW dA tb u ++ (VW dA h ad (VS.s_adep x (x.adep - 1)))))) := hD
  refine lv_aload_n hx hb d_A_join_44 rfl (lv_at hl 1 rfl) ?_
  refine lv_aload_n hx hb d_A_join_45 rfl (lv_at hl 0 rfl) ?_
  have hP := pmP (show List.Perm (α := Nat × va_E) (LiW dA la g ++ (TbW dA ta t ++ (TbW dA tb u ++ (VW dA h ad (VS.s_adep x (x.adep - 1)))))) (TbW dA ta t ++ (LiW dA la g ++ (TbW dA tb u ++ (VW dA h ad (VS.s_adep x (x.adep - 1)))))) from List.perm_append_comm_assoc (LiW dA la g) (TbW dA ta t) (TbW dA tb u ++ (VW dA h ad (VS.s_adep x (x.adep - 1))))) hP
  have hD := pmD (show List.Perm (α := Nat × va_E) (LiW dA la g ++ (TbW dA ta t ++ (TbW dA tb u ++ (VW dA h ad (VS.s_adep x (x.adep - 1)))))) (TbW dA ta t ++ (LiW dA la g ++ (TbW dA tb u ++ (VW dA h ad (VS.s_adep x (x.adep - 1)))))) from List.perm_append_comm_assoc (LiW dA la g) (TbW dA ta t) (TbW dA tb u ++ (VW dA h ad (VS.s_adep x (x.adep - 1))))) hD
  have hP := pmP (show List.Perm (α := Nat × va_E) (TbW dA ta t ++ (LiW dA la g ++ (TbW dA tb u ++ (VW dA h ad (VS.s_adep x (x.adep - 1)))))) (TbW dA ta t ++ (TbW dA tb u ++ (LiW dA la g ++ (VW dA h ad (VS.s_adep x (x.adep - 1)))))) from List.Perm.append_left (TbW dA ta t) (List.perm_append_comm_assoc (LiW dA la g) (TbW dA tb u) (VW dA h ad (VS.s_adep x (x.adep - 1))))) hP
  have hD := pmD (show List.Perm (α := Nat × va_E) (TbW dA ta t ++ (LiW dA la g ++ (TbW dA tb u ++ (VW dA h ad (VS.s_adep x (x.adep - 1)))))) (TbW dA ta t ++ (TbW dA tb u ++ (LiW dA la g ++ (VW dA h ad (VS.s_adep x (x.adep - 1)))))) from List.Perm.append_left (TbW dA ta t) (List.perm_append_comm_assoc (LiW dA la g) (TbW dA tb u) (VW dA h ad (VS.s_adep x (x.adep - 1))))) hD
  refine jkI (wr := []) (rnV (As := [.ref (tb 0)]) (rest := []) hx hb hml hown hE hK (hN _ _ hS) hP hD (v_ThasNamesOf l D dA H.size (LiW dA la g ++ (VW dA h ad (VS.s_adep x (x.adep - 1)))) ta t tb u NL NR (nmOk_m (fun _ hm => (List.mem_append_right _ (plm hm))) hna) (nmOk_m (fun _ hm => (List.mem_append_right _ (plm hm))) hnb) hc1 hc2) (q0 := 0) rfl rfl w1541 w1540 w1542 w1543 w807 rfl rfl ⟨⟨by decide, by decide⟩, rfl⟩ ⟨(Nat.le_of_ble_eq_true rfl), (Nat.le_of_ble_eq_true rfl)⟩ rfl hl.1 rfl (Nat.le_of_ble_eq_true rfl) d_A_join_46 ⟨(Nat.le_of_ble_eq_true rfl), (Nat.le_of_ble_eq_true rfl)⟩) hP hD hS hA (fun r7 u8 H locs hp9 hP hD hS => ?_)
  have hP : va_P D vwCl (TbW dA ta t ++ (TbW dA tb u ++ (LiW dA la g ++ (VW dA h ad (VS.s_adep x (x.adep - 1)))))) H := hP
  have hD : va_D A (TbW dA ta t ++ (TbW dA tb u ++ (LiW dA la g ++ (VW dA h ad (VS.s_adep x (x.adep - 1)))))) := hD
  replace hp9 : bI (namB NL NR t.nc u.nc) = r7 := Eq.symm hp9
  subst hp9
  refine lv_if_eq hx hb d_A_join_49 (tgt := 60) rfl (fun _ => ?_) (fun h9 => absurd (by rw [hnn]; decide) h9)
  refine lv_aload_n hx hb d_A_join_60 rfl (lv_at hl 0 rfl) ?_
  refine gFN (v := .int (nI u.nc)) hx hb hown hE hK hP 5 rfl rfl layT 1 (by decide) w1544 rfl d_A_join_61 ?_
  refine lv_if_ne hx hb d_A_join_64 (tgt := 76) rfl (fun _ => ?_) (fun h9 => absurd h9 (mt (nI_eq (a := u.nc) (b := 0) (by omega) (by omega)).mp hu1))
  refine lv_aload_n hx hb d_A_join_76 rfl (lv_at hl 1 rfl) ?_
  refine gFN (v := .int (nI t.nc)) hx hb hown hE hK hP 0 rfl rfl layT 1 (by decide) w1544 rfl d_A_join_77 ?_
  refine lv_if_ne hx hb d_A_join_80 (tgt := 120) rfl (fun h9 => absurd ((nI_eq (a := t.nc) (b := 0) (by omega) (by omega)).mpr ht0) h9) (fun _ => ?_)
  refine lv_aload_n hx hb d_A_join_83 rfl (lv_at hl 0 rfl) ?_
  refine lv_iload_n hx hb d_A_join_84 rfl (lv_at hl 3 rfl) ?_
  refine lv_aload_n hx hb d_A_join_85 rfl (lv_at hl 1 rfl) ?_
  refine lv_iconst (v := 1) hx hb d_A_join_86 (by decide) ?_
  have hP := pmP (show List.Perm (α := Nat × va_E) (TbW dA ta t ++ (TbW dA tb u ++ (LiW dA la g ++ (VW dA h ad (VS.s_adep x (x.adep - 1)))))) (TbW dA tb u ++ (TbW dA ta t ++ (LiW dA la g ++ (VW dA h ad (VS.s_adep x (x.adep - 1)))))) from List.perm_append_comm_assoc (TbW dA ta t) (TbW dA tb u) (LiW dA la g ++ (VW dA h ad (VS.s_adep x (x.adep - 1))))) hP
  have hD := pmD (show List.Perm (α := Nat × va_E) (TbW dA ta t ++ (TbW dA tb u ++ (LiW dA la g ++ (VW dA h ad (VS.s_adep x (x.adep - 1)))))) (TbW dA tb u ++ (TbW dA ta t ++ (LiW dA la g ++ (VW dA h ad (VS.s_adep x (x.adep - 1)))))) from List.perm_append_comm_assoc (TbW dA ta t) (TbW dA tb u) (LiW dA la g ++ (VW dA h ad (VS.s_adep x (x.adep - 1))))) hD
  refine jkV (wr := []) (rnV (As := [.int sg, .ref (ta 0), .int 1]) (rest := []) hx hb hml hown hE hK (hN _ _ hS) hP hD (v_TjoinWithSingle_r l D dA H.size (LiW dA la g ++ (VW dA h ad (VS.s_adep x (x.adep - 1)))) tb u ta t sg hop hcM hcN k3 k4 hw.symm k1 k2 (rsAll_m (fun _ hm => (List.mem_append_right _ (plm hm))) hrb) ht) (q0 := 0) rfl rfl w1550 w1549 w1551 w1552 w807 rfl rfl ⟨⟨by decide, by decide⟩, rfl⟩ ⟨(Nat.le_of_ble_eq_true rfl), (Nat.le_of_ble_eq_true rfl)⟩ rfl hl.1 rfl (Nat.le_of_ble_eq_true rfl) d_A_join_87 ⟨(Nat.le_of_ble_eq_true rfl), (Nat.le_of_ble_eq_true rfl)⟩) hP hD hS hA (fun u10 H locs hp9 hP hD hS => ?_)
  obtain ⟨y11, h9u⟩ : ∃ z9, z9 = u10 := ⟨_, rfl⟩
  subst h9u
  have hP : va_P D vwCl (TbW dA tb y11 ++ (TbW dA ta t ++ (LiW dA la g ++ (VW dA h ad (VS.s_adep x (x.adep - 1)))))) H := hP
  have hD : va_D A (TbW dA tb y11 ++ (TbW dA ta t ++ (LiW dA la g ++ (VW dA h ad (VS.s_adep x (x.adep - 1)))))) := hD
  have f_e_12 := hp9
  refine lv_aload_n hx hb d_A_join_90 rfl (lv_at hl 2 rfl) ?_
  refine gF (v := .ref (ad 25)) hx hb hown hE hK hP 49 rfl rfl layA 0 (by decide) w799 rfl d_A_join_91 ?_
  rw [← hla]
  refine lv_aload_n hx hb d_A_join_94 rfl (lv_at hl 2 rfl) ?_
  refine gF (v := .int (nI (x.adep - 1))) hx hb hown hE hK hP 49 rfl rfl layA 1 (by decide) w1538 rfl d_A_join_95 ?_
  refine lv_iconst (v := 1) hx hb d_A_join_98 (by decide) ?_
  refine lv_isub hx hb d_A_join_99 (tpi (y := nI ((x.adep - 1) - 1)) (pk_sub (a := x.adep - 1) (b := 1) (by omega)) ?_)
  refine lv_aload_n hx hb d_A_join_100 rfl (lv_at hl 0 rfl) ?_
  have hP := pmP (show List.Perm (α := Nat × va_E) (TbW dA tb y11 ++ (TbW dA ta t ++ (LiW dA la g ++ (VW dA h ad (VS.s_adep x (x.adep - 1)))))) (LiW dA la g ++ (TbW dA tb y11 ++ (TbW dA ta t ++ (VW dA h ad (VS.s_adep x (x.adep - 1)))))) from (List.Perm.append_left (TbW dA tb y11) (List.perm_append_comm_assoc (TbW dA ta t) (LiW dA la g) (VW dA h ad (VS.s_adep x (x.adep - 1))))).trans (List.perm_append_comm_assoc (TbW dA tb y11) (LiW dA la g) (TbW dA ta t ++ (VW dA h ad (VS.s_adep x (x.adep - 1)))))) hP
  have hD := pmD (show List.Perm (α := Nat × va_E) (TbW dA tb y11 ++ (TbW dA ta t ++ (LiW dA la g ++ (VW dA h ad (VS.s_adep x (x.adep - 1)))))) (LiW dA la g ++ (TbW dA tb y11 ++ (TbW dA ta t ++ (VW dA h ad (VS.s_adep x (x.adep - 1)))))) from (List.Perm.append_left (TbW dA tb y11) (List.perm_append_comm_assoc (TbW dA ta t) (LiW dA la g) (VW dA h ad (VS.s_adep x (x.adep - 1))))).trans (List.perm_append_comm_assoc (TbW dA tb y11) (LiW dA la g) (TbW dA ta t ++ (VW dA h ad (VS.s_adep x (x.adep - 1)))))) hD
  refine jkR (wr := []) (rnV (As := [.int (nI ((x.adep - 1) - 1)), .ref (tb 0)]) (rest := []) hx hb hml hown hE hK (hN _ _ hS) hP hD (v_Lset l D dA H.size (TbW dA tb y11 ++ (TbW dA ta t ++ (VW dA h ad (VS.s_adep x (x.adep - 1))))) la g ((x.adep - 1) - 1) (ta 0) (tb 0) ([.ref (tb 1), .int (nI y11.nc), .int (nI y11.wi), .int (nI y11.rc), .ref (tb 2), .ref (tb 3), .ref y11.cA]) hs hn (show ((x.adep - 1) - 1) < g.sz from by omega) (show g.el (x.adep - 1 - 1) = some (ta 0) by rw [show x.adep - 1 - 1 = x.adep - 2 by omega]; exact he1) (List.mem_of_getElem? (i := 0) rfl)) (q0 := 0) rfl rfl w1554 w1553 w1555 w1556 w680 rfl rfl ⟨⟨by decide, by decide⟩, rfl⟩ ⟨(Nat.le_of_ble_eq_true rfl), (Nat.le_of_ble_eq_true rfl)⟩ rfl hl.1 rfl (Nat.le_of_ble_eq_true rfl) d_A_join_101 ⟨(Nat.le_of_ble_eq_true rfl), (Nat.le_of_ble_eq_true rfl)⟩) hP hD hS hA (fun u14 r13 H locs hp9 hP hD hS => ?_)
  have hP : va_P D vwCl (LiW dA la (LI.s_el g (va_up g.el ((x.adep - 1) - 1) (some (tb 0)))) ++ (TbW dA tb y11 ++ (TbW dA ta t ++ (VW dA h ad (VS.s_adep x (x.adep - 1)))))) H := hP
  have hD : va_D A (LiW dA la (LI.s_el g (va_up g.el ((x.adep - 1) - 1) (some (tb 0)))) ++ (TbW dA tb y11 ++ (TbW dA ta t ++ (VW dA h ad (VS.s_adep x (x.adep - 1)))))) := hD
  have f_e_15 := hp9
  refine lv_pop hx hb d_A_join_104 rfl ?_
  refine lv_aload_n hx hb d_A_join_105 rfl (lv_at hl 2 rfl) ?_
  refine gF (v := .ref (ad 25)) hx hb hown hE hK hP 49 rfl rfl layA 0 (by decide) w799 rfl d_A_join_106 ?_
  rw [← hla]
  refine lv_aload_n hx hb d_A_join_109 rfl (lv_at hl 2 rfl) ?_
  refine gF (v := .int (nI (x.adep - 1))) hx hb hown hE hK hP 49 rfl rfl layA 1 (by decide) w1538 rfl d_A_join_110 ?_
  refine lv_aload_n hx hb d_A_join_113 rfl (lv_at hl 1 rfl) ?_
  refine jkR (wr := []) (rnV (As := [.int (nI (x.adep - 1)), .ref (ta 0)]) (rest := []) hx hb hml hown hE hK (hN _ _ hS) hP hD (v_Lset l D dA H.size (TbW dA tb y11 ++ (TbW dA ta t ++ (VW dA h ad (VS.s_adep x (x.adep - 1))))) la (LI.s_el g (va_up g.el ((x.adep - 1) - 1) (some (tb 0)))) (x.adep - 1) (tb 0) (ta 0) ([.ref (ta 1), .int (nI t.nc), .int (nI t.wi), .int (nI t.rc), .ref (ta 2), .ref (ta 3), .ref t.cA]) hs hn (show (x.adep - 1) < g.sz from by omega) (show va_up g.el (x.adep - 1 - 1) (some (tb 0)) (x.adep - 1) = some (tb 0) by rw [va_up_ne _ _ (by omega)]; exact he2) (List.mem_of_getElem? (i := 5) rfl)) (q0 := 0) rfl rfl w1554 w1553 w1555 w1556 w680 rfl rfl ⟨⟨by decide, by decide⟩, rfl⟩ ⟨(Nat.le_of_ble_eq_true rfl), (Nat.le_of_ble_eq_true rfl)⟩ rfl hl.1 rfl (Nat.le_of_ble_eq_true rfl) d_A_join_114 ⟨(Nat.le_of_ble_eq_true rfl), (Nat.le_of_ble_eq_true rfl)⟩) hP hD hS hA (fun u17 r16 H locs hp9 hP hD hS => ?_)
  have hP : va_P D vwCl (LiW dA la (LI.s_el g (va_up (va_up g.el ((x.adep - 1) - 1) (some (tb 0))) (x.adep - 1) (some (ta 0)))) ++ (TbW dA tb y11 ++ (TbW dA ta t ++ (VW dA h ad (VS.s_adep x (x.adep - 1)))))) H := hP
  have hD : va_D A (LiW dA la (LI.s_el g (va_up (va_up g.el ((x.adep - 1) - 1) (some (tb 0))) (x.adep - 1) (some (ta 0)))) ++ (TbW dA tb y11 ++ (TbW dA ta t ++ (VW dA h ad (VS.s_adep x (x.adep - 1)))))) := hD
  have f_e_18 := hp9
  refine lv_pop hx hb d_A_join_117 rfl ?_
  refine lv_iconst (v := 1) hx hb d_A_join_118 (by decide) ?_
  have hP := pmP (show List.Perm (α := Nat × va_E) (LiW dA la (LI.s_el g (va_up (va_up g.el ((x.adep - 1) - 1) (some (tb 0))) (x.adep - 1) (some (ta 0)))) ++ (TbW dA tb y11 ++ (TbW dA ta t ++ (VW dA h ad (VS.s_adep x (x.adep - 1)))))) (TbW dA ta t ++ (LiW dA la (LI.s_el g (va_up (va_up g.el ((x.adep - 1) - 1) (some (tb 0))) (x.adep - 1) (some (ta 0)))) ++ (TbW dA tb y11 ++ (VW dA h ad (VS.s_adep x (x.adep - 1)))))) from (List.Perm.append_left (LiW dA la (LI.s_el g (va_up (va_up g.el ((x.adep - 1) - 1) (some (tb 0))) (x.adep - 1) (some (ta 0))))) (List.perm_append_comm_assoc (TbW dA tb y11) (TbW dA ta t) (VW dA h ad (VS.s_adep x (x.adep - 1))))).trans (List.perm_append_comm_assoc (LiW dA la (LI.s_el g (va_up (va_up g.el ((x.adep - 1) - 1) (some (tb 0))) (x.adep - 1) (some (ta 0))))) (TbW dA ta t) (TbW dA tb y11 ++ (VW dA h ad (VS.s_adep x (x.adep - 1)))))) hP
  have hD := pmD (show List.Perm (α := Nat × va_E) (LiW dA la (LI.s_el g (va_up (va_up g.el ((x.adep - 1) - 1) (some (tb 0))) (x.adep - 1) (some (ta 0)))) ++ (TbW dA tb y11 ++ (TbW dA ta t ++ (VW dA h ad (VS.s_adep x (x.adep - 1)))))) (TbW dA ta t ++ (LiW dA la (LI.s_el g (va_up (va_up g.el ((x.adep - 1) - 1) (some (tb 0))) (x.adep - 1) (some (ta 0)))) ++ (TbW dA tb y11 ++ (VW dA h ad (VS.s_adep x (x.adep - 1)))))) from (List.Perm.append_left (LiW dA la (LI.s_el g (va_up (va_up g.el ((x.adep - 1) - 1) (some (tb 0))) (x.adep - 1) (some (ta 0))))) (List.perm_append_comm_assoc (TbW dA tb y11) (TbW dA ta t) (VW dA h ad (VS.s_adep x (x.adep - 1))))).trans (List.perm_append_comm_assoc (LiW dA la (LI.s_el g (va_up (va_up g.el ((x.adep - 1) - 1) (some (tb 0))) (x.adep - 1) (some (ta 0))))) (TbW dA ta t) (TbW dA tb y11 ++ (VW dA h ad (VS.s_adep x (x.adep - 1)))))) hD
  have hP := pmP (show List.Perm (α := Nat × va_E) (TbW dA ta t ++ (LiW dA la (LI.s_el g (va_up (va_up g.el ((x.adep - 1) - 1) (some (tb 0))) (x.adep - 1) (some (ta 0)))) ++ (TbW dA tb y11 ++ (VW dA h ad (VS.s_adep x (x.adep - 1)))))) (TbW dA ta t ++ (TbW dA tb y11 ++ (LiW dA la (LI.s_el g (va_up (va_up g.el ((x.adep - 1) - 1) (some (tb 0))) (x.adep - 1) (some (ta 0)))) ++ (VW dA h ad (VS.s_adep x (x.adep - 1)))))) from List.Perm.append_left (TbW dA ta t) (List.perm_append_comm_assoc (LiW dA la (LI.s_el g (va_up (va_up g.el ((x.adep - 1) - 1) (some (tb 0))) (x.adep - 1) (some (ta 0))))) (TbW dA tb y11) (VW dA h ad (VS.s_adep x (x.adep - 1))))) hP
  have hD := pmD (show List.Perm (α := Nat × va_E) (TbW dA ta t ++ (LiW dA la (LI.s_el g (va_up (va_up g.el ((x.adep - 1) - 1) (some (tb 0))) (x.adep - 1) (some (ta 0)))) ++ (TbW dA tb y11 ++ (VW dA h ad (VS.s_adep x (x.adep - 1)))))) (TbW dA ta t ++ (TbW dA tb y11 ++ (LiW dA la (LI.s_el g (va_up (va_up g.el ((x.adep - 1) - 1) (some (tb 0))) (x.adep - 1) (some (ta 0)))) ++ (VW dA h ad (VS.s_adep x (x.adep - 1)))))) from List.Perm.append_left (TbW dA ta t) (List.perm_append_comm_assoc (LiW dA la (LI.s_el g (va_up (va_up g.el ((x.adep - 1) - 1) (some (tb 0))) (x.adep - 1) (some (ta 0))))) (TbW dA tb y11) (VW dA h ad (VS.s_adep x (x.adep - 1))))) hD
  have e9 : (LI.s_el g (va_up (va_up g.el ((x.adep - 1) - 1) (some (tb 0))) (x.adep - 1) (some (ta 0))) : LI) = LI.s_el g (va_up (va_up g.el (x.adep - 1 - 1) (some (tb 0))) (x.adep - 1) (some (ta 0))) := by rw [show (va_up (va_up g.el (x.adep - 1 - 1) (some (tb 0))) (x.adep - 1) (some (ta 0))) = (va_up (va_up g.el ((x.adep - 1) - 1) (some (tb 0))) (x.adep - 1) (some (ta 0))) from by rfl] <;> rfl
  rw [e9] at hP hD
  exact rfZ hx hb hr (bI_nar true) hlk hS y11 ⟨rfl, f_e_12⟩ hP hD (Nat.le_of_ble_eq_true rfl) (Nat.le_of_ble_eq_true rfl) d_A_join_119
end
