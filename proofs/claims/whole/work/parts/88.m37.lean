def MS.psS (x : MS) (sg : Nat) : MS := MS.s_opn (MS.s_signCount (MS.s_signPlaces (MS.s_signs x (va_up x.signs x.signCount sg)) (va_up x.signPlaces x.signCount x.frm)) (x.signCount + 1)) (x.opn + 1)
def MS.osF (x : MS) (sg : Nat) : Bool × MS := if x.opn = 8 then (false, x.flS 3 x.frm) else (x.psS sg).nx
theorem d_M_opens_0 : decode prog_14_method_80_code 0 = .ok (.aload_n 0, 1) := by decide +kernel
theorem d_M_opens_1 : decode prog_14_method_80_code 1 = .ok (.getfield 436, 3) := by decide +kernel
theorem d_M_opens_4 : decode prog_14_method_80_code 4 = .ok (.bipush 8, 2) := by decide +kernel
theorem d_M_opens_6 : decode prog_14_method_80_code 6 = .ok (.if_icmp .ne 13, 3) := by decide +kernel
theorem d_M_opens_19 : decode prog_14_method_80_code 19 = .ok (.aload_n 0, 1) := by decide +kernel
theorem d_M_opens_20 : decode prog_14_method_80_code 20 = .ok (.dup, 1) := by decide +kernel
theorem d_M_opens_21 : decode prog_14_method_80_code 21 = .ok (.getfield 436, 3) := by decide +kernel
theorem d_M_opens_24 : decode prog_14_method_80_code 24 = .ok (.iconst 1, 1) := by decide +kernel
theorem d_M_opens_25 : decode prog_14_method_80_code 25 = .ok (.iadd, 1) := by decide +kernel
theorem d_M_opens_26 : decode prog_14_method_80_code 26 = .ok (.putfield 436, 3) := by decide +kernel
theorem d_M_opens_29 : decode prog_14_method_80_code 29 = .ok (.aload_n 0, 1) := by decide +kernel
theorem d_M_opens_30 : decode prog_14_method_80_code 30 = .ok (.getfield 126, 3) := by decide +kernel
theorem d_M_opens_33 : decode prog_14_method_80_code 33 = .ok (.aload_n 0, 1) := by decide +kernel
theorem d_M_opens_34 : decode prog_14_method_80_code 34 = .ok (.getfield 439, 3) := by decide +kernel
theorem d_M_opens_37 : decode prog_14_method_80_code 37 = .ok (.iload_n 1, 1) := by decide +kernel
theorem d_M_opens_38 : decode prog_14_method_80_code 38 = .ok (.iastore, 1) := by decide +kernel
theorem d_M_opens_39 : decode prog_14_method_80_code 39 = .ok (.aload_n 0, 1) := by decide +kernel
theorem d_M_opens_40 : decode prog_14_method_80_code 40 = .ok (.getfield 129, 3) := by decide +kernel
theorem d_M_opens_43 : decode prog_14_method_80_code 43 = .ok (.aload_n 0, 1) := by decide +kernel
theorem d_M_opens_44 : decode prog_14_method_80_code 44 = .ok (.getfield 439, 3) := by decide +kernel
theorem d_M_opens_47 : decode prog_14_method_80_code 47 = .ok (.aload_n 0, 1) := by decide +kernel
theorem d_M_opens_48 : decode prog_14_method_80_code 48 = .ok (.getfield 345, 3) := by decide +kernel
theorem d_M_opens_51 : decode prog_14_method_80_code 51 = .ok (.iastore, 1) := by decide +kernel
theorem d_M_opens_52 : decode prog_14_method_80_code 52 = .ok (.aload_n 0, 1) := by decide +kernel
theorem d_M_opens_53 : decode prog_14_method_80_code 53 = .ok (.dup, 1) := by decide +kernel
theorem d_M_opens_54 : decode prog_14_method_80_code 54 = .ok (.getfield 439, 3) := by decide +kernel
theorem d_M_opens_57 : decode prog_14_method_80_code 57 = .ok (.iconst 1, 1) := by decide +kernel
theorem d_M_opens_58 : decode prog_14_method_80_code 58 = .ok (.iadd, 1) := by decide +kernel
theorem d_M_opens_59 : decode prog_14_method_80_code 59 = .ok (.putfield 439, 3) := by decide +kernel
theorem d_M_opens_62 : decode prog_14_method_80_code 62 = .ok (.aload_n 0, 1) := by decide +kernel
theorem d_M_opens_63 : decode prog_14_method_80_code 63 = .ok (.invokevirtual 373, 3) := by decide +kernel
theorem d_M_opens_66 : decode prog_14_method_80_code 66 = .ok (.ireturn, 1) := by decide +kernel
theorem d_M_opens_9 : decode prog_14_method_80_code 9 = .ok (.aload_n 0, 1) := by decide +kernel
theorem d_M_opens_10 : decode prog_14_method_80_code 10 = .ok (.iconst 3, 1) := by decide +kernel
theorem d_M_opens_11 : decode prog_14_method_80_code 11 = .ok (.aload_n 0, 1) := by decide +kernel
theorem d_M_opens_12 : decode prog_14_method_80_code 12 = .ok (.getfield 345, 3) := by decide +kernel
theorem d_M_opens_15 : decode prog_14_method_80_code 15 = .ok (.invokevirtual 224, 3) := by decide +kernel
theorem d_M_opens_18 : decode prog_14_method_80_code 18 = .ok (.ireturn, 1) := by decide +kernel
set_option maxHeartbeats 4000000 in
set_option maxRecDepth 100000 in
theorem k_opens (l : Launch) (D : va_G) (dA : Nat → ClassId) (sz : Nat) (h : Nat) (ad : Nat → Nat) (x : MS) (sg : Nat) (hlx : x.lx) (hsc : x.signCount < 32) (hop : x.opn ≤ 8) : Met l ⟨"SeriesVaultModel", "opens", "(I)Z"⟩ [Cond.code ⟨"SeriesVaultModel", "opens", "(I)Z"⟩ prog_14_method_80_code 2 (some FieldType.boolean)] { frames := 4, cells := 0, slots := 0, locals := 67 } (pC D dA [.ref h, .int (nI sg)] (MW dA h ad x) sz) (va_Qi (fun (r9 : Int32) (u9 : MS) => r9 = bI (x.osF sg).1 ∧ u9 = (x.osF sg).2) (fun (u9 : MS) t9 => bW D (va_A (MW dA h ad x) sz) (MW dA h ad u9) t9) (va_A (MW dA h ad x) sz)) 0 0 (va_A (MW dA h ad x) sz) := by
  refine mkC (y := ⟨"SeriesVaultModel", "opens", "(I)Z"⟩) (cc := prog_14_method_80_code) (maxL := 2) (av := [.ref h, .int (nI sg)]) (ws := MW dA h ad x) (sz := sz) (Qc := fun A => va_Qi (fun (r9 : Int32) (u9 : MS) => r9 = bI (x.osF sg).1 ∧ u9 = (x.osF sg).2) (fun (u9 : MS) t9 => bW D A (MW dA h ad u9) t9) A) (by decide) (Nat.le_of_ble_eq_true rfl) ?_
  intro A p e s m below meth c ls hsz hB
  obtain ⟨hx, hb, hr, hml, hown, hin, hlk, hE, hK, hP, hD, hS, hA, hN, hl⟩ := hB
  have hown : s.vm.findClass "SeriesVaultModel" = some m.cls := hown
  have hl : lv_has ls 2 [(0, .ref h), (1, .int (nI sg))] := hl
  obtain ⟨H, hH⟩ : ∃ z, z = s.heap := ⟨_, rfl⟩
  have hP : va_P D vwCl (MW dA h ad x) H := by rw [hH]; exact hP
  have hS : va_S A s.heap H [] := by rw [hH]; exact hS
  rw [← hH]
  obtain ⟨hl1, hft, htl, hf0⟩ := hlx
  refine lv_aload_n hx hb d_M_opens_0 rfl (lv_at hl 0 rfl) ?_
  refine gF (v := .int (nI x.opn)) hx hb hown hE hK hP 0 rfl rfl layM 69 (by decide) w478 rfl d_M_opens_1 ?_
  refine lv_bipush (v := 8) hx hb d_M_opens_4 (by decide) ?_
  refine lv_icmp_ne hx hb d_M_opens_6 (tgt := 19) rfl (fun g1 => ?_) (fun g1 => ?_)
  · have g1 := mt (nI_eq (a := x.opn) (b := 8) (by omega) (by omega)).mpr g1
    refine lv_aload_n hx hb d_M_opens_19 rfl (lv_at hl 0 rfl) ?_
    refine lv_dup hx hb d_M_opens_20 rfl ?_
    refine gF (v := .int (nI x.opn)) hx hb hown hE hK hP 0 rfl rfl layM 69 (by decide) w478 rfl d_M_opens_21 ?_
    refine lv_iconst (v := 1) hx hb d_M_opens_24 (by decide) ?_
    refine lv_iadd hx hb d_M_opens_25 (tpi (y := nI (x.opn + 1)) (nI_add (x.opn) (1)) ?_)
    refine pF (v := .int (nI (x.opn + 1))) hx hb hown hE hK hP hD hS 0 rfl rfl layM tyM tokM nmM 69 (by decide) w478 rfl rfl rfl (Nat.le_of_ble_eq_true rfl) d_M_opens_26 (fun H locs hP hD hS => ?_)
    have hP : va_P D vwCl (MW dA h ad (MS.s_opn x (x.opn + 1))) H := hP
    have hD : va_D A (MW dA h ad (MS.s_opn x (x.opn + 1))) := hD
    refine lv_aload_n hx hb d_M_opens_29 rfl (lv_at hl 0 rfl) ?_
    refine gF (v := .ref (ad 66)) hx hb hown hE hK hP 0 rfl rfl layM 66 (by decide) w532 rfl d_M_opens_30 ?_
    refine lv_aload_n hx hb d_M_opens_33 rfl (lv_at hl 0 rfl) ?_
    refine gF (v := .int (nI x.signCount)) hx hb hown hE hK hP 0 rfl rfl layM 68 (by decide) w477 rfl d_M_opens_34 ?_
    refine lv_iload_n hx hb d_M_opens_37 rfl (lv_at hl 1 rfl) ?_
    refine nistN (v := sg) hx hb hK hP hD hS 33 1 rfl rfl (x.signCount) (by omega) (by decide) d_M_opens_38 (fun H locs hP hD hS => ?_)
    have hP : va_P D vwCl (MW dA h ad (MS.s_opn (MS.s_signs x (va_up x.signs x.signCount sg)) (x.opn + 1))) H := hP
    have hD : va_D A (MW dA h ad (MS.s_opn (MS.s_signs x (va_up x.signs x.signCount sg)) (x.opn + 1))) := hD
    refine lv_aload_n hx hb d_M_opens_39 rfl (lv_at hl 0 rfl) ?_
    refine gF (v := .ref (ad 67)) hx hb hown hE hK hP 0 rfl rfl layM 67 (by decide) w533 rfl d_M_opens_40 ?_
    refine lv_aload_n hx hb d_M_opens_43 rfl (lv_at hl 0 rfl) ?_
    refine gF (v := .int (nI x.signCount)) hx hb hown hE hK hP 0 rfl rfl layM 68 (by decide) w477 rfl d_M_opens_44 ?_
    refine lv_aload_n hx hb d_M_opens_47 rfl (lv_at hl 0 rfl) ?_
    refine gF (v := .int (nI x.frm)) hx hb hown hE hK hP 0 rfl rfl layM 45 (by decide) w464 rfl d_M_opens_48 ?_
    refine nistN (v := x.frm) hx hb hK hP hD hS 34 1 rfl rfl (x.signCount) (by omega) (by decide) d_M_opens_51 (fun H locs hP hD hS => ?_)
    have hP : va_P D vwCl (MW dA h ad (MS.s_opn (MS.s_signPlaces (MS.s_signs x (va_up x.signs x.signCount sg)) (va_up x.signPlaces x.signCount x.frm)) (x.opn + 1))) H := hP
    have hD : va_D A (MW dA h ad (MS.s_opn (MS.s_signPlaces (MS.s_signs x (va_up x.signs x.signCount sg)) (va_up x.signPlaces x.signCount x.frm)) (x.opn + 1))) := hD
    refine lv_aload_n hx hb d_M_opens_52 rfl (lv_at hl 0 rfl) ?_
    refine lv_dup hx hb d_M_opens_53 rfl ?_
    refine gF (v := .int (nI x.signCount)) hx hb hown hE hK hP 0 rfl rfl layM 68 (by decide) w477 rfl d_M_opens_54 ?_
    refine lv_iconst (v := 1) hx hb d_M_opens_57 (by decide) ?_
    refine lv_iadd hx hb d_M_opens_58 (tpi (y := nI (x.signCount + 1)) (nI_add (x.signCount) (1)) ?_)
    refine pF (v := .int (nI (x.signCount + 1))) hx hb hown hE hK hP hD hS 0 rfl rfl layM tyM tokM nmM 68 (by decide) w477 rfl rfl rfl (Nat.le_of_ble_eq_true rfl) d_M_opens_59 (fun H locs hP hD hS => ?_)
    have hP : va_P D vwCl (MW dA h ad (MS.s_opn (MS.s_signCount (MS.s_signPlaces (MS.s_signs x (va_up x.signs x.signCount sg)) (va_up x.signPlaces x.signCount x.frm)) (x.signCount + 1)) (x.opn + 1))) H := hP
    have hD : va_D A (MW dA h ad (MS.s_opn (MS.s_signCount (MS.s_signPlaces (MS.s_signs x (va_up x.signs x.signCount sg)) (va_up x.signPlaces x.signCount x.frm)) (x.signCount + 1)) (x.opn + 1))) := hD
    refine lv_aload_n hx hb d_M_opens_62 rfl (lv_at hl 0 rfl) ?_
    refine jfI (rnV (As := []) (rest := []) hx hb hml hown hE hK (hN _ _ hS) hP hD (k_next l D dA H.size h ad (MS.s_opn (MS.s_signCount (MS.s_signPlaces (MS.s_signs x (va_up x.signs x.signCount sg)) (va_up x.signPlaces x.signCount x.frm)) (x.signCount + 1)) (x.opn + 1)) hl1 htl hf0) (q0 := 0) rfl rfl w480 w479 w481 w482 w328 rfl rfl ⟨⟨by decide, by decide⟩, rfl⟩ ⟨(Nat.le_of_ble_eq_true rfl), (Nat.le_of_ble_eq_true rfl)⟩ rfl hl.1 rfl (Nat.le_of_ble_eq_true rfl) d_M_opens_63 ⟨(Nat.le_of_ble_eq_true rfl), (Nat.le_of_ble_eq_true rfl)⟩) hP hD hS hA (fun r2 u3 H locs hp9 hP hD hS => ?_)
    obtain ⟨y4, h9u⟩ : ∃ z9, z9 = u3 := ⟨_, rfl⟩
    subst h9u
    have hP : va_P D vwCl (MW dA h ad y4) H := hP
    have hD : va_D A (MW dA h ad y4) := hD
    obtain ⟨hp9, f_e_5⟩ := hp9
    replace hp9 : bI ((MS.s_opn (MS.s_signCount (MS.s_signPlaces (MS.s_signs x (va_up x.signs x.signCount sg)) (va_up x.signPlaces x.signCount x.frm)) (x.signCount + 1)) (x.opn + 1)).nx).1 = r2 := Eq.symm hp9
    subst hp9
    exact rfZ hx hb hr (bI_nar (((MS.s_opn (MS.s_signCount (MS.s_signPlaces (MS.s_signs x (va_up x.signs x.signCount sg)) (va_up x.signPlaces x.signCount x.frm)) (x.signCount + 1)) (x.opn + 1)).nx).1)) hlk hS y4 (by have e9 : x.osF sg = (x.psS sg).nx := if_neg (by omega); rw [e9]; exact ⟨rfl, f_e_5⟩) hP hD (Nat.le_of_ble_eq_true rfl) (Nat.le_of_ble_eq_true rfl) d_M_opens_66
  · have g1 := (nI_eq (a := x.opn) (b := 8) (by omega) (by omega)).mp g1
    refine lv_aload_n hx hb d_M_opens_9 rfl (lv_at hl 0 rfl) ?_
    refine lv_iconst (v := 3) hx hb d_M_opens_10 (by decide) ?_
    refine lv_aload_n hx hb d_M_opens_11 rfl (lv_at hl 0 rfl) ?_
    refine gF (v := .int (nI x.frm)) hx hb hown hE hK hP 0 rfl rfl layM 45 (by decide) w464 rfl d_M_opens_12 ?_
    refine jfI (rnV (As := [.int 3, .int (nI x.frm)]) (rest := []) hx hb hml hown hE hK (hN _ _ hS) hP hD (k_flaw_0 l D dA H.size h ad x 3 (nI x.frm) hf0) (q0 := 0) rfl rfl w431 w430 w432 w433 w328 rfl rfl ⟨⟨by decide, by decide⟩, rfl⟩ ⟨(Nat.le_of_ble_eq_true rfl), (Nat.le_of_ble_eq_true rfl)⟩ rfl hl.1 rfl (Nat.le_of_ble_eq_true rfl) d_M_opens_15 ⟨(Nat.le_of_ble_eq_true rfl), (Nat.le_of_ble_eq_true rfl)⟩) hP hD hS hA (fun r6 u7 H locs hp9 hP hD hS => ?_)
    have hP : va_P D vwCl (MW dA h ad (MS.s_faultPlace (MS.s_faultCode x 3) (nI x.frm))) H := hP
    have hD : va_D A (MW dA h ad (MS.s_faultPlace (MS.s_faultCode x 3) (nI x.frm))) := hD
    replace hp9 : bI false = r6 := Eq.symm hp9
    subst hp9
    exact rfZ hx hb hr (bI_nar false) hlk hS (MS.s_faultPlace (MS.s_faultCode x 3) (nI x.frm)) (by have e9 : x.osF sg = (false, x.flS 3 x.frm) := if_pos (by omega); rw [e9]; exact ⟨rfl, rfl⟩) hP hD (Nat.le_of_ble_eq_true rfl) (Nat.le_of_ble_eq_true rfl) d_M_opens_18
def MS.mc1 (y : MS) : Bool × MS := if y.kind = 61 ∨ 256 ≤ y.kind then (if y.nx.1 = true then y.nx.2.ndF 3 else (false, y.nx.2)) else (false, y.flS 2 y.frm)
/-- a match read -/
def MS.mcF (x : MS) : Bool × MS := if (x.ndF 2).1 = true then (x.ndF 2).2.mc1 else (false, (x.ndF 2).2)
theorem mc_n {x : MS} (h : (x.ndF 2).1 = false) : x.mcF = (false, (x.ndF 2).2) := if_neg (by rw [h]; decide)
theorem mc_y {x y : MS} (h : (x.ndF 2).1 = true) (e : y = (x.ndF 2).2) : x.mcF = y.mc1 := (if_pos h).trans (by rw [e])
theorem mc1_x {y : MS} (h1 : ¬ y.kind = 61) (h2 : ¬ 256 ≤ y.kind) : y.mc1 = (false, y.flS 2 y.frm) := if_neg (fun z => z.elim h1 h2)
theorem mc1_n {y : MS} (h : y.kind = 61 ∨ 256 ≤ y.kind) (h2 : y.nx.1 = false) : y.mc1 = (false, y.nx.2) := (if_pos h).trans (if_neg (by rw [h2]; decide))
theorem mc1_y {y z : MS} (h : y.kind = 61 ∨ 256 ≤ y.kind) (h2 : y.nx.1 = true) (e : z = y.nx.2) : y.mc1 = z.ndF 3 := (if_pos h).trans ((if_pos h2).trans (by rw [e]))
theorem d_M_match_0 : decode prog_14_method_84_code 0 = .ok (.aload_n 0, 1) := by decide +kernel
theorem d_M_match_1 : decode prog_14_method_84_code 1 = .ok (.iconst 2, 1) := by decide +kernel
theorem d_M_match_2 : decode prog_14_method_84_code 2 = .ok (.invokevirtual 457, 3) := by decide +kernel
theorem d_M_match_5 : decode prog_14_method_84_code 5 = .ok (.ifCond .ne 5, 3) := by decide +kernel
theorem d_M_match_10 : decode prog_14_method_84_code 10 = .ok (.aload_n 0, 1) := by decide +kernel
theorem d_M_match_11 : decode prog_14_method_84_code 11 = .ok (.getfield 351, 3) := by decide +kernel
theorem d_M_match_14 : decode prog_14_method_84_code 14 = .ok (.bipush 61, 2) := by decide +kernel
theorem d_M_match_16 : decode prog_14_method_84_code 16 = .ok (.if_icmp .eq 23, 3) := by decide +kernel
theorem d_M_match_39 : decode prog_14_method_84_code 39 = .ok (.aload_n 0, 1) := by decide +kernel
theorem d_M_match_40 : decode prog_14_method_84_code 40 = .ok (.invokevirtual 373, 3) := by decide +kernel
theorem d_M_match_43 : decode prog_14_method_84_code 43 = .ok (.ifCond .eq 15, 3) := by decide +kernel
theorem d_M_match_58 : decode prog_14_method_84_code 58 = .ok (.iconst 0, 1) := by decide +kernel
theorem d_M_match_59 : decode prog_14_method_84_code 59 = .ok (.ireturn, 1) := by decide +kernel
theorem d_M_match_46 : decode prog_14_method_84_code 46 = .ok (.aload_n 0, 1) := by decide +kernel
theorem d_M_match_47 : decode prog_14_method_84_code 47 = .ok (.iconst 3, 1) := by decide +kernel
theorem d_M_match_48 : decode prog_14_method_84_code 48 = .ok (.invokevirtual 457, 3) := by decide +kernel
theorem d_M_match_51 : decode prog_14_method_84_code 51 = .ok (.ifCond .eq 7, 3) := by decide +kernel
theorem d_M_match_54 : decode prog_14_method_84_code 54 = .ok (.iconst 1, 1) := by decide +kernel
theorem d_M_match_55 : decode prog_14_method_84_code 55 = .ok (.goto 4, 3) := by decide +kernel
theorem d_M_match_19 : decode prog_14_method_84_code 19 = .ok (.aload_n 0, 1) := by decide +kernel
theorem d_M_match_20 : decode prog_14_method_84_code 20 = .ok (.getfield 351, 3) := by decide +kernel
theorem d_M_match_23 : decode prog_14_method_84_code 23 = .ok (.sipush 256, 3) := by decide +kernel
theorem d_M_match_26 : decode prog_14_method_84_code 26 = .ok (.if_icmp .ge 13, 3) := by decide +kernel
theorem d_M_match_29 : decode prog_14_method_84_code 29 = .ok (.aload_n 0, 1) := by decide +kernel
theorem d_M_match_30 : decode prog_14_method_84_code 30 = .ok (.iconst 2, 1) := by decide +kernel
theorem d_M_match_31 : decode prog_14_method_84_code 31 = .ok (.aload_n 0, 1) := by decide +kernel
theorem d_M_match_32 : decode prog_14_method_84_code 32 = .ok (.getfield 345, 3) := by decide +kernel
theorem d_M_match_35 : decode prog_14_method_84_code 35 = .ok (.invokevirtual 224, 3) := by decide +kernel
theorem d_M_match_38 : decode prog_14_method_84_code 38 = .ok (.ireturn, 1) := by decide +kernel
theorem d_M_match_8 : decode prog_14_method_84_code 8 = .ok (.iconst 0, 1) := by decide +kernel
theorem d_M_match_9 : decode prog_14_method_84_code 9 = .ok (.ireturn, 1) := by decide +kernel
theorem w1022 : Cond.methodLink "SeriesVaultModel" 457 ⟨"SeriesVaultModel", "need", "(I)Z"⟩ ∈ aW := aw_of (tb_10 (List.mem_of_getElem? (i := 209) rfl)) rfl
theorem w1023 : Cond.code ⟨"SeriesVaultModel", "need", "(I)Z"⟩ prog_14_method_60_code 2 (some FieldType.boolean) ∈ aW := aw_of (tb_10 (List.mem_of_getElem? (i := 212) rfl)) rfl
theorem w1024 : Cond.instanceMethod ⟨"SeriesVaultModel", "need", "(I)Z"⟩ ∈ aW := aw_of (tb_10 (List.mem_of_getElem? (i := 211) rfl)) rfl
theorem w1025 : Cond.selects "SeriesVaultModel" ⟨"SeriesVaultModel", "need", "(I)Z"⟩ ⟨"SeriesVaultModel", "need", "(I)Z"⟩ ∈ aW := aw_pr (List.mem_map.mpr ⟨_, pv_7 (List.mem_of_getElem? (i := 10) rfl), rfl⟩) rfl
set_option maxHeartbeats 4000000 in
set_option maxRecDepth 100000 in
theorem k_match (l : Launch) (D : va_G) (dA : Nat → ClassId) (sz : Nat) (h : Nat) (ad : Nat → Nat) (x : MS) (hlx : x.lx) : Met l ⟨"SeriesVaultModel", "match", "()Z"⟩ [Cond.code ⟨"SeriesVaultModel", "match", "()Z"⟩ prog_14_method_84_code 1 (some FieldType.boolean)] { frames := 5, cells := 0, slots := 0, locals := 88 } (pC D dA [.ref h] (MW dA h ad x) sz) (va_Qi (fun (r9 : Int32) (u9 : MS) => r9 = bI (x.mcF).1 ∧ u9 = (x.mcF).2) (fun (u9 : MS) t9 => bW D (va_A (MW dA h ad x) sz) (MW dA h ad u9) t9) (va_A (MW dA h ad x) sz)) 0 0 (va_A (MW dA h ad x) sz) := by
  refine mkC (y := ⟨"SeriesVaultModel", "match", "()Z"⟩) (cc := prog_14_method_84_code) (maxL := 1) (av := [.ref h]) (ws := MW dA h ad x) (sz := sz) (Qc := fun A => va_Qi (fun (r9 : Int32) (u9 : MS) => r9 = bI (x.mcF).1 ∧ u9 = (x.mcF).2) (fun (u9 : MS) t9 => bW D A (MW dA h ad u9) t9) A) (by decide) (Nat.le_of_ble_eq_true rfl) ?_
  intro A p e s m below meth c ls hsz hB
  obtain ⟨hx, hb, hr, hml, hown, hin, hlk, hE, hK, hP, hD, hS, hA, hN, hl⟩ := hB
  have hown : s.vm.findClass "SeriesVaultModel" = some m.cls := hown
  have hl : lv_has ls 1 [(0, .ref h)] := hl
  obtain ⟨H, hH⟩ : ∃ z, z = s.heap := ⟨_, rfl⟩
  have hP : va_P D vwCl (MW dA h ad x) H := by rw [hH]; exact hP
  have hS : va_S A s.heap H [] := by rw [hH]; exact hS
  rw [← hH]
  refine lv_aload_n hx hb d_M_match_0 rfl (lv_at hl 0 rfl) ?_
  refine lv_iconst (v := 2) hx hb d_M_match_1 (by decide) ?_
  refine jfI (rnV (As := [.int 2]) (rest := []) hx hb hml hown hE hK (hN _ _ hS) hP hD (k_need l D dA H.size h ad x 2 hlx) (q0 := 0) rfl rfl w1023 w1022 w1024 w1025 w328 rfl rfl ⟨⟨by decide, by decide⟩, rfl⟩ ⟨(Nat.le_of_ble_eq_true rfl), (Nat.le_of_ble_eq_true rfl)⟩ rfl hl.1 rfl (Nat.le_of_ble_eq_true rfl) d_M_match_2 ⟨(Nat.le_of_ble_eq_true rfl), (Nat.le_of_ble_eq_true rfl)⟩) hP hD hS hA (fun r1 u2 H locs hp9 hP hD hS => ?_)
  obtain ⟨y3, h9u⟩ : ∃ z9, z9 = u2 := ⟨_, rfl⟩
  subst h9u
  have hP : va_P D vwCl (MW dA h ad y3) H := hP
  have hD : va_D A (MW dA h ad y3) := hD
  obtain ⟨hp9, f_e_4⟩ := hp9
  replace hp9 : bI (x.ndF 2).1 = r1 := Eq.symm hp9
  subst hp9
  refine lv_if_ne hx hb d_M_match_5 (tgt := 10) rfl (fun g5 => ?_) (fun g5 => ?_)
  · have g5 := bI_n0 g5
    have l1 : y3.lx := by rw [f_e_4]; exact (nd_in hlx g5).1
    refine lv_aload_n hx hb d_M_match_10 rfl (lv_at hl 0 rfl) ?_
    refine gF (v := .int y3.kind) hx hb hown hE hK hP 0 rfl rfl layM 44 (by decide) w469 rfl d_M_match_11 ?_
    refine lv_bipush (v := 61) hx hb d_M_match_14 (by decide) ?_
    refine lv_icmp_eq hx hb d_M_match_16 (tgt := 39) rfl (fun g6 => ?_) (fun g6 => ?_)
    · have g6 := g6
      refine lv_aload_n hx hb d_M_match_39 rfl (lv_at hl 0 rfl) ?_
      refine jfI (rnV (As := []) (rest := []) hx hb hml hown hE hK (hN _ _ hS) hP hD (k_next l D dA H.size h ad y3 l1.1 l1.2.2.1 l1.2.2.2) (q0 := 0) rfl rfl w480 w479 w481 w482 w328 rfl rfl ⟨⟨by decide, by decide⟩, rfl⟩ ⟨(Nat.le_of_ble_eq_true rfl), (Nat.le_of_ble_eq_true rfl)⟩ rfl hl.1 rfl (Nat.le_of_ble_eq_true rfl) d_M_match_40 ⟨(Nat.le_of_ble_eq_true rfl), (Nat.le_of_ble_eq_true rfl)⟩) hP hD hS hA (fun r7 u8 H locs hp9 hP hD hS => ?_)
      obtain ⟨y9, h9u⟩ : ∃ z9, z9 = u8 := ⟨_, rfl⟩
      subst h9u
      have hP : va_P D vwCl (MW dA h ad y9) H := hP
      have hD : va_D A (MW dA h ad y9) := hD
      obtain ⟨hp9, f_e_10⟩ := hp9
      replace hp9 : bI (y3.nx).1 = r7 := Eq.symm hp9
      subst hp9
      refine lv_if_eq hx hb d_M_match_43 (tgt := 58) rfl (fun g11 => ?_) (fun g11 => ?_)
      · have g11 := bI_0 g11
        refine lv_iconst (v := 0) hx hb d_M_match_58 (by decide) ?_
        exact rfZ hx hb hr (bI_nar false) hlk hS y9 (by rw [mc_y g5 f_e_4, mc1_n (Or.inl g6) g11]; exact ⟨rfl, f_e_10⟩) hP hD (Nat.le_of_ble_eq_true rfl) (Nat.le_of_ble_eq_true rfl) d_M_match_59
      · have g11 := bI_n0 g11
        have l2 : y9.lx := by rw [f_e_10]; exact (nx_in l1 g11).1
        refine lv_aload_n hx hb d_M_match_46 rfl (lv_at hl 0 rfl) ?_
        refine lv_iconst (v := 3) hx hb d_M_match_47 (by decide) ?_
        refine jfI (rnV (As := [.int 3]) (rest := []) hx hb hml hown hE hK (hN _ _ hS) hP hD (k_need l D dA H.size h ad y9 3 l2) (q0 := 0) rfl rfl w1023 w1022 w1024 w1025 w328 rfl rfl ⟨⟨by decide, by decide⟩, rfl⟩ ⟨(Nat.le_of_ble_eq_true rfl), (Nat.le_of_ble_eq_true rfl)⟩ rfl hl.1 rfl (Nat.le_of_ble_eq_true rfl) d_M_match_48 ⟨(Nat.le_of_ble_eq_true rfl), (Nat.le_of_ble_eq_true rfl)⟩) hP hD hS hA (fun r12 u13 H locs hp9 hP hD hS => ?_)
        obtain ⟨y14, h9u⟩ : ∃ z9, z9 = u13 := ⟨_, rfl⟩
        subst h9u
        have hP : va_P D vwCl (MW dA h ad y14) H := hP
        have hD : va_D A (MW dA h ad y14) := hD
        obtain ⟨hp9, f_e_15⟩ := hp9
        replace hp9 : bI (y9.ndF 3).1 = r12 := Eq.symm hp9
        subst hp9
        refine lv_if_eq hx hb d_M_match_51 (tgt := 58) rfl (fun g16 => ?_) (fun g16 => ?_)
        · have g16 := bI_0 g16
          refine lv_iconst (v := 0) hx hb d_M_match_58 (by decide) ?_
          exact rfZ hx hb hr (bI_nar false) hlk hS y14 (by rw [mc_y g5 f_e_4, mc1_y (Or.inl g6) g11 f_e_10]; exact ⟨by rw [g16]; rfl, f_e_15⟩) hP hD (Nat.le_of_ble_eq_true rfl) (Nat.le_of_ble_eq_true rfl) d_M_match_59
        · have g16 := bI_n0 g16
          refine lv_iconst (v := 1) hx hb d_M_match_54 (by decide) ?_
          refine lv_goto hx hb d_M_match_55 (tgt := 59) rfl ?_
          exact rfZ hx hb hr (bI_nar true) hlk hS y14 (by rw [mc_y g5 f_e_4, mc1_y (Or.inl g6) g11 f_e_10]; exact ⟨by rw [g16]; rfl, f_e_15⟩) hP hD (Nat.le_of_ble_eq_true rfl) (Nat.le_of_ble_eq_true rfl) d_M_match_59
    · have g6 := g6
      refine lv_aload_n hx hb d_M_match_19 rfl (lv_at hl 0 rfl) ?_
      refine gF (v := .int y3.kind) hx hb hown hE hK hP 0 rfl rfl layM 44 (by decide) w469 rfl d_M_match_20 ?_
      refine lv_sipush (v := 256) hx hb d_M_match_23 (by decide) ?_
      refine lv_icmp_ge hx hb d_M_match_26 (tgt := 39) rfl (fun g17 => ?_) (fun g17 => ?_)
      · have g17 := g17
        refine lv_aload_n hx hb d_M_match_39 rfl (lv_at hl 0 rfl) ?_
        refine jfI (rnV (As := []) (rest := []) hx hb hml hown hE hK (hN _ _ hS) hP hD (k_next l D dA H.size h ad y3 l1.1 l1.2.2.1 l1.2.2.2) (q0 := 0) rfl rfl w480 w479 w481 w482 w328 rfl rfl ⟨⟨by decide, by decide⟩, rfl⟩ ⟨(Nat.le_of_ble_eq_true rfl), (Nat.le_of_ble_eq_true rfl)⟩ rfl hl.1 rfl (Nat.le_of_ble_eq_true rfl) d_M_match_40 ⟨(Nat.le_of_ble_eq_true rfl), (Nat.le_of_ble_eq_true rfl)⟩) hP hD hS hA (fun r18 u19 H locs hp9 hP hD hS => ?_)
        obtain ⟨y20, h9u⟩ : ∃ z9, z9 = u19 := ⟨_, rfl⟩
        subst h9u
        have hP : va_P D vwCl (MW dA h ad y20) H := hP
        have hD : va_D A (MW dA h ad y20) := hD
        obtain ⟨hp9, f_e_21⟩ := hp9
        replace hp9 : bI (y3.nx).1 = r18 := Eq.symm hp9
        subst hp9
        refine lv_if_eq hx hb d_M_match_43 (tgt := 58) rfl (fun g22 => ?_) (fun g22 => ?_)
        · have g22 := bI_0 g22
          refine lv_iconst (v := 0) hx hb d_M_match_58 (by decide) ?_
          exact rfZ hx hb hr (bI_nar false) hlk hS y20 (by rw [mc_y g5 f_e_4, mc1_n (Or.inr g17) g22]; exact ⟨rfl, f_e_21⟩) hP hD (Nat.le_of_ble_eq_true rfl) (Nat.le_of_ble_eq_true rfl) d_M_match_59
        · have g22 := bI_n0 g22
          have l2 : y20.lx := by rw [f_e_21]; exact (nx_in l1 g22).1
          refine lv_aload_n hx hb d_M_match_46 rfl (lv_at hl 0 rfl) ?_
          refine lv_iconst (v := 3) hx hb d_M_match_47 (by decide) ?_
          refine jfI (rnV (As := [.int 3]) (rest := []) hx hb hml hown hE hK (hN _ _ hS) hP hD (k_need l D dA H.size h ad y20 3 l2) (q0 := 0) rfl rfl w1023 w1022 w1024 w1025 w328 rfl rfl ⟨⟨by decide, by decide⟩, rfl⟩ ⟨(Nat.le_of_ble_eq_true rfl), (Nat.le_of_ble_eq_true rfl)⟩ rfl hl.1 rfl (Nat.le_of_ble_eq_true rfl) d_M_match_48 ⟨(Nat.le_of_ble_eq_true rfl), (Nat.le_of_ble_eq_true rfl)⟩) hP hD hS hA (fun r23 u24 H locs hp9 hP hD hS => ?_)
          obtain ⟨y25, h9u⟩ : ∃ z9, z9 = u24 := ⟨_, rfl⟩
          subst h9u
          have hP : va_P D vwCl (MW dA h ad y25) H := hP
          have hD : va_D A (MW dA h ad y25) := hD
          obtain ⟨hp9, f_e_26⟩ := hp9
          replace hp9 : bI (y20.ndF 3).1 = r23 := Eq.symm hp9
          subst hp9
          refine lv_if_eq hx hb d_M_match_51 (tgt := 58) rfl (fun g27 => ?_) (fun g27 => ?_)
          · have g27 := bI_0 g27
            refine lv_iconst (v := 0) hx hb d_M_match_58 (by decide) ?_
            exact rfZ hx hb hr (bI_nar false) hlk hS y25 (by rw [mc_y g5 f_e_4, mc1_y (Or.inr g17) g22 f_e_21]; exact ⟨by rw [g27]; rfl, f_e_26⟩) hP hD (Nat.le_of_ble_eq_true rfl) (Nat.le_of_ble_eq_true rfl) d_M_match_59
          · have g27 := bI_n0 g27
            refine lv_iconst (v := 1) hx hb d_M_match_54 (by decide) ?_
            refine lv_goto hx hb d_M_match_55 (tgt := 59) rfl ?_
            exact rfZ hx hb hr (bI_nar true) hlk hS y25 (by rw [mc_y g5 f_e_4, mc1_y (Or.inr g17) g22 f_e_21]; exact ⟨by rw [g27]; rfl, f_e_26⟩) hP hD (Nat.le_of_ble_eq_true rfl) (Nat.le_of_ble_eq_true rfl) d_M_match_59
      · have g17 := g17
        refine lv_aload_n hx hb d_M_match_29 rfl (lv_at hl 0 rfl) ?_
        refine lv_iconst (v := 2) hx hb d_M_match_30 (by decide) ?_
        refine lv_aload_n hx hb d_M_match_31 rfl (lv_at hl 0 rfl) ?_
        refine gF (v := .int (nI y3.frm)) hx hb hown hE hK hP 0 rfl rfl layM 45 (by decide) w464 rfl d_M_match_32 ?_
        refine jfI (rnV (As := [.int 2, .int (nI y3.frm)]) (rest := []) hx hb hml hown hE hK (hN _ _ hS) hP hD (k_flaw_0 l D dA H.size h ad y3 2 (nI y3.frm) l1.2.2.2) (q0 := 0) rfl rfl w431 w430 w432 w433 w328 rfl rfl ⟨⟨by decide, by decide⟩, rfl⟩ ⟨(Nat.le_of_ble_eq_true rfl), (Nat.le_of_ble_eq_true rfl)⟩ rfl hl.1 rfl (Nat.le_of_ble_eq_true rfl) d_M_match_35 ⟨(Nat.le_of_ble_eq_true rfl), (Nat.le_of_ble_eq_true rfl)⟩) hP hD hS hA (fun r28 u29 H locs hp9 hP hD hS => ?_)
        have hP : va_P D vwCl (MW dA h ad (MS.s_faultPlace (MS.s_faultCode y3 2) (nI y3.frm))) H := hP
        have hD : va_D A (MW dA h ad (MS.s_faultPlace (MS.s_faultCode y3 2) (nI y3.frm))) := hD
        replace hp9 : bI false = r28 := Eq.symm hp9
        subst hp9
        exact rfZ hx hb hr (bI_nar false) hlk hS (MS.s_faultPlace (MS.s_faultCode y3 2) (nI y3.frm)) (by rw [mc_y g5 f_e_4, mc1_x g6 g17]; exact ⟨rfl, rfl⟩) hP hD (Nat.le_of_ble_eq_true rfl) (Nat.le_of_ble_eq_true rfl) d_M_match_38
  · have g5 := bI_0 g5
    refine lv_iconst (v := 0) hx hb d_M_match_8 (by decide) ?_
    exact rfZ hx hb hr (bI_nar false) hlk hS y3 (by rw [mc_n g5]; exact ⟨rfl, f_e_4⟩) hP hD (Nat.le_of_ble_eq_true rfl) (Nat.le_of_ble_eq_true rfl) d_M_match_9
